/-! Calls that ask. -/
def SIO (Q : Nat → Option LessonV) (v : OneV) (x : Option Int32) (y : Option (Int32 × ModelV)) : Prop := ∃ a m', x = some a ∧ y = some (a, m') ∧ R Q v m'
theorem R_mk {Q : Nat → Option LessonV} {v v' : OneV} {m m' : ModelV} (h : R Q v m) (k : mk0 m m') (e1 : One_now v' = One_now v) (e2 : One_image v' = One_image v) (e3 : One_imageIsTaken v' = One_imageIsTaken v) (e4 : One_acts v' = One_acts v) : R Q v' m' := by
  unfold R at h ⊢
  rw [k.1, k.2, e1, e2, e3, e4]
  exact h
theorem under_same : ∀ x, x < 7 → ∀ k, k < 7 → ∃ b, fn_X7_isUnder (nI x) (nI k) = some b ∧ fn_X8_isUnder (nI x) (nI k) = some b := by
  have h : ∀ x, x < 7 → ∀ k, k < 7 → fn_X7_isUnder (nI x) (nI k) = fn_X8_isUnder (nI x) (nI k) ∧ (fn_X8_isUnder (nI x) (nI k)).isSome = true := by decide +kernel
  intro x hx k hk
  obtain ⟨h1, h2⟩ := h x hx k hk
  obtain ⟨b, hb⟩ := Option.isSome_iff_exists.mp h2
  exact ⟨b, h1.trans hb, hb⟩
section AK
variable {Q : Nat → Option LessonV} {v : OneV} {m : ModelV} {ea : Nat} {le : LessonV}
theorem pupil_yes {n : Nat} (hg : rg n (One_now v) (Model_s m)) {p : Nat} (hp : p < n) : fn_X7_isPupil v (nI p) = some 1 ∧ fn_X8_isPupil m (nI p) = some 1 := by
  have hn := hg.2.1.1
  rcases pupil_c hg (nI p) with ⟨p', p1, p2, p3, p4⟩ | ⟨p3, p4⟩
  · exact ⟨p3, p4⟩
  · unfold fn_X7_isPupil at p3
    rw [if_neg (nI_pos (by omega)), hg.2.1.2.1, if_neg (nI_ge hp (by omega)), if_neg (show ¬ (6 : Int32) ≤ nI p from nI_ge (b := 6) (by omega) (by omega))] at p3
    exact absurd (Option.some.inj p3) (by decide)
theorem sim_told (h : R Q v m) (hH : HL Q (One_now v) (Model_s m) ea le) (x : Int32) : SIP (fn_X7_told v le ea x) (fn_X8_told m x) := by
  obtain ⟨⟨n, hg, ht, hl, hn, hs, hp, hb, hpe, hbe⟩, hi, ha⟩ := h
  obtain ⟨h1, h2, z, γ, f, h3, h4, h5⟩ := hH
  have hn6 := hg.2.1.1
  have eg : Group_size (Room_group (One_now v)) = nI n := hg.2.1.2.1
  have g8 := gr_ag hg.1 hg.2
  obtain ⟨e1, e2, e3, e4⟩ := gl_w γ h3
  obtain ⟨w, hw, hwl⟩ := gr_week hg.2
  unfold fn_X7_told fn_X8_told
  by_cases q0 : x = 0
  · rw [if_pos q0, if_pos q0, if_pos q_j0, q_c0]
    exact ⟨_, rfl, congrArg some hg.1.2.1⟩
  rw [if_neg q0, if_neg q0]
  by_cases q1 : x = 1
  · rw [if_pos q1, if_pos q1, if_pos q_j1, q_c1]
    exact ⟨_, rfl, congrArg some hg.1.2.2.1⟩
  rw [if_neg q1, if_neg q1]
  by_cases q2 : x = 2
  · rw [if_pos q2, if_pos q2, h1, m_bind_some, if_pos rfl, x8_goalNow h5, m_bind_some, e1]
    unfold fn_X3_goal
    rw [m_bind_some, h4.2.2.1, e2]
    exact ⟨_, rfl, rfl⟩
  rw [if_neg q2, if_neg q2]
  by_cases q3 : x = 3
  · rw [if_pos q3, if_pos q3, h1, m_bind_some, if_pos rfl, x8_fair h5, m_bind_some, h4.2.2.2.1]
    exact ⟨_, rfl, rfl⟩
  rw [if_neg q3, if_neg q3]
  by_cases q4 : x = 4
  · rw [if_pos q4, if_pos q4, x2_hoursOfAll eg hn6, m_bind_some, x8_allHours (hg.1.1.trans eg) hn6, m_bind_some, ag_all hg.1]
    exact ⟨_, rfl, rfl⟩
  rw [if_neg q4, if_neg q4]
  by_cases q5 : x = 5
  · rw [if_pos q5, if_pos q5, x2_claimsOfAll eg hn6 ⟨w, hw, hwl⟩, m_bind_some, x8_allClaims g8, m_bind_some, n_sum_congr (fun k hk => ag_claim hg.1 hk hw hwl hn6)]
    exact ⟨_, rfl, rfl⟩
  rw [if_neg q5, if_neg q5]
  by_cases q6 : x = 6
  · rw [if_pos q6, if_pos q6, h1, m_bind_some, if_pos rfl, x8_base g8 h5 h3, m_bind_some]
    unfold fn_X3_goal
    rw [m_bind_some, h4.2.2.1, e2, x2_base (show (1 : Int32) ≤ nI (GL γ) from nI_le (a := 1) e3 (by omega)), m_bind_some, show Model_s m 1 = Group_work (Room_group (One_now v)) from hg.1.2.2.1]
    exact ⟨_, rfl, rfl⟩
  rw [if_neg q6, if_neg q6]
  exact ⟨_, rfl, rfl⟩
theorem rule_c (x : Int32) : (fn_X7_isRule x = some 1 ∧ fn_X8_isRule x = some 1) ∨ (fn_X7_isRule x = some 0 ∧ fn_X8_isRule x = some 0) := by
  unfold fn_X7_isRule fn_X8_isRule
  rw [show (3 : Int32) = nI 3 from rfl]
  rcases c_cases x with hx | ⟨j, hj, rfl⟩
  · rw [if_pos hx, in_neg hx]
    exact Or.inr ⟨rfl, rfl⟩
  · rw [if_neg (nI_pos hj)]
    by_cases q : j ≤ 3
    · rw [if_neg (show ¬ (4 : Int32) ≤ nI j from nI_ge (b := 4) (by omega) (by omega)), in_yes q (by omega)]
      exact Or.inl ⟨rfl, rfl⟩
    · rw [if_pos (show (4 : Int32) ≤ nI j from nI_le (a := 4) (by omega) hj), in_no (by omega) hj]
      exact Or.inr ⟨rfl, rfl⟩
theorem sim_mark (h : R Q v m) (hH : HL Q (One_now v) (Model_s m) ea le) (x y : Int32) : SIP (fn_X7_mark v le ea x y) (fn_X8_mark m x y) := by
  obtain ⟨⟨n, hg, ht, hl, hn, hs, hp, hb, hpe, hbe⟩, hi, ha⟩ := h
  obtain ⟨h1, h2, z, γ, f, h3, h4, h5⟩ := hH
  have hn6 := hg.2.1.1
  have eg : Group_size (Room_group (One_now v)) = nI n := hg.2.1.2.1
  obtain ⟨e1, e2, e3, e4⟩ := gl_w γ h3
  unfold fn_X7_mark fn_X8_mark
  rcases pupil_c hg x with ⟨p, p1, rfl, p3, p4⟩ | ⟨p3, p4⟩
  · rw [p3, p4, m_bind_some, m_bind_some, if_neg n10, if_neg n10]
    rcases rule_c y with ⟨r1, r2⟩ | ⟨r1, r2⟩
    · rw [r1, r2, m_bind_some, m_bind_some, if_pos n10, if_neg n10, h1, m_bind_some, if_pos rfl]
      unfold fn_X3_goal
      rw [m_bind_some, h4.2.2.1, e2, x2_markOf (show (1 : Int32) ≤ nI (GL γ) from nI_le (a := 1) e3 (by omega)) eg hn6 p1 (gr_week hg.2), m_bind_some, x8_markOf (gr_ag hg.1 hg.2) h5 h3 y p1, m_bind_some, ag_mark hg.1 (gr_week hg.2) hn6 y _ p1]
      exact ⟨_, rfl, rfl⟩
    · rw [r1, r2, m_bind_some, m_bind_some, if_neg n00, if_pos n0]
      exact ⟨_, rfl, rfl⟩
  · rw [p3, p4, m_bind_some, m_bind_some, if_pos n0, if_pos n0]
    exact ⟨_, rfl, rfl⟩
theorem sim_spread (h : R Q v m) (hH : HL Q (One_now v) (Model_s m) ea le) (x : Int32) : SIP (fn_X7_spread v le ea x) (fn_X8_spread m x) := by
  obtain ⟨⟨n, hg, ht, hl, hn, hs, hp, hb, hpe, hbe⟩, hi, ha⟩ := h
  obtain ⟨h1, h2, z, γ, f, h3, h4, h5⟩ := hH
  have hn6 := hg.2.1.1
  have eg : Group_size (Room_group (One_now v)) = nI n := hg.2.1.2.1
  have g8 := gr_ag hg.1 hg.2
  obtain ⟨e1, e2, e3, e4⟩ := gl_w γ h3
  unfold fn_X7_spread fn_X8_spread
  rcases rule_c x with ⟨r1, r2⟩ | ⟨r1, r2⟩
  · rw [r1, r2, m_bind_some, m_bind_some, if_pos n10, if_pos n10, h1, m_bind_some, if_pos rfl]
    unfold fn_X3_goal
    rw [m_bind_some, h4.2.2.1, e2, x2_spreadOf (show (1 : Int32) ≤ nI (GL γ) from nI_le (a := 1) e3 (by omega)) eg hn6 (gr_week hg.2), m_bind_some, m_jp_eq, x8_spreadLoop g8 h5 h3 x]
    refine ⟨_, rfl, ?_⟩
    have e := spread_same g8 e3 e4 x
    rw [ag_spread hg.1 (gr_week hg.2) hn6] at e
    rw [← e]
    show (if ¬ (sp_s8 n (sv (Model_s m)) x (nI (GL γ)) n).1 = -1 then some _ else some 0) = _
    split <;> rfl
  · rw [r1, r2, m_bind_some, m_bind_some, if_neg n00, if_neg n00]
    exact ⟨_, rfl, rfl⟩
theorem sim_nearest (h : R Q v m) (hH : HL Q (One_now v) (Model_s m) ea le) : SIP (fn_X7_nearest v le ea) (fn_X8_nearest m) := by
  obtain ⟨⟨n, hg, ht, hl, hn, hs, hp, hb, hpe, hbe⟩, hi, ha⟩ := h
  obtain ⟨h1, h2, z, γ, f, h3, h4, h5⟩ := hH
  have hn6 := hg.2.1.1
  have eg : Group_size (Room_group (One_now v)) = nI n := hg.2.1.2.1
  have g8 := gr_ag hg.1 hg.2
  obtain ⟨e1, e2, e3, e4⟩ := gl_w γ h3
  have hA : ∀ r, fn_X2_awayFromHours (Room_group (One_now v)) r (nI (GL γ)) = some (sp_away n (Room_group (One_now v)) r (nI (GL γ))) := fun r => x2_away (show (1 : Int32) ≤ nI (GL γ) from nI_le (a := 1) e3 (by omega)) eg hn6 (gr_week hg.2)
  have hB : ∀ r, fn_X8_farFrom m r = some (sp_away n (Room_group (One_now v)) r (nI (GL γ))) := fun r => by rw [x8_farFrom g8 h5 h3 r, ag_away hg.1 (gr_week hg.2) hn6]
  unfold fn_X7_nearest fn_X8_nearest
  rw [h1, m_bind_some, if_pos rfl]
  unfold fn_X3_goal
  rw [m_bind_some, h4.2.2.1, e2]
  simp only [hA, hB, m_bind_some, m_jp_eq]
  by_cases q : sp_away n (Room_group (One_now v)) 0 (nI (GL γ)) ≤ sp_away n (Room_group (One_now v)) 2 (nI (GL γ))
  · rw [if_pos q]
    split
    · exact ⟨_, rfl, rfl⟩
    · exact ⟨_, rfl, rfl⟩
  · rw [if_neg q]
    split
    · exact ⟨_, rfl, rfl⟩
    · exact ⟨_, rfl, rfl⟩
theorem sim_of (h : R Q v m) (hH : HL Q (One_now v) (Model_s m) ea le) (x y : Int32) : SIO Q v (fn_X7_of v le ea x y) (fn_X8_of m x y) := by
  have h0 := h
  obtain ⟨⟨n, hg, ht, hl, hn, hs, hp, hb, hpe, hbe⟩, hi, ha⟩ := h
  obtain ⟨h1, h2, z, γ, f, h3, h4, h5⟩ := hH
  have hn6 := hg.2.1.1
  have eg : Group_size (Room_group (One_now v)) = nI n := hg.2.1.2.1
  have e20 : Model_s m 20 = nI n := hg.1.1.trans eg
  have g8 := gr_ag hg.1 hg.2
  obtain ⟨w, hw, hwl⟩ := gr_week hg.2
  unfold fn_X7_of fn_X8_of
  rcases pupil_c hg x with ⟨p, p1, rfl, p3, p4⟩ | ⟨p3, p4⟩
  · have i6 : mIn (nI p) 6 = true := q_6 (by omega)
    rw [p3, p4, m_bind_some, m_bind_some, if_pos n10, if_pos n10, q_n (by omega)]
    by_cases q0 : y = 0
    · rw [if_pos q0, if_pos q0, if_pos i6, if_pos (q_i27 (by omega)), q_a27 (by omega)]
      exact ⟨_, m, rfl, by rw [show Model_s m (27 + p) = Group_kinds (Room_group (One_now v)) p from ag_kinds hg.1 p1], h0⟩
    rw [if_neg q0, if_neg q0]
    by_cases q1 : y = 1
    · rw [if_pos q1, if_pos q1, if_pos i6, if_pos (q_i33 (by omega)), q_a33 (by omega)]
      exact ⟨_, m, rfl, by rw [show Model_s m (33 + p) = Group_vs (Room_group (One_now v)) p from ag_vs hg.1 p1], h0⟩
    rw [if_neg q1, if_neg q1]
    by_cases q2 : y = 2
    · rw [if_pos q2, if_pos q2, if_pos i6, if_pos (q_i39 (by omega)), q_a39 (by omega)]
      exact ⟨_, m, rfl, by rw [show Model_s m (39 + p) = Group_skills (Room_group (One_now v)) p from ag_skills hg.1 p1], h0⟩
    rw [if_neg q2, if_neg q2]
    by_cases q3 : y = 3
    · rw [if_pos q3, if_pos q3, if_pos i6, if_pos (q_i8 (by omega)), q_a8 (by omega)]
      exact ⟨_, m, rfl, by rw [show Model_s m (8 + p) = Group_wills (Room_group (One_now v)) p from ag_wills hg.1 p1], h0⟩
    rw [if_neg q3, if_neg q3]
    by_cases q4 : y = 4
    · rw [if_pos q4, if_pos q4, if_pos i6, if_pos (q_i2 (by omega)), q_a2 (by omega)]
      exact ⟨_, m, rfl, by rw [show Model_s m (2 + p) = Group_hours (Room_group (One_now v)) p from ag_hours hg.1 p1], h0⟩
    rw [if_neg q4, if_neg q4]
    by_cases q5 : y = 5
    · rw [if_pos q5, if_pos q5, if_pos i6, if_pos (q_i14 (by omega)), q_a14 (by omega)]
      rw [show Model_s m (14 + p) = Group_outs (Room_group (One_now v)) p from ag_outs hg.1 p1]
      refine ⟨Group_outs (Room_group (One_now v)) p, m, ?_, rfl, h0⟩
      rcases (hg.2.1.2.2 p p1).1 with ho | ho
      · rw [if_pos ho, ho]
      · rw [if_neg (by rw [ho]; decide), ho]
    rw [if_neg q5, if_neg q5]
    by_cases q6 : y = 6
    · obtain ⟨m', a1, a2⟩ := x8_zealOf (m := m) (p := p) (by omega) h5 h4.2.1
      rw [if_pos q6, if_pos q6, h1, m_bind_some, if_pos rfl, x3_zealOf (p := p) (by omega) h4.2.1.1 h4.1, m_bind_some, a1, m_bind_some]
      refine ⟨_, m', rfl, ?_, R_mk h0 (ms_mk a2) rfl rfl rfl rfl⟩
      rw [ag_zeal hg.1 p1]
      rfl
    rw [if_neg q6, if_neg q6]
    by_cases q7 : y = 7
    · obtain ⟨m', a1, a2⟩ := x8_doesOf (m := m) (p := p) e20 hn6 p1 ⟨w, hg.1.2.1.trans hw, hwl⟩ h5 h4.2.1 (g8.1.2.2 p p1).1 (by
        obtain ⟨c, hc1, hc2⟩ := (g8.1.2.2 p p1).2
        rw [show Model_s m (8 + p) = nI c from hc2]
        exact nI_pos0 (by omega))
      rw [if_pos q7, if_pos q7, h1, m_bind_some, if_pos rfl, x2_doesOf eg hn6 p1 ⟨w, hw, hwl⟩ h4.2.1.1 h4.1, m_bind_some, a1, m_bind_some]
      refine ⟨_, m', rfl, ?_, R_mk h0 (ms_mk a2) rfl rfl rfl rfl⟩
      rw [ag_does hg.1 p1 hw hwl hn6]
    rw [if_neg q7, if_neg q7]
    by_cases q8 : y = 8
    · rw [if_pos q8, if_pos q8, x2_shareOf eg hn6 p1, m_bind_some, x8_shareOf e20 hn6 p1, m_bind_some, ag_share hg.1 p1]
      exact ⟨_, m, rfl, rfl, h0⟩
    rw [if_neg q8, if_neg q8]
    by_cases q9 : y = 9
    · rw [if_pos q9, if_pos q9, x2_claimOf eg hn6 p1 ⟨w, hw, hwl⟩, m_bind_some, x8_claim g8 p1, m_bind_some, ag_claim hg.1 p1 hw hwl hn6]
      exact ⟨_, m, rfl, rfl, h0⟩
    rw [if_neg q9, if_neg q9]
    exact ⟨_, m, rfl, rfl, h0⟩
  · rw [p3, p4, m_bind_some, m_bind_some, if_neg n00, if_neg n00]
    exact ⟨_, m, rfl, rfl, h0⟩
theorem sim_as (h : R Q v m) (x y : Int32) : SIP (fn_X7_as v x y) (fn_X8_as m x y) := by
  obtain ⟨⟨n, hg, ht, hl, hn, hs, hp, hb, hpe, hbe⟩, hi, ha⟩ := h
  have hn6 := hg.2.1.1
  unfold fn_X7_as fn_X8_as fn_X7_isKind
  rw [show fn_X8_in y 0 6 = fn_X8_in y 0 (nI 6) from rfl]
  rcases pupil_c hg x with ⟨p, p1, rfl, p3, p4⟩ | ⟨p3, p4⟩
  · have i6 : mIn (nI p) 6 = true := q_6 (by omega)
    rw [p3, p4, m_bind_some, m_bind_some, if_neg n10, if_neg n10]
    rcases c_cases y with hy | ⟨k, hk, rfl⟩
    · rw [if_pos hy, in_neg hy, m_bind_some, m_bind_some, if_neg n00, if_neg n00]
      exact ⟨_, rfl, rfl⟩
    rw [if_neg (nI_pos hk)]
    by_cases q : k ≤ 6
    · obtain ⟨c, c1, c2⟩ := (hg.2.2.2.2 p p1).1
      have e27 : Model_s m (27 + p) = nI c := (ag_kinds hg.1 p1).trans c2
      obtain ⟨b, b1, b2⟩ := under_same c c1 k (by omega)
      rw [if_neg (show ¬ (7 : Int32) ≤ nI k from nI_ge (b := 7) (by omega) (by omega)), in_yes q (by omega), m_bind_some, m_bind_some, if_pos n10, if_pos n10, if_pos i6, if_pos (q_i27 (by omega)), q_n (by omega), q_a27 (by omega), c2, e27, b1, b2, m_bind_some, m_bind_some, if_pos i6, if_pos (q_i33 (by omega)), q_a33 (by omega), show Model_s m (33 + p) = Group_vs (Room_group (One_now v)) p from ag_vs hg.1 p1]
      split
      · exact ⟨_, rfl, rfl⟩
      · exact ⟨_, rfl, rfl⟩
    · rw [if_pos (show (7 : Int32) ≤ nI k from nI_le (a := 7) (by omega) hk), in_no (by omega) hk, m_bind_some, m_bind_some, if_neg n00, if_neg n00]
      exact ⟨_, rfl, rfl⟩
  · rw [p3, p4, m_bind_some, m_bind_some, if_pos n0, if_pos n0]
    exact ⟨_, rfl, rfl⟩
theorem sim_looked (h : R Q v m) : SIP (fn_X7_looked v) (fn_X8_looked m) := by
  obtain ⟨⟨n, hg, ht, hl, hn, hs, hp, ⟨l0, K, k1, k2, k3, k4⟩, hpe, hbe⟩, hi, ha⟩ := h
  have hn6 := hg.2.1.1
  have main : ∀ d k f, k + d = K → d < f → SIP (lp_X7_looked_2 v f (nI k)) (lp_X8_looked_2 m f (nI k)) := by
    intro d
    induction d with
    | zero =>
      intro k f hk hf
      obtain ⟨f', rfl⟩ : ∃ f', f = f' + 1 := ⟨f - 1, by omega⟩
      have e : k = K := by omega
      subst e
      refine ⟨-5, ?_, ?_⟩
      · show st_X7_looked_2 v _ _ = _
        unfold st_X7_looked_2
        rw [k2, if_pos (nI_le (Nat.le_refl k) (by omega))]
      · show st_X8_looked_2 m _ _ = _
        unfold st_X8_looked_2
        rw [if_pos q_j24, q_c24, k3, if_pos (nI_le (Nat.le_refl k) (by omega))]
    | succ d ih =>
      intro k f hk hf
      obtain ⟨f', rfl⟩ : ∃ f', f = f' + 1 := ⟨f - 1, by omega⟩
      obtain ⟨p, p1, p2⟩ := hbe K k1 k2 k (by omega)
      obtain ⟨y1, y2⟩ := pupil_yes hg p1
      have a1 : lp_X7_looked_2 v (f' + 1) (nI k) = if Group_hours (Room_group (One_now v)) p = Rows_seconds (Room_book (One_now v)) k then lp_X7_looked_2 v f' (nI (k + 1)) else some (nI k) := by
        show st_X7_looked_2 v _ _ = _
        unfold st_X7_looked_2
        rw [k2, if_neg (nI_ge (by omega) (by omega)), l0, if_pos (mIn_nI (by omega) (by omega)), q_n (show k < 100000 by omega), p2, y1, m_bind_some, m_jp_eq, if_neg n10, if_pos (q_6 (show p < 6 by omega)), if_pos (mIn_nI (by omega) (by omega)), q_n (show p < 100000 by omega), ← nI_succ]
      have a2 : lp_X8_looked_2 m (f' + 1) (nI k) = if Group_hours (Room_group (One_now v)) p = Rows_seconds (Room_book (One_now v)) k then lp_X8_looked_2 m f' (nI (k + 1)) else some (nI k) := by
        show st_X8_looked_2 m _ _ = _
        unfold st_X8_looked_2
        rw [if_pos q_j24, q_c24, k3, if_neg (nI_ge (by omega) (by omega)), if_pos (q_i95 (by omega)), q_a95 (by omega), (k4 k (by omega)).1, p2, if_pos (q_i2 (by omega)), q_a2 (by omega), if_pos (q_i103 (by omega)), q_a103 (by omega), (k4 k (by omega)).2, show Model_s m (2 + p) = Group_hours (Room_group (One_now v)) p from ag_hours hg.1 p1, ← nI_succ]
      rw [a1, a2]
      by_cases q : Group_hours (Room_group (One_now v)) p = Rows_seconds (Room_book (One_now v)) k
      · rw [if_pos q, if_pos q]
        exact ih (k + 1) f' (by omega) (by omega)
      · rw [if_neg q, if_neg q]
        exact ⟨_, rfl, rfl⟩
  exact main K 0 m_N (by omega) (by rw [m_N_val]; omega)
end AK
