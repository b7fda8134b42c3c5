/-! Calls that change the pupils. -/
theorem ro_up {n o p k : Nat} {f g : Nat → Int32} {x : Int32} (h : f (o + k) = g k) : upd f (o + p) x (o + k) = upd g p x k := by
  by_cases q : k = p
  · subst q; rw [pk_us, pk_us]
  · rw [pk_un (by omega), pk_un q]; exact h
theorem pe_mono {n n' : Nat} {x : RowsV} (h : pe n x) (hn : n ≤ n') : pe n' x := by
  intro k hk he j hj
  obtain ⟨w, w1, w2, w3⟩ := h k hk he j hj
  refine ⟨w, w1, w2, fun z => ?_⟩
  obtain ⟨p, p1, p2⟩ := w3 z
  exact ⟨p, by omega, p2⟩
theorem be_mono {n n' : Nat} {x : RowsV} (h : be n x) (hn : n ≤ n') : be n' x := by
  intro k hk he j hj
  obtain ⟨p, p1, p2⟩ := h k hk he j hj
  exact ⟨p, by omega, p2⟩
section PU
variable {Q : Nat → Option LessonV} {v : OneV} {m : ModelV} {n : Nat} {r : RoomV} {s : Nat → Int32}
theorem rg_will (h : rg n r s) {p x : Nat} (hp : p < n) (hx : x < 100) : rg n (Room_group_s r (Group_wills_s (Room_group r) (upd (Group_wills (Room_group r)) p (nI x)))) (upd s (8 + p) (nI x)) := by
  obtain ⟨a, b⟩ := h
  have hn := b.1.1
  refine ⟨⟨(pk_un (by omega)).trans a.1, (pk_un (by omega)).trans a.2.1, (pk_un (by omega)).trans a.2.2.1, fun k hk => ⟨⟨(pk_un (by omega)).trans (ag_kinds a hk), (pk_un (by omega)).trans (ag_vs a hk), (pk_un (by omega)).trans (ag_skills a hk), ro_up (n := n) (f := s) (g := Group_wills (Room_group r)) (ag_wills a hk), (pk_un (by omega)).trans (ag_hours a hk), (pk_un (by omega)).trans (ag_outs a hk)⟩, fun i hi => (pk_un (by omega)).trans (ag_rows a hk hi)⟩⟩, ⟨hn, b.1.2.1, fun k hk => ⟨(b.1.2.2 k hk).1, ?_⟩⟩, b.2⟩
  show ∃ y, y < 100 ∧ upd (Group_wills (Room_group r)) p (nI x) k = nI y
  by_cases q : k = p
  · subst q; exact ⟨x, hx, pk_us⟩
  · rw [pk_un q]; exact (b.1.2.2 k hk).2
theorem rg_out (h : rg n r s) {p : Nat} {x : Int32} (hp : p < n) (hx : x = 0 ∨ x = 1) : rg n (Room_group_s r (Group_outs_s (Room_group r) (upd (Group_outs (Room_group r)) p x))) (upd s (14 + p) x) := by
  obtain ⟨a, b⟩ := h
  have hn := b.1.1
  refine ⟨⟨(pk_un (by omega)).trans a.1, (pk_un (by omega)).trans a.2.1, (pk_un (by omega)).trans a.2.2.1, fun k hk => ⟨⟨(pk_un (by omega)).trans (ag_kinds a hk), (pk_un (by omega)).trans (ag_vs a hk), (pk_un (by omega)).trans (ag_skills a hk), (pk_un (by omega)).trans (ag_wills a hk), (pk_un (by omega)).trans (ag_hours a hk), ro_up (n := n) (f := s) (g := Group_outs (Room_group r)) (ag_outs a hk)⟩, fun i hi => (pk_un (by omega)).trans (ag_rows a hk hi)⟩⟩, ⟨hn, b.1.2.1, fun k hk => ⟨?_, (b.1.2.2 k hk).2⟩⟩, b.2⟩
  show upd (Group_outs (Room_group r)) p x k = 0 ∨ upd (Group_outs (Room_group r)) p x k = 1
  by_cases q : k = p
  · subst q; rw [pk_us]; exact hx
  · rw [pk_un q]; exact (b.1.2.2 k hk).1
theorem rg_row (h : rg n r s) {p i : Nat} {x : Int32} (hp : p < n) (hi : i < 4) : rg n (Room_group_s r (Group_rows_s (Room_group r) (upd (Group_rows (Room_group r)) (4 * p + i) x))) (upd s (45 + (4 * p + i)) x) := by
  obtain ⟨a, b⟩ := h
  have hn := b.1.1
  exact ⟨⟨(pk_un (by omega)).trans a.1, (pk_un (by omega)).trans a.2.1, (pk_un (by omega)).trans a.2.2.1, fun k hk => ⟨⟨(pk_un (by omega)).trans (ag_kinds a hk), (pk_un (by omega)).trans (ag_vs a hk), (pk_un (by omega)).trans (ag_skills a hk), (pk_un (by omega)).trans (ag_wills a hk), (pk_un (by omega)).trans (ag_hours a hk), (pk_un (by omega)).trans (ag_outs a hk)⟩, fun i hi => ro_up (n := n) (f := s) (g := Group_rows (Room_group r)) (ag_rows a hk hi)⟩⟩, b⟩
theorem sim_will (h : R Q v m) (x y : Int32) : SIM Q (fn_X7_will v x y) (fn_X8_will m x y) := by
  have h0 := h
  obtain ⟨⟨n, hg, ht, hl, hn, hs, hp, hb, hpe, hbe⟩, hi, ha⟩ := h
  have hn6 := hg.2.1.1
  unfold fn_X7_will fn_X8_will
  rw [show (99 : Int32) = nI 99 from rfl]
  rcases pupil_c hg x with ⟨p, p1, rfl, p3, p4⟩ | ⟨p3, p4⟩
  · rw [p3, p4, m_bind_some, m_bind_some, if_pos n10, if_pos n10]
    rcases c_cases y with hy | ⟨b, hb', rfl⟩
    · refine ⟨-2, v, m, by rw [if_pos hy], ?_, h0⟩
      rw [in_neg hy, m_bind_some, if_neg n00]
    rw [if_neg (nI_pos hb')]
    by_cases qb : b ≤ 99
    · rw [if_pos (nI_le qb (by omega)), in_yes qb (by omega), m_bind_some, if_pos n10, if_pos (q_6 (by omega)), if_pos (q_6 (by omega)), q_n (by omega), if_pos (q_i8 (by omega)), if_pos (q_i8 (by omega)), q_a8 (by omega)]
      refine ⟨Group_wills (Room_group (One_now v)) p, One_now_s v (Room_group_s (One_now v) (Group_wills_s (Room_group (One_now v)) (upd (Group_wills (Room_group (One_now v))) p (nI b)))), Model_s_s m (upd (Model_s m) (8 + p) (nI b)), rfl, by rw [show Model_s m (8 + p) = Group_wills (Room_group (One_now v)) p from ag_wills hg.1 p1], ⟨n, rg_will hg p1 (by omega), rt_same ht ?_, rl_same hl ?_, hn, rws_same hs ?_, rws_same hp ?_, rws_same hb ?_, hpe, hbe⟩, hi, ha⟩
      all_goals exact fun j hj => pk_un (by omega)
    · refine ⟨-2, v, m, by rw [if_neg (nI_ge (by omega) hb')], ?_, h0⟩
      rw [in_no (by omega) hb', m_bind_some, if_neg n00]
  · rw [p3, p4, m_bind_some, m_bind_some, if_neg n00, if_neg n00]
    exact ⟨-1, v, m, rfl, rfl, h0⟩
theorem sim_out (h : R Q v m) (x y : Int32) (hy : y = 0 ∨ y = 1) : SIM Q (fn_X7_out v x y) (fn_X8_out m x y) := by
  have h0 := h
  obtain ⟨⟨n, hg, ht, hl, hn, hs, hp, hb, hpe, hbe⟩, hi, ha⟩ := h
  have hn6 := hg.2.1.1
  unfold fn_X7_out fn_X8_out
  rcases pupil_c hg x with ⟨p, p1, rfl, p3, p4⟩ | ⟨p3, p4⟩
  · have e8 : Model_s m (14 + p) = Group_outs (Room_group (One_now v)) p := ag_outs hg.1 p1
    have i14 : mIn (14 + nI p) 926 = true := q_i14 (by omega)
    have hz : (if y = 0 then (if mIn (14 + nI p) 926 = true then some (((Model_s m) ((14 + nI p)).toNatClampNeg), (Model_s_s m (upd (Model_s m) ((14 + nI p)).toNatClampNeg 0))) else none) else (if mIn (14 + nI p) 926 = true then some (((Model_s m) ((14 + nI p)).toNatClampNeg), (Model_s_s m (upd (Model_s m) ((14 + nI p)).toNatClampNeg 1))) else none)) = some (Group_outs (Room_group (One_now v)) p, Model_s_s m (upd (Model_s m) (14 + p) y)) := by
      rw [if_pos i14, if_pos i14, q_a14 (by omega), e8]
      rcases hy with rfl | rfl
      · rw [if_pos rfl]
      · rw [if_neg (by decide)]
    rw [p3, p4, m_bind_some, m_bind_some, if_pos n10, if_pos n10, if_pos (q_6 (by omega)), if_pos (q_6 (by omega)), q_n (by omega), if_pos i14, m_jp_eq, nar_out hy]
    have hR : R Q (One_now_s v (Room_group_s (One_now v) (Group_outs_s (Room_group (One_now v)) (upd (Group_outs (Room_group (One_now v))) p y)))) (Model_s_s m (upd (Model_s m) (14 + p) y)) := by
      refine ⟨⟨n, rg_out hg p1 hy, rt_same ht ?_, rl_same hl ?_, hn, rws_same hs ?_, rws_same hp ?_, rws_same hb ?_, hpe, hbe⟩, hi, ha⟩
      all_goals exact fun j hj => pk_un (by omega)
    refine ⟨Group_outs (Room_group (One_now v)) p, _, _, ?_, hz, hR⟩
    rcases (hg.2.1.2.2 p p1).1 with ho | ho
    · rw [if_pos ho, ho]
    · rw [if_neg (by rw [ho]; decide), ho]
  · rw [p3, p4, m_bind_some, m_bind_some, if_neg n00, if_neg n00]
    exact ⟨-1, v, m, rfl, rfl, h0⟩
theorem sim_row (h : R Q v m) (x y w : Int32) : SIM Q (fn_X7_row v x y w) (fn_X8_row m x y w) := by
  have h0 := h
  obtain ⟨⟨n, hg, ht, hl, hn, hs, hp, hb, hpe, hbe⟩, hi, ha⟩ := h
  have hn6 := hg.2.1.1
  unfold fn_X7_row fn_X8_row
  rw [show (9 : Int32) = nI 9 from rfl, show (3 : Int32) = nI 3 from rfl]
  rcases pupil_c hg x with ⟨p, p1, rfl, p3, p4⟩ | ⟨p3, p4⟩
  · rw [p3, p4, m_bind_some, m_bind_some, if_neg n10, if_neg n10]
    rcases c_cases y with hy | ⟨k, hk, rfl⟩
    · refine ⟨-1, v, m, by rw [if_pos hy], ?_, h0⟩
      rw [in_neg hy, m_bind_some, if_neg n00]
    rw [if_neg (nI_pos hk)]
    by_cases qk : k ≤ 3
    · rw [if_pos (show nI k < 4 from nI_lt (b := 4) (by omega) (by omega)), in_yes qk (by omega), m_bind_some, if_pos n10]
      rcases c_cases w with hw | ⟨b, hb', rfl⟩
      · refine ⟨-2, v, m, by rw [if_pos hw], ?_, h0⟩
        rw [in_neg hw, m_bind_some, if_neg n00]
      rw [if_neg (nI_pos hb')]
      by_cases qb : b ≤ 9
      · have e1 : nI p * 4 = nI (4 * p) := by rw [show (4 : Int32) = nI 4 from rfl, pk_mul, Nat.mul_comm]
        have e2 : 4 * nI p = nI (4 * p) := pk_mul 4 p
        have e3 : (45 + nI (4 * p)) + nI k = nI (45 + (4 * p + k)) := by
          rw [show (45 : Int32) = nI 45 from rfl, nI_add, nI_add, Nat.add_assoc]
        have e4 : Model_s m (27 + p) = Group_kinds (Room_group (One_now v)) p := ag_kinds hg.1 p1
        have e5 : Model_s m (45 + (4 * p + k)) = Group_rows (Room_group (One_now v)) (4 * p + k) := ag_rows hg.1 p1 (by omega)
        rw [if_pos (nI_le qb (by omega)), in_yes qb (by omega), m_bind_some, if_pos n10, if_pos (q_6 (by omega)), q_n (by omega), if_pos (q_i27 (by omega)), q_a27 (by omega), e4, e1, nI_add, e2, e3, if_pos (mIn_nI (by omega) (by omega)), if_pos (mIn_nI (by omega) (by omega)), if_pos (mIn_nI (by omega) (by omega)), if_pos (mIn_nI (by omega) (by omega)), q_n (by omega), q_n (by omega), e5]
        by_cases q6 : Group_kinds (Room_group (One_now v)) p = 6
        · rw [if_pos q6, if_pos q6]
          refine ⟨_, _, _, rfl, rfl, ⟨n, rg_row hg p1 (by omega), rt_same ht ?_, rl_same hl ?_, hn, rws_same hs ?_, rws_same hp ?_, rws_same hb ?_, hpe, hbe⟩, hi, ha⟩
          all_goals exact fun j hj => pk_un (by omega)
        · rw [if_neg q6, if_neg q6]
          exact ⟨-3, v, m, rfl, rfl, h0⟩
      · refine ⟨-2, v, m, by rw [if_neg (nI_ge (by omega) hb')], ?_, h0⟩
        rw [in_no (by omega) hb', m_bind_some, if_neg n00]
    · refine ⟨-1, v, m, by rw [if_neg (show ¬ nI k < 4 from nI_nlt (b := 4) (by omega) (by omega))], ?_, h0⟩
      rw [in_no (by omega) hk, m_bind_some, if_neg n00]
  · rw [p3, p4, m_bind_some, m_bind_some, if_pos n0, if_pos n0]
    exact ⟨-1, v, m, rfl, rfl, h0⟩
/-! a new pupil -/
def zz (f : Nat → Int32) (o k : Nat) : Nat → Int32 := fun j => if o ≤ j ∧ j < o + k then 0 else f j
theorem zz_0 (f : Nat → Int32) (o : Nat) : zz f o 0 = f := funext fun j => if_neg (by omega)
theorem zz_s (f : Nat → Int32) (o k : Nat) : upd (zz f o k) (o + k) 0 = zz f o (k + 1) := by
  funext j
  unfold zz
  by_cases q : j = o + k
  · subst q; rw [pk_us, if_pos (by omega)]
  · rw [pk_un q]
    by_cases q2 : o ≤ j ∧ j < o + k
    · rw [if_pos q2, if_pos (show o ≤ j ∧ j < o + (k + 1) by omega)]
    · rw [if_neg q2, if_neg (show ¬ (o ≤ j ∧ j < o + (k + 1)) by omega)]
theorem zz_o {f : Nat → Int32} {o k j : Nat} (h : j < o ∨ o + k ≤ j) : zz f o k j = f j := if_neg (by omega)
theorem zz_i {f : Nat → Int32} {o k j : Nat} (h : o ≤ j ∧ j < o + k) : zz f o k j = 0 := if_pos h
def padd (g : GroupV) (n : Nat) (x0 x1 x2 x3 : Int32) : GroupV := Group_outs_s (Group_hours_s (Group_wills_s (Group_skills_s (Group_vs_s (Group_kinds_s g (upd (Group_kinds g) n x0)) (upd (Group_vs g) n x1)) (upd (Group_skills g) n x2)) (upd (Group_wills g) n x3)) (upd (Group_hours g) n 0)) (upd (Group_outs g) n 0)
theorem x2_add {g : GroupV} (hs : Group_size g = nI n) (hn : n < 6) (x0 x1 x2 x3 : Int32) : fn_X2_add g x0 x1 x2 x3 = some (nI n, Group_size_s (Group_rows_s (padd g n x0 x1 x2 x3) (zz (Group_rows g) (4 * n) 4)) (nI (n + 1))) := by
  have e4 : nI n * 4 = nI (4 * n) := by rw [show (4 : Int32) = nI 4 from rfl, pk_mul, Nat.mul_comm]
  unfold fn_X2_add
  rw [hs, if_pos (show nI n < 6 from nI_lt (b := 6) hn (by omega)), m_jp_eq]
  simp only [q_6 (show n < 6 from hn), if_true, q_n (show n < 100000 by omega), nar_0]
  show lp_X2_add_76 _ m_N 0 (padd g n x0 x1 x2 x3) = _
  have e0 : Group_rows_s (padd g n x0 x1 x2 x3) (zz (Group_rows g) (4 * n) 0) = padd g n x0 x1 x2 x3 := by rw [zz_0]; rfl
  rw [← e0]
  refine n_loop (fun f y (a : GroupV) => lp_X2_add_76 _ f y a) (fun k => Group_rows_s (padd g n x0 x1 x2 x3) (zz (Group_rows g) (4 * n) k)) 4 _ (fun f => ?_) (fun f k hk => ?_) m_N (by rw [m_N_val]; omega)
  · show st_X2_add_76 _ _ _ _ = _
    unfold st_X2_add_76
    rw [if_pos (show (4 : Int32) ≤ nI 4 from by decide)]
    show some (Group_size g + 1 - 1, Group_size_s _ (Group_size g + 1)) = _
    rw [hs, nI_1, nI_pred]
  · show st_X2_add_76 _ _ _ _ = _
    unfold st_X2_add_76
    have es : Group_size (Group_rows_s (padd g n x0 x1 x2 x3) (zz (Group_rows g) (4 * n) k)) = nI n := hs
    rw [if_neg (show ¬ (4 : Int32) ≤ nI k from nI_ge (b := 4) hk (by omega)), es, e4, nI_add, if_pos (mIn_nI (by omega) (by omega)), q_n (by omega), ← nI_succ]
    show lp_X2_add_76 _ f _ (Group_rows_s _ (upd (zz (Group_rows g) (4 * n) k) (4 * n + k) 0)) = _
    rw [zz_s]
theorem sim_pupil (h : R Q v m) (x0 x1 x2 x3 : Int32) : SIM Q (fn_X7_pupil v x0 x1 x2 x3) (fn_X8_pupil m x0 x1 x2 x3) := by
  have h0 := h
  obtain ⟨⟨n, hg, ht, hl, hn, hs, hp, hb, hpe, hbe⟩, hi, ha⟩ := h
  have hn6 := hg.2.1.1
  have eg : Group_size (Room_group (One_now v)) = nI n := hg.2.1.2.1
  have e20 : Model_s m 20 = nI n := hg.1.1.trans eg
  unfold fn_X7_pupil fn_X8_pupil fn_X7_isKind
  rw [show (6 : Int32) = nI 6 from rfl, show (9 : Int32) = nI 9 from rfl, show (99 : Int32) = nI 99 from rfl]
  rcases c_cases x0 with hx0 | ⟨a, ha0, rfl⟩
  · rw [if_pos hx0, in_neg hx0, m_bind_some, m_bind_some, if_neg n00, if_neg n00]
    exact ⟨-1, v, m, rfl, rfl, h0⟩
  rw [if_neg (nI_pos ha0)]
  by_cases qa : a ≤ 6
  case neg =>
    rw [if_pos (show (7 : Int32) ≤ nI a from nI_le (a := 7) (by omega) ha0), in_no (by omega) ha0, m_bind_some, m_bind_some, if_neg n00, if_neg n00]
    exact ⟨-1, v, m, rfl, rfl, h0⟩
  rw [if_neg (show ¬ (7 : Int32) ≤ nI a from nI_ge (b := 7) (by omega) (by omega)), in_yes qa (by omega), m_bind_some, m_bind_some, if_pos n10, if_pos n10]
  rcases c_cases x1 with hx1 | ⟨b, hb0, rfl⟩
  · rw [if_pos hx1, in_neg hx1, m_bind_some, if_pos n0]
    exact ⟨-2, v, m, rfl, rfl, h0⟩
  rw [if_neg (nI_pos hb0)]
  by_cases qb : b ≤ 9
  case neg =>
    rw [if_pos (nI_lt (by omega) hb0), in_no (by omega) hb0, m_bind_some, if_pos n0]
    exact ⟨-2, v, m, rfl, rfl, h0⟩
  rw [if_neg (nI_nlt qb (by omega)), in_yes qb (by omega), m_bind_some, if_neg n10, x8_in x2]
  rcases c_cases x2 with hx2 | ⟨c, hc0, rfl⟩
  · rw [if_pos (show x2 < 1 from neg_case (n := 1) hx2 (by omega)), if_neg (show ¬ (1 ≤ x2 ∧ x2 ≤ nI 9) from fun z => absurd z.1 (Int32.not_le.mpr (neg_case (n := 1) hx2 (by omega)))), m_bind_some, if_pos n0]
    exact ⟨-2, v, m, rfl, rfl, h0⟩
  by_cases qc : 1 ≤ c ∧ c ≤ 9
  case neg =>
    rw [if_neg (show ¬ (1 ≤ nI c ∧ nI c ≤ nI 9) from fun z => qc ⟨(nI_leI (a := 1) (by omega) hc0).mp z.1, (nI_leI hc0 (by omega)).mp z.2⟩), m_bind_some, if_pos n0]
    by_cases q1 : c < 1
    · rw [if_pos (show nI c < 1 from nI_lt (b := 1) q1 (by omega))]
      exact ⟨-2, v, m, rfl, rfl, h0⟩
    · rw [if_neg (show ¬ nI c < 1 from nI_nlt (b := 1) (by omega) hc0), if_pos (nI_lt (by omega) hc0)]
      exact ⟨-2, v, m, rfl, rfl, h0⟩
  rw [if_neg (show ¬ nI c < 1 from nI_nlt (b := 1) qc.1 hc0), if_neg (nI_nlt qc.2 (by omega)), if_pos (show 1 ≤ nI c ∧ nI c ≤ nI 9 from ⟨nI_le (a := 1) qc.1 hc0, nI_le qc.2 (by omega)⟩), m_bind_some, if_neg n10]
  rcases c_cases x3 with hx3 | ⟨d, hd0, rfl⟩
  · rw [if_pos hx3, in_neg hx3, m_bind_some, if_neg n00]
    exact ⟨-2, v, m, rfl, rfl, h0⟩
  rw [if_neg (nI_pos hd0)]
  by_cases qd : d ≤ 99
  case neg =>
    rw [if_neg (nI_ge (by omega) hd0), in_no (by omega) hd0, m_bind_some, if_neg n00]
    exact ⟨-2, v, m, rfl, rfl, h0⟩
  rw [if_pos (nI_le qd (by omega)), in_yes qd (by omega), m_bind_some, if_pos n10, eg, q_c20, e20, if_pos q_j20, if_pos q_j20]
  by_cases q6 : n = 6
  · subst q6
    rw [if_neg (show ¬ nI 6 < nI 6 from Int32.lt_irrefl), if_neg (show ¬ ¬ nI 6 = nI 6 from fun z => z rfl)]
    exact ⟨-4, v, m, rfl, rfl, h0⟩
  have hn5 : n < 6 := by omega
  rw [if_pos (nI_lt hn5 (by omega)), if_pos (show ¬ nI n = nI 6 from fun z => q6 ((nI_eq (by omega) (by omega)).mp z)), x2_add eg hn5, m_bind_some]
  simp (disch := omega) only [q_i27, q_a27, q_i33, q_a33, q_i39, q_a39, q_i8, q_a8, q_i2, q_a2, q_i14, q_a14, if_true, m_jp_eq]
  let s1 : Nat → Int32 := upd (upd (upd (upd (upd (upd (Model_s m) (27 + n) (nI a)) (33 + n) (nI b)) (39 + n) (nI c)) (8 + n) (nI d)) (2 + n) 0) (14 + n) 0
  have hs1 : ∀ j, j ≠ 27 + n → j ≠ 33 + n → j ≠ 39 + n → j ≠ 8 + n → j ≠ 2 + n → j ≠ 14 + n → s1 j = Model_s m j := fun j h1 h2 h3 h4 h5 h6 => by
    show upd (upd (upd (upd (upd (upd (Model_s m) (27 + n) (nI a)) (33 + n) (nI b)) (39 + n) (nI c)) (8 + n) (nI d)) (2 + n) 0) (14 + n) 0 j = _
    rw [pk_un h6, pk_un h5, pk_un h4, pk_un h3, pk_un h2, pk_un h1]
  let K : ModelV → Option (Int32 × ModelV) := fun (wx_167 : ModelV) => some (nI n, (Model_s_s wx_167 (upd (Model_s wx_167) (20 : Int32).toNatClampNeg (((Model_s wx_167) (20 : Int32).toNatClampNeg) + 1))))
  have hL : ∀ K : ModelV → Option (Int32 × ModelV), lp_X8_pupil_139 m K m_N 0 (Model_s_s m s1) = K (Model_s_s m (zz s1 (45 + 4 * n) 4)) := by
    intro K
    have e0 : Model_s_s m (zz s1 (45 + 4 * n) 0) = Model_s_s m s1 := by rw [zz_0]
    rw [← e0]
    refine n_loop (fun f y (a : ModelV) => lp_X8_pupil_139 m K f y a) (fun k => Model_s_s m (zz s1 (45 + 4 * n) k)) 4 _ (fun f => ?_) (fun f k hk => ?_) m_N (by rw [m_N_val]; omega)
    · show st_X8_pupil_139 m K _ _ _ = _
      unfold st_X8_pupil_139
      rw [if_pos (show (4 : Int32) ≤ nI 4 from by decide)]
    · show st_X8_pupil_139 m K _ _ _ = _
      unfold st_X8_pupil_139
      have e2 : 4 * nI n = nI (4 * n) := pk_mul 4 n
      have e3 : (45 + nI (4 * n)) + nI k = nI (45 + 4 * n + k) := by
        rw [show (45 : Int32) = nI 45 from rfl, nI_add, nI_add]
      rw [if_neg (show ¬ (4 : Int32) ≤ nI k from nI_ge (b := 4) hk (by omega)), q_c20, e20, e2, e3, if_pos (mIn_nI (by omega) (by omega)), q_n (by omega), ← nI_succ]
      show lp_X8_pupil_139 m K f _ (Model_s_s m (upd (zz s1 (45 + 4 * n) k) (45 + 4 * n + k) 0)) = _
      rw [zz_s]
  have hS : ∀ j, (27 ≤ j ∧ j < 45) ∨ j < 20 ∨ 69 ≤ j ∨ (45 ≤ j ∧ j < 45 + 4 * n) ∨ (20 < j ∧ j < 27) → upd (zz s1 (45 + 4 * n) 4) 20 (nI (n + 1)) j = s1 j := fun j hj => by rw [pk_un (by omega), zz_o (by omega)]
  have h20 : zz s1 (45 + 4 * n) 4 20 = nI n := by rw [zz_o (by omega), hs1 20 (by omega) (by omega) (by omega) (by omega) (by omega) (by omega), e20]
  refine ⟨nI n, _, Model_s_s m (upd (zz s1 (45 + 4 * n) 4) 20 (nI (n + 1))), rfl, ?_, ?_⟩
  · have := hL (fun (wx_167 : ModelV) => (if mIn 20 926 = true then (if mIn 20 926 = true then some (nI n, (Model_s_s wx_167 (upd (Model_s wx_167) (20 : Int32).toNatClampNeg (((Model_s wx_167) (20 : Int32).toNatClampNeg) + 1)))) else none) else none))
    simp only [q_j20, if_true, q_c20] at this ⊢
    refine Eq.trans this ?_
    show some (nI n, Model_s_s m (upd (zz s1 (45 + 4 * n) 4) 20 (zz s1 (45 + 4 * n) 4 20 + 1))) = _
    rw [h20, nI_1]
  · refine ⟨⟨n + 1, ⟨⟨?_, ?_, ?_, fun k hk => ⟨⟨?_, ?_, ?_, ?_, ?_, ?_⟩, fun i hi => ?_⟩⟩, ⟨by omega, rfl, fun k hk => ⟨?_, ?_⟩⟩, hg.2.2.1, hg.2.2.2.1, fun k hk => ⟨?_, ?_, ?_, ?_⟩⟩, rt_same ht ?_, rl_same hl ?_, hn, rws_same hs ?_, rws_same hp ?_, rws_same hb ?_, ?_, ?_⟩, hi, ha⟩
    · show upd (zz s1 (45 + 4 * n) 4) 20 (nI (n + 1)) 20 = nI (n + 1)
      exact pk_us
    · show upd (zz s1 (45 + 4 * n) 4) 20 (nI (n + 1)) 0 = _
      rw [hS 0 (by omega), hs1 0 (by omega) (by omega) (by omega) (by omega) (by omega) (by omega)]
      exact hg.1.2.1
    · show upd (zz s1 (45 + 4 * n) 4) 20 (nI (n + 1)) 1 = _
      rw [hS 1 (by omega), hs1 1 (by omega) (by omega) (by omega) (by omega) (by omega) (by omega)]
      exact hg.1.2.2.1
    · show upd (zz s1 (45 + 4 * n) 4) 20 (nI (n + 1)) (27 + k) = upd (Group_kinds (Room_group (One_now v))) n (nI a) k
      rw [hS _ (by omega)]
      by_cases q : k = n
      · subst q
        show upd (upd (upd (upd (upd (upd (Model_s m) (27 + k) (nI a)) (33 + k) (nI b)) (39 + k) (nI c)) (8 + k) (nI d)) (2 + k) 0) (14 + k) 0 (27 + k) = _
        rw [pk_un (by omega), pk_un (by omega), pk_un (by omega), pk_un (by omega), pk_un (by omega), pk_us, pk_us]
      · rw [hs1 _ (by omega) (by omega) (by omega) (by omega) (by omega) (by omega), pk_un q]
        exact ag_kinds hg.1 (by omega)
    · show upd (zz s1 (45 + 4 * n) 4) 20 (nI (n + 1)) (33 + k) = upd (Group_vs (Room_group (One_now v))) n (nI b) k
      rw [hS _ (by omega)]
      by_cases q : k = n
      · subst q
        show upd (upd (upd (upd (upd (upd (Model_s m) (27 + k) (nI a)) (33 + k) (nI b)) (39 + k) (nI c)) (8 + k) (nI d)) (2 + k) 0) (14 + k) 0 (33 + k) = _
        rw [pk_un (by omega), pk_un (by omega), pk_un (by omega), pk_un (by omega), pk_us, pk_us]
      · rw [hs1 _ (by omega) (by omega) (by omega) (by omega) (by omega) (by omega), pk_un q]
        exact ag_vs hg.1 (by omega)
    · show upd (zz s1 (45 + 4 * n) 4) 20 (nI (n + 1)) (39 + k) = upd (Group_skills (Room_group (One_now v))) n (nI c) k
      rw [hS _ (by omega)]
      by_cases q : k = n
      · subst q
        show upd (upd (upd (upd (upd (upd (Model_s m) (27 + k) (nI a)) (33 + k) (nI b)) (39 + k) (nI c)) (8 + k) (nI d)) (2 + k) 0) (14 + k) 0 (39 + k) = _
        rw [pk_un (by omega), pk_un (by omega), pk_un (by omega), pk_us, pk_us]
      · rw [hs1 _ (by omega) (by omega) (by omega) (by omega) (by omega) (by omega), pk_un q]
        exact ag_skills hg.1 (by omega)
    · show upd (zz s1 (45 + 4 * n) 4) 20 (nI (n + 1)) (8 + k) = upd (Group_wills (Room_group (One_now v))) n (nI d) k
      rw [hS _ (by omega)]
      by_cases q : k = n
      · subst q
        show upd (upd (upd (upd (upd (upd (Model_s m) (27 + k) (nI a)) (33 + k) (nI b)) (39 + k) (nI c)) (8 + k) (nI d)) (2 + k) 0) (14 + k) 0 (8 + k) = _
        rw [pk_un (by omega), pk_un (by omega), pk_us, pk_us]
      · rw [hs1 _ (by omega) (by omega) (by omega) (by omega) (by omega) (by omega), pk_un q]
        exact ag_wills hg.1 (by omega)
    · show upd (zz s1 (45 + 4 * n) 4) 20 (nI (n + 1)) (2 + k) = upd (Group_hours (Room_group (One_now v))) n 0 k
      rw [hS _ (by omega)]
      by_cases q : k = n
      · subst q
        show upd (upd (upd (upd (upd (upd (Model_s m) (27 + k) (nI a)) (33 + k) (nI b)) (39 + k) (nI c)) (8 + k) (nI d)) (2 + k) 0) (14 + k) 0 (2 + k) = _
        rw [pk_un (by omega), pk_us, pk_us]
      · rw [hs1 _ (by omega) (by omega) (by omega) (by omega) (by omega) (by omega), pk_un q]
        exact ag_hours hg.1 (by omega)
    · show upd (zz s1 (45 + 4 * n) 4) 20 (nI (n + 1)) (14 + k) = upd (Group_outs (Room_group (One_now v))) n 0 k
      rw [hS _ (by omega)]
      by_cases q : k = n
      · subst q
        show upd (upd (upd (upd (upd (upd (Model_s m) (27 + k) (nI a)) (33 + k) (nI b)) (39 + k) (nI c)) (8 + k) (nI d)) (2 + k) 0) (14 + k) 0 (14 + k) = _
        rw [pk_us, pk_us]
      · rw [hs1 _ (by omega) (by omega) (by omega) (by omega) (by omega) (by omega), pk_un q]
        exact ag_outs hg.1 (by omega)
    · show upd (zz s1 (45 + 4 * n) 4) 20 (nI (n + 1)) (45 + (4 * k + i)) = zz (Group_rows (Room_group (One_now v))) (4 * n) 4 (4 * k + i)
      rw [pk_un (by omega)]
      by_cases q : k = n
      · subst q
        rw [zz_i (by omega), zz_i (by omega)]
      · rw [zz_o (by omega), zz_o (by omega), hs1 _ (by omega) (by omega) (by omega) (by omega) (by omega) (by omega)]
        exact ag_rows hg.1 (by omega) hi
    · show upd (Group_outs (Room_group (One_now v))) n 0 k = 0 ∨ upd (Group_outs (Room_group (One_now v))) n 0 k = 1
      by_cases q : k = n
      · subst q; exact Or.inl pk_us
      · rw [pk_un q]; exact (hg.2.1.2.2 k (by omega)).1
    · show ∃ x, x < 100 ∧ upd (Group_wills (Room_group (One_now v))) n (nI d) k = nI x
      by_cases q : k = n
      · subst q; exact ⟨d, by omega, pk_us⟩
      · rw [pk_un q]; exact (hg.2.1.2.2 k (by omega)).2
    · show ∃ x, x < 7 ∧ upd (Group_kinds (Room_group (One_now v))) n (nI a) k = nI x
      by_cases q : k = n
      · subst q; exact ⟨a, by omega, pk_us⟩
      · rw [pk_un q]; exact (hg.2.2.2.2 k (by omega)).1
    · show ∃ x, x < 10 ∧ upd (Group_vs (Room_group (One_now v))) n (nI b) k = nI x
      by_cases q : k = n
      · subst q; exact ⟨b, by omega, pk_us⟩
      · rw [pk_un q]; exact (hg.2.2.2.2 k (by omega)).2.1
    · show ∃ x, x < 10 ∧ upd (Group_skills (Room_group (One_now v))) n (nI c) k = nI x
      by_cases q : k = n
      · subst q; exact ⟨c, by omega, pk_us⟩
      · rw [pk_un q]; exact (hg.2.2.2.2 k (by omega)).2.2.1
    · show ∃ x, x ≤ 9999 ∧ upd (Group_hours (Room_group (One_now v))) n 0 k = nI x
      by_cases q : k = n
      · subst q; exact ⟨0, by omega, pk_us⟩
      · rw [pk_un q]; exact (hg.2.2.2.2 k (by omega)).2.2.2
    case _ => exact fun j hj => (hS j (by omega)).trans (hs1 _ (by omega) (by omega) (by omega) (by omega) (by omega) (by omega))
    case _ => exact fun j hj => (hS j (by omega)).trans (hs1 _ (by omega) (by omega) (by omega) (by omega) (by omega) (by omega))
    case _ => exact fun j hj => (hS j (by omega)).trans (hs1 _ (by omega) (by omega) (by omega) (by omega) (by omega) (by omega))
    case _ => exact fun j hj => (hS j (by omega)).trans (hs1 _ (by omega) (by omega) (by omega) (by omega) (by omega) (by omega))
    case _ => exact fun j hj => (hS j (by omega)).trans (hs1 _ (by omega) (by omega) (by omega) (by omega) (by omega) (by omega))
    case _ => exact pe_mono hpe (by omega)
    case _ => exact be_mono hbe (by omega)
end PU
