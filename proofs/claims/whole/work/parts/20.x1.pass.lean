/-! Weeks that go, and bounds of what they bring. -/
theorem does_b {n : Nat} {g : GroupV} {c : LC} (h : gk n g) {p : Nat} (hp : p < n) : ∃ d, d < 100 ∧ sp_does n c g p = nI d := by
  obtain ⟨x, hx, he⟩ := (h.2.2 p hp).2
  unfold sp_does
  split
  · rw [he]
    by_cases q : sp_wish n c g p < 0
    · refine ⟨0, by omega, ?_⟩
      have h1 : mMin (sp_wish n c g p) (nI x) = sp_wish n c g p := by unfold mMin; rw [if_neg (Int32.not_lt.mpr (Int32.le_of_lt (neg_case q (by omega))))]
      rw [h1, mMax_0, if_neg (Int32.not_le.mpr q)]
      rfl
    · obtain ⟨j, hj, hj2⟩ := nI_of q
      refine ⟨min j x, by omega, ?_⟩
      rw [hj2, mMin_nI hj (by omega), show (0 : Int32) = nI 0 from rfl, mMax_nI (by omega) (by omega), Nat.zero_max]
  · exact ⟨0, by omega, rfl⟩
/-- skills in their bounds -/
def sk (n : Nat) (g : GroupV) : Prop := ∀ k, k < n → ∃ x, x < 10 ∧ Group_skills g k = nI x
theorem sk_week {n : Nat} {g : GroupV} {c : LC} {F held : Int32} (h : sk n g) : sk n (sp_week n c F held g) := fun k hk => by rw [wk_skills]; exact h k hk
theorem sk_gr {n : Nat} {g : GroupV} (h : gr n g) : sk n g := fun k hk => (h.2.2.2 k hk).2.2.1
theorem sum_b {n : Nat} {g : GroupV} {c : LC} (h : gk n g) (hs : sk n g) : ∃ S, S ≤ 5346 ∧ n_sum n (fun j => sp_does n c g j * Group_skills g j) = nI S := by
  obtain ⟨S, h1, h2, _⟩ := n_sum_b (f := fun j => sp_does n c g j * Group_skills g j) (B := 891) (n := n) (fun k hk => by
    obtain ⟨d, hd, hd2⟩ := does_b (c := c) h hk
    obtain ⟨x, hx, hx2⟩ := hs k hk
    refine ⟨d * x, ?_, by show sp_does n c g k * Group_skills g k = _; rw [hd2, hx2, pk_mul]⟩
    have := Nat.mul_le_mul (show d ≤ 99 by omega) (show x ≤ 9 by omega)
    omega)
  have hn := h.1
  have : n * 891 ≤ 6 * 891 := Nat.mul_le_mul_right _ hn
  exact ⟨S, by omega, h2⟩
theorem gr_week1 {n : Nat} {g : GroupV} {c : LC} {f w : Nat} (h : gr n g) (hf : f < 100) (hw : Group_week g = nI w) (hwl : w + 1 ≤ 9999) : gr n (sp_week n c (nI f) 1 g) := by
  obtain ⟨S, hS, hS2⟩ := sum_b (c := c) h.1 (sk_gr h)
  obtain ⟨W, hW, hW2⟩ := h.2.2.1
  refine ⟨gk_week h.1 hf, ⟨w + 1, hwl, by rw [sp_week_week, hw, nI_1]⟩, ⟨min (W + S) 99999, by omega, ?_⟩, fun k hk => ⟨by rw [wk_kinds]; exact (h.2.2.2 k hk).1, by rw [wk_vs]; exact (h.2.2.2 k hk).2.1, by rw [wk_skills]; exact (h.2.2.2 k hk).2.2.1, ?_⟩⟩
  · rw [wk_work, if_neg n10, hS2, hW2, nI_add, show (99999 : Int32) = nI 99999 from rfl, mMin_nI (by omega) (by omega)]
  · obtain ⟨d, hd, hd2⟩ := does_b (c := c) h.1 hk
    obtain ⟨H, hH, hH2⟩ := (h.2.2.2 k hk).2.2.2
    refine ⟨min (H + d) 9999, by omega, ?_⟩
    rw [wk_hours hk]
    unfold wk_h
    rw [if_neg n10, hd2, hH2, nI_add, show (9999 : Int32) = nI 9999 from rfl, mMin_nI (by omega) (by omega)]
theorem gr_weeks1 {n : Nat} {g : GroupV} {c : LC} {f w : Nat} (h : gr n g) (hf : f < 100) (hw : Group_week g = nI w) : ∀ N, w + N ≤ 9999 → gr n (n_iter (sp_week n c (nI f) 1) N g)
  | 0, _ => h
  | N + 1, hN => gr_week1 (gr_weeks1 h hf hw N (by omega)) hf (n_iter_week h.1.2.1 hw N).2 (by omega)
/-- what the calls that ask of weeks have at hand -/
def CX (v : OneV) (m : ModelV) (ea : Nat) (le : LessonV) (n : Nat) (z : LZ) (γ f w : Nat) : Prop := rg n (One_now v) (Model_s m) ∧ hc (Model_s m) z (nI γ) f ∧ lq le z (nI γ) f ∧ fn_X5_lesson (One_now v) = some ea ∧ Group_week (Room_group (One_now v)) = nI w ∧ w ≤ 9999 ∧ γ < 100 ∧ n ≤ 6
section PS
variable {Q : Nat → Option LessonV} {v : OneV} {m : ModelV} {ea : Nat} {le : LessonV}
theorem cx (h : R Q v m) (hH : HL Q (One_now v) (Model_s m) ea le) : ∃ n z γ f w, CX v m ea le n z γ f w := by
  obtain ⟨⟨n, hg, ht, hl, hn, hs, hp, hb, hpe, hbe⟩, hi, ha⟩ := h
  obtain ⟨h1, h2, z, γ, f, h3, h4, h5⟩ := hH
  obtain ⟨w, hw, hwl⟩ := hg.2.2.1
  exact ⟨n, z, γ, f, w, hg, ⟨h5, h4.2.2.2.2, h4.2.1⟩, h4, h1, hwl, hw, h3, hg.2.1.1⟩
/-- one held week of the reference -/
theorem x8_held {z : LZ} {G : Int32} {n w f : Nat} {g : GroupV} (hg : gr n g) (ha : ag n g (sv (Model_s m))) (hw : Group_week g = nI w) (hwl : w < 20000) (hh : hc (Model_s m) z G f) (K : ModelV → Option (Int32 × ModelV)) :
    ∃ m', (Option.bind (fn_X8_goes m) (fun t7 => (if mIn 1 926 = true then (Option.bind (fn_X8_within ((Model_s t7) (1 : Int32).toNatClampNeg) 0 99999) (fun t9 => (if mIn 1 926 = true then jp K (fun j101 => lp_X8_pass_61 j101 m_N 0 (Model_s_s t7 (upd (Model_s t7) (1 : Int32).toNatClampNeg t9))) else none))) else none))) = K m' ∧ core m' = core m ∧ (∀ j, 20 ≤ j → Model_s m' j = Model_s m j) ∧ ag n (sp_week n (lz_c z) (nI f) 1 g) (sv (Model_s m')) := by
  have hn := hg.1.1
  obtain ⟨m1, a1, a2, a3, a4⟩ := x8_goes (m := m) (gk_ag ha hg.1) (show Model_s m 0 = nI w from ha.2.1.trans hw) hwl hh.1 hh.2.1 hh.2.2
  have a5 : ag n (sp_week n (lz_c z) (nI f) 0 g) (sv (Model_s m1)) := ag_trans (ag_week ha hw hwl hn (lz_c z) (nI f) 0) a4
  obtain ⟨S, hS, hS2⟩ := sum_b (c := lz_c z) hg.1 (sk_gr hg)
  obtain ⟨W, hW, hW2⟩ := hg.2.2.1
  have e1 : Model_s m1 1 = nI (W + S) := by
    rw [show Model_s m1 1 = Group_work (sp_week n (lz_c z) (nI f) 0 g) from a5.2.2.1, wk_work, if_pos rfl, hS2, hW2, nI_add]
  have eW : Group_work (sp_week n (lz_c z) (nI f) 1 g) = nI (min (W + S) 99999) := by
    rw [wk_work, if_neg n10, hS2, hW2, nI_add, show (99999 : Int32) = nI 99999 from rfl, mMin_nI (by omega) (by omega)]
  rw [a1, m_bind_some, if_pos q_j1, q_c1, e1, x8_within, m_bind_some, if_pos q_j1, m_jp_eq, show (99999 : Int32) = nI 99999 from rfl, w_in_nI (by omega) (by omega)]
  have eH : ∀ k, k < n → Model_s m1 (2 + k) = Group_hours g k + sp_does n (lz_c z) g k := fun k hk => by
    rw [show Model_s m1 (2 + k) = Group_hours (sp_week n (lz_c z) (nI f) 0 g) k from ag_hours a5 hk, wk_hours hk]
    unfold wk_h
    rw [if_pos rfl]
  refine n_loopI (fun f y (s : ModelV) => lp_X8_pass_61 K f y s) (fun k s => core s = core m1 ∧ ∀ j, Model_s s j = if j = 1 then nI (min (W + S) 99999) else if 2 ≤ j ∧ j < 2 + k then mMin (Group_hours g (j - 2) + sp_does n (lz_c z) g (j - 2)) 9999 else Model_s m1 j) n (fun r => ∃ m', r = K m' ∧ core m' = core m ∧ (∀ j, 20 ≤ j → Model_s m' j = Model_s m j) ∧ ag n (sp_week n (lz_c z) (nI f) 1 g) (sv (Model_s m'))) (fun f' s hi => ?_) (fun f' k s hk hi => ?_) m_N _ (by rw [m_N_val]; omega) ⟨rfl, fun j => ?_⟩
  · obtain ⟨i1, i2⟩ := hi
    have i3 : ∀ j, j = 0 ∨ 8 ≤ j → Model_s s j = Model_s m1 j := fun j hj => by rw [i2, if_neg (by omega), if_neg (by omega)]
    have e20 : Model_s s 20 = nI n := (i3 20 (by omega)).trans (a5.1.trans ((sp_week_size ..).trans hg.1.2.1))
    refine ⟨s, ?_, i1.trans (mc_core a2).1, fun j hj => (i3 j (by omega)).trans (a3 j hj), ?_⟩
    · show st_X8_pass_61 K _ _ _ = _
      unfold st_X8_pass_61
      rw [if_pos q_j20, q_c20, e20, if_pos (nI_le (Nat.le_refl n) (by omega))]
    · refine ⟨?_, ?_, ?_, fun k hk => ⟨⟨?_, ?_, ?_, ?_, ?_, ?_⟩, fun i hi => ?_⟩⟩
      · rw [sp_week_size]; exact e20.trans hg.1.2.1.symm
      · rw [sp_week_week]; exact (i3 0 (by omega)).trans (a5.2.1.trans (sp_week_week ..))
      · rw [eW]; exact (i2 1).trans (if_pos rfl)
      · rw [wk_kinds]; exact (i3 (27 + k) (by omega)).trans ((ag_kinds a5 hk).trans (by rw [wk_kinds]))
      · rw [wk_vs]; exact (i3 (33 + k) (by omega)).trans ((ag_vs a5 hk).trans (by rw [wk_vs]))
      · rw [wk_skills]; exact (i3 (39 + k) (by omega)).trans ((ag_skills a5 hk).trans (by rw [wk_skills]))
      · rw [wk_wills hk hn]; exact (i3 (8 + k) (by omega)).trans ((ag_wills a5 hk).trans (wk_wills hk hn))
      · rw [wk_hours hk]
        show Model_s s (2 + k) = _
        rw [i2, if_neg (by omega), if_pos (by omega), Nat.add_sub_cancel_left]
        unfold wk_h
        rw [if_neg n10]
      · rw [wk_outs]; exact (i3 (14 + k) (by omega)).trans ((ag_outs a5 hk).trans (by rw [wk_outs]))
      · rw [wk_rows]; exact (i3 (45 + (4 * k + i)) (by omega)).trans ((ag_rows a5 hk hi).trans (by rw [wk_rows]))
  · obtain ⟨i1, i2⟩ := hi
    have e20 : Model_s s 20 = nI n := by rw [i2, if_neg (by omega), if_neg (by omega)]; exact a5.1.trans ((sp_week_size ..).trans hg.1.2.1)
    obtain ⟨d, hd, hd2⟩ := does_b (c := lz_c z) hg.1 hk
    obtain ⟨H, hH, hH2⟩ := (hg.2.2.2 k hk).2.2.2
    have e2 : Model_s s (2 + k) = nI (H + d) := by rw [i2, if_neg (by omega), if_neg (by omega), eH k hk, hd2, hH2, nI_add]
    refine ⟨Model_s_s s (upd (Model_s s) (2 + k) (nI (min (H + d) 9999))), ⟨i1, fun j => ?_⟩, ?_⟩
    · show upd (Model_s s) (2 + k) (nI (min (H + d) 9999)) j = _
      by_cases q : j = 2 + k
      · subst q
        rw [pk_us, if_neg (by omega), if_pos (show 2 ≤ 2 + k ∧ 2 + k < 2 + (k + 1) by omega), Nat.add_sub_cancel_left, hd2, hH2, nI_add, show (9999 : Int32) = nI 9999 from rfl, mMin_nI (by omega) (by omega)]
      · rw [pk_un q, i2]
        by_cases q1 : j = 1
        · rw [if_pos q1, if_pos q1]
        · rw [if_neg q1, if_neg q1]
          by_cases q2 : 2 ≤ j ∧ j < 2 + k
          · rw [if_pos q2, if_pos (show 2 ≤ j ∧ j < 2 + (k + 1) by omega)]
          · rw [if_neg q2, if_neg (show ¬ (2 ≤ j ∧ j < 2 + (k + 1)) by omega)]
    · show st_X8_pass_61 K _ _ _ = _
      unfold st_X8_pass_61
      rw [if_pos q_j20, q_c20, e20, if_neg (nI_ge hk (by omega)), if_pos (q_i2 (by omega)), q_a2 (by omega), e2, x8_within, m_bind_some, if_pos (q_i2 (by omega)), show (9999 : Int32) = nI 9999 from rfl, w_in_nI (by omega) (by omega), ← nI_succ]
  · show upd (Model_s m1) 1 _ j = _
    by_cases q : j = 1
    · subst q; rw [pk_us, if_pos rfl]
    · rw [pk_un q, if_neg q, if_neg (by omega)]
theorem sim_pass (h : R Q v m) (hH : HL Q (One_now v) (Model_s m) ea le) (x : Int32) : SIM Q (fn_X7_pass v le ea x) (fn_X8_pass m x) := by
  have h0 := h
  obtain ⟨n', z, γ, f, w, hg', hh, hlq, h1, hw, hwl, hγ, hn6'⟩ := cx h hH
  obtain ⟨⟨n, hg, ht, hl, hn, hs, hp, hb, hpe, hbe⟩, hi, ha⟩ := h
  have hn6 := hg.2.1.1
  have e0 : Model_s m 0 = nI w := hg.1.2.1.trans hw
  unfold fn_X7_pass fn_X8_pass
  rw [show fn_X8_in x 0 60 = fn_X8_in x 0 (nI 60) from rfl]
  rcases c_cases x with hx | ⟨N, hN, rfl⟩
  · rw [if_pos hx, in_neg hx, m_bind_some, if_neg n00]
    exact ⟨_, v, m, rfl, rfl, h0⟩
  rw [if_neg (nI_pos hN)]
  by_cases q : N ≤ 60
  case neg =>
    rw [if_neg (show ¬ nI N ≤ 60 from nI_ge (a := 60) (by omega) hN), in_no (by omega) hN, m_bind_some, if_neg n00]
    exact ⟨_, v, m, rfl, rfl, h0⟩
  rw [if_pos (show nI N ≤ 60 from nI_le (b := 60) q (by omega)), in_yes q (by omega), m_bind_some, if_pos n10, if_pos q_j0, q_c0, e0, hw, nI_add]
  by_cases q2 : w + N ≤ 9999
  case neg =>
    rw [if_neg (show ¬ nI (w + N) ≤ 9999 from nI_ge (a := 9999) (by omega) (by omega)), if_neg (show ¬ nI (w + N) ≤ 9999 from nI_ge (a := 9999) (by omega) (by omega))]
    exact ⟨_, v, m, rfl, rfl, h0⟩
  have h9 : nI (w + N) ≤ 9999 := nI_le (b := 9999) q2 (by omega)
  have hC := x2_goWeeks (g := Room_group (One_now v)) (le := le) (n := n) (N := N) (w := w) (c := lz_c z) 1 hg.2.1.2.1 hn6 hw q (by omega) hlq.2.1.1 hlq.1
  rw [hlq.2.2.2.1] at hC
  rw [if_pos h9, if_pos h9, h1, m_bind_some, if_pos rfl, hC, m_bind_some, m_jp_eq]
  have hM : ∃ m', lp_X8_pass_32 (nI N) (fun (wx_107 : ModelV) => (if mIn 1 926 = true then some (((Model_s wx_107) (1 : Int32).toNatClampNeg), wx_107) else none)) m_N 0 m = some (Model_s m' 1, m') ∧ core m' = core m ∧ (∀ j, 20 ≤ j → Model_s m' j = Model_s m j) ∧ ag n (n_iter (sp_week n (lz_c z) (nI f) 1) N (Room_group (One_now v))) (sv (Model_s m')) := by
    refine n_loopI (fun f y (s : ModelV) => lp_X8_pass_32 (nI N) _ f y s) (fun k s => core s = core m ∧ (∀ j, 20 ≤ j → Model_s s j = Model_s m j) ∧ ag n (n_iter (sp_week n (lz_c z) (nI f) 1) k (Room_group (One_now v))) (sv (Model_s s))) N (fun r => ∃ m', r = some (Model_s m' 1, m') ∧ core m' = core m ∧ (∀ j, 20 ≤ j → Model_s m' j = Model_s m j) ∧ ag n (n_iter (sp_week n (lz_c z) (nI f) 1) N (Room_group (One_now v))) (sv (Model_s m'))) (fun f' s hi => ⟨s, ?_, hi⟩) (fun f' k s hk hi => ?_) m_N m (by rw [m_N_val]; omega) ⟨rfl, fun _ _ => rfl, hg.1⟩
    · show st_X8_pass_32 (nI N) _ _ _ _ = _
      unfold st_X8_pass_32
      rw [if_pos (nI_le (Nat.le_refl N) (by omega))]
      show (if mIn 1 926 = true then _ else _) = _
      rw [if_pos q_j1, q_c1]
    · obtain ⟨i1, i2, i3⟩ := hi
      obtain ⟨m', b1, b2, b3, b4⟩ := x8_held (m := s) (gr_weeks1 hg.2 hh.2.1 hw k (by omega)) i3 (n_iter_week hg.2.1.2.1 hw k).2 (by omega) ⟨lh_same hh.1 i2, hh.2⟩ (fun (wx_101 : ModelV) => lp_X8_pass_32 (nI N) (fun (wx_107 : ModelV) => (if mIn 1 926 = true then some (((Model_s wx_107) (1 : Int32).toNatClampNeg), wx_107) else none)) f' (nI k + 1) wx_101)
      refine ⟨m', ⟨b2.trans i1, fun j hj => (b3 j hj).trans (i2 j hj), b4⟩, ?_⟩
      show st_X8_pass_32 (nI N) _ _ _ _ = _
      unfold st_X8_pass_32
      rw [if_neg (nI_ge hk (by omega))]
      refine Eq.trans b1 ?_
      rw [← nI_succ]
  obtain ⟨m', c1, c2, c3, c4⟩ := hM
  refine ⟨Model_s m' 1, One_now_s v (Room_group_s (One_now v) (n_iter (sp_week n (lz_c z) (nI f) 1) N (Room_group (One_now v)))), m', ?_, c1, ⟨n, ⟨c4, gr_weeks1 hg.2 hh.2.1 hw N q2⟩, rt_same ht ?_, rl_same hl ?_, hn, rws_same hs ?_, rws_same hp ?_, rws_same hb ?_, hpe, hbe⟩, ?_, ?_⟩
  · rw [show Model_s m' 1 = Group_work (n_iter (sp_week n (lz_c z) (nI f) 1) N (Room_group (One_now v))) from c4.2.2.1]
  · exact fun j hj => c3 j (by omega)
  · exact fun j hj => c3 j (by omega)
  · exact fun j hj => c3 j (by omega)
  · exact fun j hj => c3 j (by omega)
  · exact fun j hj => c3 j (by omega)
  · rw [c2]; exact hi
  · rw [c2]; exact ha
end PS
