/-! Calls that ask no lesson. -/
theorem nar_sign : ∀ j, j < 128 → vp_nar .byte (nI j).toInt8.toInt32 = nI j := by decide +kernel
theorem n10 : ¬ (1 : Int32) = 0 := by decide
theorem n00 : ¬ ¬ (0 : Int32) = 0 := fun z => z rfl
theorem n0 : (0 : Int32) = 0 := rfl
theorem u3 {f : Nat → Int32} {a b c j : Nat} {x y z : Int32} (h1 : j ≠ c) (h2 : j ≠ b) (h3 : j ≠ a) : upd (upd (upd f a x) b y) c z j = f j := by rw [pk_un h1, pk_un h2, pk_un h3]
section S1
variable {Q : Nat → Option LessonV} {v : OneV} {m : ModelV}
theorem sim_feed (h : R Q v m) (x : Int32) : SIM Q (fn_X7_feed v x) (fn_X8_feed m x) := by
  have h0 := h
  obtain ⟨⟨n, hg, ht, hl, hn, hs, hp, hb, hpe, hbe⟩, hi, ha⟩ := h
  obtain ⟨t, t1, t2, t3, t4, t5⟩ := ht
  rcases c_cases x with hx | ⟨j, hj, rfl⟩
  · refine ⟨-2, v, m, ?_, ?_, h0⟩
    · unfold fn_X7_feed
      rw [if_pos hx]
    · unfold fn_X8_feed
      rw [in_neg hx]
      rfl
  by_cases q : j ≤ 127
  · by_cases q2 : t = 100
    · subst q2
      refine ⟨-4, v, m, ?_, ?_, h0⟩
      · unfold fn_X7_feed
        rw [t2]
        simp (disch := omega) only [c_le_0, c_lt_0, c_ge_0, c_gt_0, c_eq_0, k_le_0, k_lt_0, k_ge_0, k_gt_0, k_eq_0, c_le_100, c_lt_100, c_ge_100, c_gt_100, c_eq_100, k_le_100, k_lt_100, k_ge_100, k_gt_100, k_eq_100, c_le_127, c_lt_127, c_ge_127, c_gt_127, c_eq_127, k_le_127, k_lt_127, k_ge_127, k_gt_127, k_eq_127, q, Nat.not_lt_zero, Nat.lt_irrefl, if_true, if_false]
      · unfold fn_X8_feed
        rw [show (127 : Int32) = nI 127 from rfl, in_yes q (by omega), m_bind_some, q_c25, t3]
        simp only [q_j25, if_true]
        rfl
    · have q3 : t < 100 := by omega
      refine ⟨nI (t + 1), One_now_s v (Room_signs_s (Room_tape_s (One_now v) (upd (Room_tape (One_now v)) t (nI j))) (nI (t + 1))), Model_s_s m (upd (upd (Model_s m) (111 + t) (nI j)) 25 (nI (t + 1))), ?_, ?_, ?_⟩
      · unfold fn_X7_feed
        rw [t2]
        simp (disch := omega) only [c_le_0, c_lt_0, c_ge_0, c_gt_0, c_eq_0, k_le_0, k_lt_0, k_ge_0, k_gt_0, k_eq_0, c_le_100, c_lt_100, c_ge_100, c_gt_100, c_eq_100, k_le_100, k_lt_100, k_ge_100, k_gt_100, k_eq_100, c_le_127, c_lt_127, c_ge_127, c_gt_127, c_eq_127, k_le_127, k_lt_127, k_ge_127, k_gt_127, k_eq_127, q, q3, Nat.not_lt_zero, if_true, if_false, mIn_nI, q_n, nar_sign, ← nI_succ]
      · unfold fn_X8_feed
        rw [show (127 : Int32) = nI 127 from rfl, in_yes q (by omega), m_bind_some, q_c25, t3]
        simp (disch := omega) only [q_j25, q_i111, q_a111, c_le_100, c_lt_100, c_ge_100, c_gt_100, c_eq_100, k_le_100, k_lt_100, k_ge_100, k_gt_100, k_eq_100, q2, pk_us, pk_un, t3, if_true, ← nI_succ, not_false_eq_true, show ¬ (1 : Int32) = 0 by decide]
      · have e : ∀ k, k ≠ 25 → k ≠ 111 + t → upd (upd (Model_s m) (111 + t) (nI j)) 25 (nI (t + 1)) k = Model_s m k := fun k h1 h2 => by rw [pk_un h1, pk_un h2]
        refine ⟨⟨n, rg_same hg (fun k hk => e k (by omega) (by omega)), ⟨t + 1, by omega, rfl, (show upd (upd (Model_s m) (111 + t) (nI j)) 25 (nI (t + 1)) 25 = nI (t + 1) from pk_us), fun k hk => ?_, fun k hk => ?_⟩, rl_same hl (fun k hk => e k (by omega) (by omega)), hn, rws_same hs (fun k hk => e k (by omega) (by omega)), rws_same hp (fun k hk => e k (by omega) (by omega)), rws_same hb (fun k hk => e k (by omega) (by omega)), hpe, hbe⟩, hi, ha⟩
        · show upd (upd (Model_s m) (111 + t) (nI j)) 25 (nI (t + 1)) (111 + k) = upd (Room_tape (One_now v)) t (nI j) k
          by_cases q4 : k = t
          · subst q4; rw [pk_un (by omega), pk_us, pk_us]
          · rw [e _ (by omega) (by omega), pk_un q4]
            exact t4 k (by omega)
        · show ∃ c, c < 128 ∧ upd (Room_tape (One_now v)) t (nI j) k = nI c
          by_cases q4 : k = t
          · subst q4; exact ⟨j, by omega, pk_us⟩
          · rw [pk_un q4]; exact t5 k hk
  · refine ⟨-2, v, m, ?_, ?_, h0⟩
    · unfold fn_X7_feed
      simp (disch := omega) only [c_le_0, c_lt_0, c_ge_0, c_gt_0, c_eq_0, k_le_0, k_lt_0, k_ge_0, k_gt_0, k_eq_0, c_le_127, c_lt_127, c_ge_127, c_gt_127, c_eq_127, k_le_127, k_lt_127, k_ge_127, k_gt_127, k_eq_127, q, Nat.not_lt_zero, if_false]
    · unfold fn_X8_feed
      rw [show (127 : Int32) = nI 127 from rfl, in_no (by omega) hj]
      rfl
/-! rows told by hand -/
abbrev rput (x : RowsV) (k : Nat) (a b : Int32) : RowsV := Rows_size_s (Rows_seconds_s (Rows_firsts_s x (upd (Rows_firsts x) k a)) (upd (Rows_seconds x) k b)) (nI (k + 1))
theorem x6_full {x : RowsV} {len k : Nat} (h1 : Rows_len x = len) (h2 : Rows_size x = nI k) (hk : k ≤ len) (hl : len < 100) : fn_X6_isFull x = some (if k = len then 1 else 0) := by
  unfold fn_X6_isFull
  rw [h1, h2, m_jp_eq]
  by_cases q : k = len
  · subst q
    rw [if_pos (show Int32.ofNat k ≤ nI k from nI_le (Nat.le_refl k) (by omega)), if_pos rfl]
  · rw [if_neg (show ¬ Int32.ofNat len ≤ nI k from nI_ge (by omega) (by omega)), if_pos (show nI k < Int32.ofNat len from nI_lt (by omega) (by omega)), if_neg q]
theorem x6_add {x : RowsV} {len k : Nat} (a b : Int32) (h1 : Rows_len x = len) (h2 : Rows_size x = nI k) (hk : k < len) (hl : len < 100) : fn_X6_add x a b = some (nI (k + 1), rput x k a b) := by
  unfold fn_X6_add
  rw [x6_full h1 h2 (by omega) hl, if_neg (by omega), m_bind_some, m_jp_eq, h1, h2, if_neg (fun z => z rfl), if_pos (mIn_nI hk (by omega)), if_pos (mIn_nI hk (by omega)), q_n (by omega), ← nI_succ]
theorem rws_add {x : RowsV} {len o1 o2 c k : Nat} {s : Nat → Int32} (a b : Int32) (h : rws x len o1 o2 c s) (hk : k < len) (h2 : Rows_size x = nI k) (hl : len < 100) (ho : c < o1 ∧ o1 + len ≤ o2) : rws (rput x k a b) len o1 o2 c (upd (upd (upd s (o1 + k) a) (o2 + k) b) c (nI (k + 1))) := by
  obtain ⟨h0, k', h1, h3, h4, h5⟩ := h
  have : k' = k := (nI_eq (by omega) (by omega)).mp (h3.symm.trans h2)
  subst this
  refine ⟨h0, k' + 1, by omega, rfl, pk_us, fun j hj => ?_⟩
  show upd (upd (upd s (o1 + k') a) (o2 + k') b) c (nI (k' + 1)) (o1 + j) = upd (Rows_firsts x) k' a j ∧ upd (upd (upd s (o1 + k') a) (o2 + k') b) c (nI (k' + 1)) (o2 + j) = upd (Rows_seconds x) k' b j
  by_cases q : j = k'
  · subst q
    rw [pk_un (show o1 + j ≠ c by omega), pk_un (show o1 + j ≠ o2 + j by omega), pk_us, pk_us, pk_un (show o2 + j ≠ c by omega), pk_us, pk_us]
    exact ⟨rfl, rfl⟩
  · rw [pk_un (show o1 + j ≠ c by omega), pk_un (show o1 + j ≠ o2 + k' by omega), pk_un (show o1 + j ≠ o1 + k' by omega), pk_un (show o2 + j ≠ c by omega), pk_un (show o2 + j ≠ o2 + k' by omega), pk_un (show o2 + j ≠ o1 + k' by omega), pk_un q, pk_un q]
    exact h5 j (by omega)
theorem rws_clear {x : RowsV} {len o1 o2 c : Nat} {s : Nat → Int32} (h : rws x len o1 o2 c s) : rws (Rows_size_s x 0) len o1 o2 c (upd s c 0) := ⟨h.1, 0, by omega, rfl, pk_us, fun j hj => absurd hj (by omega)⟩
theorem sim_see (h : R Q v m) (x y : Int32) : SIM Q (fn_X7_see v x y) (fn_X8_see m x y) := by
  have h0 := h
  obtain ⟨⟨n, hg, ht, hl, hn, hs, hp, hb, hpe, hbe⟩, hi, ha⟩ := h
  obtain ⟨l0, k, k1, k2, k3, k4⟩ := id hs
  unfold fn_X7_see fn_X8_see
  by_cases qx : x = -1
  · subst qx
    refine ⟨0, One_now_s v (Room_seen_s (One_now v) (Rows_size_s (Room_seen (One_now v)) 0)), Model_s_s m (upd (Model_s m) 22 0), rfl, ?_, ⟨n, rg_same hg ?_, rt_same ht ?_, rl_same hl ?_, hn, rws_clear hs, rws_same hp ?_, rws_same hb ?_, hpe, hbe⟩, hi, ha⟩
    · rw [if_neg (fun z => z rfl), if_pos q_j22, q_c22]
    all_goals exact fun j hj => pk_un (by omega)
  rw [if_pos qx, if_pos qx]
  rw [show (99999 : Int32) = nI 99999 from rfl, show (20 : Int32) = nI 20 from rfl]
  rcases c_cases x with hx | ⟨a, ha', rfl⟩
  · refine ⟨-2, v, m, by rw [if_pos hx], ?_, h0⟩
    rw [in_neg hx, m_bind_some, if_pos n0]
  rw [if_neg (nI_pos ha')]
  by_cases qa : a ≤ 99999
  · rw [if_neg (nI_nlt qa (by omega)), in_yes qa (by omega), m_bind_some, if_neg n10]
    rcases c_cases y with hy | ⟨b, hb', rfl⟩
    · refine ⟨-2, v, m, by rw [if_pos hy], ?_, h0⟩
      rw [in_neg hy, m_bind_some, if_neg n00]
    rw [if_neg (nI_pos hb')]
    by_cases qb : b ≤ 20
    · rw [if_pos (nI_le qb (by omega)), in_yes qb (by omega), m_bind_some, if_pos n10, x6_full l0 k2 k1 (by omega), m_bind_some, q_c22, k3, if_pos q_j22]
      by_cases qk : k = 5
      · subst qk
        exact ⟨-4, v, m, by rw [if_pos rfl, if_neg n10], by rw [if_neg (fun z => z rfl)], h0⟩
      · refine ⟨nI (k + 1), One_now_s v (Room_seen_s (One_now v) (rput (Room_seen (One_now v)) k (nI a) (nI b))), Model_s_s m (upd (upd (upd (Model_s m) (69 + k) (nI a)) (74 + k) (nI b)) 22 (nI (k + 1))), ?_, ?_, ⟨n, rg_same hg ?_, rt_same ht ?_, rl_same hl ?_, hn, rws_add (nI a) (nI b) hs (by omega) k2 (by omega) (by omega), rws_same hp ?_, rws_same hb ?_, hpe, hbe⟩, hi, ha⟩
        · rw [if_neg qk, if_pos rfl, x6_add _ _ l0 k2 (by omega) (by omega), m_bind_some]
        · rw [if_pos (show ¬ nI k = 5 from fun z => qk ((nI_eq (b := 5) (by omega) (by omega)).mp z))]
          simp (disch := omega) only [q_j22, q_i69, q_a69, q_i74, q_a74, pk_us, pk_un, k3, if_true, ← nI_succ]
        all_goals exact fun j hj => u3 (by omega) (by omega) (by omega)
    · refine ⟨-2, v, m, by rw [if_neg (nI_ge (by omega) hb')], ?_, h0⟩
      rw [in_no (by omega) hb', m_bind_some, if_neg n00]
  · refine ⟨-2, v, m, by rw [if_pos (nI_lt (by omega) ha')], ?_, h0⟩
    rw [in_no (by omega) ha', m_bind_some, if_pos n0]
theorem pe_add {n : Nat} {x : RowsV} {k : Nat} {a b : Int32} (h : pe n x) (hk : k < 8) (h2 : Rows_size x = nI k) (hab : ∃ w, w ≤ 3 ∧ a = nI w ∧ (w ≠ 0 → ∃ p, p < n ∧ b = nI p)) : pe n (rput x k a b) := by
  intro k' hk' he j hj
  have : k + 1 = k' := (nI_eq (by omega) (by omega)).mp he
  subst this
  show ∃ w, w ≤ 3 ∧ upd (Rows_firsts x) k a j = nI w ∧ (w ≠ 0 → ∃ p, p < n ∧ upd (Rows_seconds x) k b j = nI p)
  by_cases q : j = k
  · subst q
    rw [pk_us, pk_us]
    exact hab
  · rw [pk_un q, pk_un q]
    exact h k (by omega) h2 j (by omega)
theorem be_add {n : Nat} {x : RowsV} {k : Nat} {a b : Int32} (h : be n x) (hk : k < 8) (h2 : Rows_size x = nI k) (hab : ∃ p, p < n ∧ a = nI p) : be n (rput x k a b) := by
  intro k' hk' he j hj
  have : k + 1 = k' := (nI_eq (by omega) (by omega)).mp he
  subst this
  show ∃ p, p < n ∧ upd (Rows_firsts x) k a j = nI p
  by_cases q : j = k
  · subst q
    rw [pk_us]
    exact hab
  · rw [pk_un q]
    exact h k (by omega) h2 j (by omega)
theorem pe_clear {n : Nat} {x : RowsV} : pe n (Rows_size_s x 0) := fun k hk he j hj => by
  have : 0 = k := (nI_eq (a := 0) (by omega) (by omega)).mp he
  omega
theorem be_clear {n : Nat} {x : RowsV} : be n (Rows_size_s x 0) := fun k hk he j hj => by
  have : 0 = k := (nI_eq (a := 0) (by omega) (by omega)).mp he
  omega
theorem sim_plan (h : R Q v m) (x y : Int32) : SIM Q (fn_X7_plan v x y) (fn_X8_plan m x y) := by
  have h0 := h
  obtain ⟨⟨n, hg, ht, hl, hn, hs, hp, hb, hpe, hbe⟩, hi, ha⟩ := h
  obtain ⟨l0, k, k1, k2, k3, k4⟩ := id hp
  unfold fn_X7_plan fn_X8_plan
  by_cases qx : x = -1
  · subst qx
    refine ⟨0, One_now_s v (Room_plan_s (One_now v) (Rows_size_s (Room_plan (One_now v)) 0)), Model_s_s m (upd (Model_s m) 23 0), rfl, ?_, ⟨n, rg_same hg ?_, rt_same ht ?_, rl_same hl ?_, hn, rws_same hs ?_, rws_clear hp, rws_same hb ?_, pe_clear, hbe⟩, hi, ha⟩
    · rw [if_neg (fun z => z rfl), if_pos q_j23, q_c23]
    all_goals exact fun j hj => pk_un (by omega)
  rw [if_pos qx, if_pos qx]
  rw [show (3 : Int32) = nI 3 from rfl]
  rcases c_cases x with hx | ⟨a, ha', rfl⟩
  · refine ⟨-1, v, m, by rw [if_pos hx], ?_, h0⟩
    rw [in_neg hx, m_bind_some, if_pos n0]
  rw [if_neg (nI_pos ha')]
  by_cases qa : a ≤ 3
  · rw [if_pos (nI_le qa (by omega)), in_yes qa (by omega), m_bind_some, if_neg n10, m_jp_eq, m_jp_eq, x6_full l0 k2 k1 (by omega), m_bind_some, q_c23, k3, if_pos q_j23]
    have main : (a ≠ 0 → ∃ p, p < n ∧ y = nI p) → SIM Q (if (if k = 8 then (1 : Int32) else 0) = 0 then Option.bind (fn_X6_add (Room_plan (One_now v)) (nI a) y) (fun t6 => some (t6.1, One_now_s v (Room_plan_s (One_now v) t6.2))) else some (-4, v)) (if ¬ nI k = 8 then (if mIn 23 926 = true then (if mIn (79 + nI k) 926 = true then (if mIn 23 926 = true then (if mIn (87 + ((upd (Model_s m) ((79 + nI k)).toNatClampNeg (nI a)) 23)) 926 = true then (if mIn 23 926 = true then (if mIn 23 926 = true then (if mIn 23 926 = true then some (((upd (upd (upd (Model_s m) ((79 + nI k)).toNatClampNeg (nI a)) ((87 + ((upd (Model_s m) ((79 + nI k)).toNatClampNeg (nI a)) 23))).toNatClampNeg y) 23 (((upd (upd (Model_s m) ((79 + nI k)).toNatClampNeg (nI a)) ((87 + ((upd (Model_s m) ((79 + nI k)).toNatClampNeg (nI a)) 23))).toNatClampNeg y) 23) + 1)) 23), (Model_s_s m (upd (upd (upd (Model_s m) ((79 + nI k)).toNatClampNeg (nI a)) ((87 + ((upd (Model_s m) ((79 + nI k)).toNatClampNeg (nI a)) 23))).toNatClampNeg y) 23 (((upd (upd (Model_s m) ((79 + nI k)).toNatClampNeg (nI a)) ((87 + ((upd (Model_s m) ((79 + nI k)).toNatClampNeg (nI a)) 23))).toNatClampNeg y) 23) + 1)))) else none) else none) else none) else none) else none) else none) else none) else some ((-4), m)) := by
      intro hy
      by_cases qk : k = 8
      · subst qk
        exact ⟨-4, v, m, by rw [if_pos rfl, if_neg n10], by rw [if_neg (fun z => z rfl)], h0⟩
      · refine ⟨nI (k + 1), One_now_s v (Room_plan_s (One_now v) (rput (Room_plan (One_now v)) k (nI a) y)), Model_s_s m (upd (upd (upd (Model_s m) (79 + k) (nI a)) (87 + k) y) 23 (nI (k + 1))), ?_, ?_, ⟨n, rg_same hg ?_, rt_same ht ?_, rl_same hl ?_, hn, rws_same hs ?_, rws_add (nI a) y hp (by omega) k2 (by omega) (by omega), rws_same hb ?_, pe_add hpe (by omega) k2 ⟨a, qa, rfl, hy⟩, hbe⟩, hi, ha⟩
        · rw [if_neg qk, if_pos rfl, x6_add _ _ l0 k2 (by omega) (by omega), m_bind_some]
        · rw [if_pos (show ¬ nI k = 8 from fun z => qk ((nI_eq (b := 8) (by omega) (by omega)).mp z))]
          simp (disch := omega) only [q_j23, q_i79, q_a79, q_i87, q_a87, pk_us, pk_un, k3, if_true, ← nI_succ]
        all_goals exact fun j hj => u3 (by omega) (by omega) (by omega)
    by_cases q0 : a = 0
    · subst q0
      rw [if_pos (show nI 0 = 0 from rfl), if_pos (show nI 0 ≤ 0 from by decide)]
      exact main (fun z => absurd rfl z)
    · rw [if_neg (nI_ne0 (by omega) (by omega)), if_neg (nI_nle (by omega) (by omega))]
      rcases pupil_c hg y with ⟨p, p1, p2, p3, p4⟩ | ⟨p3, p4⟩
      · rw [p3, p4, m_bind_some, m_bind_some, if_pos n10, if_pos n10]
        exact main (fun _ => ⟨p, p1, p2⟩)
      · rw [p3, p4, m_bind_some, m_bind_some, if_neg n00, if_neg n00]
        exact ⟨-1, v, m, rfl, rfl, h0⟩
  · refine ⟨-1, v, m, by rw [if_neg (nI_ge (by omega) ha')], ?_, h0⟩
    rw [in_no (by omega) ha', m_bind_some, if_pos n0]
theorem sim_book (h : R Q v m) (x y : Int32) : SIM Q (fn_X7_book v x y) (fn_X8_book m x y) := by
  have h0 := h
  obtain ⟨⟨n, hg, ht, hl, hn, hs, hp, hb, hpe, hbe⟩, hi, ha⟩ := h
  obtain ⟨l0, k, k1, k2, k3, k4⟩ := id hb
  unfold fn_X7_book fn_X8_book
  by_cases qx : x = -1
  · subst qx
    refine ⟨0, One_now_s v (Room_book_s (One_now v) (Rows_size_s (Room_book (One_now v)) 0)), Model_s_s m (upd (Model_s m) 24 0), rfl, ?_, ⟨n, rg_same hg ?_, rt_same ht ?_, rl_same hl ?_, hn, rws_same hs ?_, rws_same hp ?_, rws_clear hb, hpe, be_clear⟩, hi, ha⟩
    · rw [if_neg (fun z => z rfl), if_pos q_j24, q_c24]
    all_goals exact fun j hj => pk_un (by omega)
  rw [if_pos qx, if_pos qx]
  rw [show (9999 : Int32) = nI 9999 from rfl]
  rcases pupil_c hg x with ⟨p, p1, rfl, p3, p4⟩ | ⟨p3, p4⟩
  · rw [p3, p4, m_bind_some, m_bind_some, if_pos n10, if_pos n10]
    rcases c_cases y with hy | ⟨b, hb', rfl⟩
    · refine ⟨-2, v, m, by rw [if_pos hy], ?_, h0⟩
      rw [in_neg hy, m_bind_some, if_neg n00]
    rw [if_neg (nI_pos hb')]
    by_cases qb : b ≤ 9999
    · rw [if_pos (nI_le qb (by omega)), in_yes qb (by omega), m_bind_some, if_pos n10, x6_full l0 k2 k1 (by omega), m_bind_some, q_c24, k3, if_pos q_j24]
      by_cases qk : k = 8
      · subst qk
        exact ⟨-4, v, m, by rw [if_pos rfl, if_neg n10], by rw [if_neg (fun z => z rfl)], h0⟩
      · refine ⟨nI (k + 1), One_now_s v (Room_book_s (One_now v) (rput (Room_book (One_now v)) k (nI p) (nI b))), Model_s_s m (upd (upd (upd (Model_s m) (95 + k) (nI p)) (103 + k) (nI b)) 24 (nI (k + 1))), ?_, ?_, ⟨n, rg_same hg ?_, rt_same ht ?_, rl_same hl ?_, hn, rws_same hs ?_, rws_same hp ?_, rws_add (nI p) (nI b) hb (by omega) k2 (by omega) (by omega), hpe, be_add hbe (by omega) k2 ⟨p, p1, rfl⟩⟩, hi, ha⟩
        · rw [if_neg qk, if_pos rfl, x6_add _ _ l0 k2 (by omega) (by omega), m_bind_some]
        · rw [if_pos (show ¬ nI k = 8 from fun z => qk ((nI_eq (b := 8) (by omega) (by omega)).mp z))]
          simp (disch := omega) only [q_j24, q_i95, q_a95, q_i103, q_a103, pk_us, pk_un, k3, if_true, ← nI_succ]
        all_goals exact fun j hj => u3 (by omega) (by omega) (by omega)
    · refine ⟨-2, v, m, by rw [if_neg (nI_ge (by omega) hb')], ?_, h0⟩
      rw [in_no (by omega) hb', m_bind_some, if_neg n00]
  · rw [p3, p4, m_bind_some, m_bind_some, if_neg n00, if_neg n00]
    exact ⟨-1, v, m, rfl, rfl, h0⟩
theorem sim_count (h : R Q v m) (x : Int32) : SIP (fn_X7_count v x) (fn_X8_count m x) := by
  obtain ⟨⟨n, hg, ⟨t, _, t2, t3, _⟩, ⟨L, _, L2, L3, _⟩, hn, ⟨_, k1, _, a1, b1, _⟩, ⟨_, k2, _, a2, b2, _⟩, ⟨_, k3, _, a3, b3, _⟩, hpe, hbe⟩, hi, ⟨k4, _, a4, b4, _⟩⟩ := h
  have e1 : Group_size (Room_group (One_now v)) = nI n := hg.2.1.2.1
  have e2 : Model_s m 20 = nI n := hg.1.1.trans e1
  unfold fn_X7_count fn_X8_count
  rw [e1, t2, L2, a1, a2, a3, a4, show Model_ran m = nI k4 from b4]
  rw [show (5 : Int32) = nI 5 from rfl]
  rcases c_cases x with hx | ⟨j, hj, rfl⟩
  · rw [in_neg hx]
    simp only [c_le_0, c_lt_0, c_ge_0, c_gt_0, c_eq_0, k_le_0, k_lt_0, k_ge_0, k_gt_0, k_eq_0, c_le_1, c_lt_1, c_ge_1, c_gt_1, c_eq_1, k_le_1, k_lt_1, k_ge_1, k_gt_1, k_eq_1, c_le_2, c_lt_2, c_ge_2, c_gt_2, c_eq_2, k_le_2, k_lt_2, k_ge_2, k_gt_2, k_eq_2, c_le_3, c_lt_3, c_ge_3, c_gt_3, c_eq_3, k_le_3, k_lt_3, k_ge_3, k_gt_3, k_eq_3, c_le_4, c_lt_4, c_ge_4, c_gt_4, c_eq_4, k_le_4, k_lt_4, k_ge_4, k_gt_4, k_eq_4, c_le_6, c_lt_6, c_ge_6, c_gt_6, c_eq_6, k_le_6, k_lt_6, k_ge_6, k_gt_6, k_eq_6, show nI 5 = 5 from rfl, k_eq_5 hx, hx, if_false, not_false_eq_true, if_true, m_bind_some]
    exact ⟨-1, rfl, rfl⟩
  · by_cases q : j ≤ 5
    · rw [in_yes q (by omega)]
      have hj6 : j = 0 ∨ j = 1 ∨ j = 2 ∨ j = 3 ∨ j = 4 ∨ j = 5 := by omega
      rcases hj6 with rfl | rfl | rfl | rfl | rfl | rfl
      · exact ⟨nI n, rfl, congrArg some e2⟩
      · exact ⟨nI L, rfl, congrArg some L3⟩
      · exact ⟨nI k1, rfl, congrArg some b1⟩
      · exact ⟨nI k2, rfl, congrArg some b2⟩
      · exact ⟨nI k3, rfl, congrArg some b3⟩
      · exact ⟨nI t, rfl, congrArg some t3⟩
    · rw [in_no (by omega) hj]
      by_cases q6 : j = 6
      · subst q6
        exact ⟨nI k4, rfl, rfl⟩
      · refine ⟨-1, ?_, ?_⟩
        · rw [show nI 5 = (5 : Int32) from rfl]
          simp (disch := omega) only [c_le_0, c_lt_0, c_ge_0, c_gt_0, c_eq_0, k_le_0, k_lt_0, k_ge_0, k_gt_0, k_eq_0, c_le_1, c_lt_1, c_ge_1, c_gt_1, c_eq_1, k_le_1, k_lt_1, k_ge_1, k_gt_1, k_eq_1, c_le_2, c_lt_2, c_ge_2, c_gt_2, c_eq_2, k_le_2, k_lt_2, k_ge_2, k_gt_2, k_eq_2, c_le_3, c_lt_3, c_ge_3, c_gt_3, c_eq_3, k_le_3, k_lt_3, k_ge_3, k_gt_3, k_eq_3, c_le_4, c_lt_4, c_ge_4, c_gt_4, c_eq_4, k_le_4, k_lt_4, k_ge_4, k_gt_4, k_eq_4, c_le_5, c_lt_5, c_ge_5, c_gt_5, c_eq_5, k_le_5, k_lt_5, k_ge_5, k_gt_5, k_eq_5, c_le_6, c_lt_6, c_ge_6, c_gt_6, c_eq_6, k_le_6, k_lt_6, k_ge_6, k_gt_6, k_eq_6, show ¬ j = 0 by omega, show ¬ j = 1 by omega, show ¬ j = 2 by omega, show ¬ j = 3 by omega, show ¬ j = 4 by omega, show ¬ j = 5 by omega, q6, if_false]
        · simp (disch := omega) only [c_le_6, c_lt_6, c_ge_6, c_gt_6, c_eq_6, k_le_6, k_lt_6, k_ge_6, k_gt_6, k_eq_6, q6, not_false_eq_true, if_true, m_bind_some]
theorem sim_trace (h : R Q v m) (x : Int32) : SIP (fn_X7_trace v x) (fn_X8_trace m x) := by
  obtain ⟨_, _, ⟨k, hk, a1, b1, c1⟩⟩ := h
  have b1 : Model_ran m = nI k := b1
  unfold fn_X7_trace fn_X8_trace
  rw [a1, b1, m_jp_eq]
  have main : ∀ K : Nat, K = min k 20 → SIP (if x < 0 then some (-1) else if nI k ≤ x then some (-1) else if x < 20 then if mIn x 20 = true then some (Acts_kept (One_acts v) x.toNatClampNeg) else none else some (-1)) (Option.bind (fn_X8_in x 0 (nI K - 1)) (fun t1 => (if t1 = 0 then some (-1) else (if mIn x 20 = true then some ((Model_bodies m) (x).toNatClampNeg) else none)))) := by
    intro K hK
    have hm : (nI K - 1).toInt = (K : Int) - 1 := pk_sub_toInt (a := K) (b := 1) (by omega) (by omega)
    rcases c_cases x with hx | ⟨j, hj, rfl⟩
    · rw [if_pos hx, in_neg hx]
      exact ⟨-1, rfl, rfl⟩
    · rw [if_neg (nI_pos hj), x8_in]
      by_cases q : j < K
      · rw [if_neg (nI_ge (by omega) (by omega)), if_pos (show nI j < 20 from nI_lt (b := 20) (by omega) (by omega)), if_pos (mIn_nI (by omega) (by omega)), if_pos ⟨nI_pos0 hj, by rw [Int32.le_iff_toInt_le, hm, nI_toInt hj]; omega⟩, m_bind_some, if_neg n10, q_n (by omega)]
        exact ⟨_, rfl, (if_pos (mIn_nI (by omega) (by omega))).trans (congrArg some (c1 j (by omega) (by omega)).symm)⟩
      · rw [if_neg (show ¬ (0 ≤ nI j ∧ nI j ≤ nI K - 1) from fun z => by
          have := z.2
          rw [Int32.le_iff_toInt_le, hm, nI_toInt hj] at this
          omega), m_bind_some, if_pos n0]
        by_cases q2 : k ≤ j
        · rw [if_pos (nI_le q2 hj)]
          exact ⟨-1, rfl, rfl⟩
        · rw [if_neg (nI_ge (by omega) (by omega)), if_neg (show ¬ nI j < 20 from nI_nlt (b := 20) (by omega) (by omega))]
          exact ⟨-1, rfl, rfl⟩
  by_cases q : 20 ≤ k
  · rw [if_pos (show (20 : Int32) ≤ nI k from nI_le (a := 20) q (by omega))]
    exact main 20 (by omega)
  · rw [if_neg (show ¬ (20 : Int32) ≤ nI k from nI_ge (b := 20) (by omega) (by omega))]
    exact main k (by omega)
end S1
