/-! part, odds, mean. -/
theorem part_c (x : Int32) : (fn_X7_isPart x = some 1 ∧ fn_X8_in x 0 1 = some 1) ∨ (fn_X7_isPart x = some 0 ∧ fn_X8_in x 0 1 = some 0) := by
  by_cases h : x = 0 ∨ x = 1
  · refine Or.inl ⟨?_, in01_y h⟩
    rcases h with rfl | rfl <;> rfl
  · refine Or.inr ⟨?_, in01_n (fun z => h (Or.inl z)) (fun z => h (Or.inr z))⟩
    unfold fn_X7_isPart
    rw [m_jp_eq, if_neg (fun z => h (Or.inl z)), if_pos (fun z => h (Or.inr z))]
theorem or_has : ∀ j, j < 64 → ∀ p, p < 6 → (nI j ||| ((1 : Int32) <<< (nI p &&& 31))) = nI (j ||| 2 ^ p) ∧ j ||| 2 ^ p < 64 ∧ ((j ||| 2 ^ p = j) ↔ (j.testBit p = true)) := by decide +kernel
theorem pc_less : ∀ n, n ≤ 6 → ∀ j, j < 2 ^ n → ∀ p, p < n → j.testBit p = false → pc j < n := by decide +kernel
theorem fact_at : ∀ c, c ≤ 6 → fn_X8_factorial (nI c) = some ((mFA.getD c 0).toInt64) ∧ (mFA.getD c 0).toInt64 ≠ 0 ∧ (mFA.getD c 0).toInt64.toInt.natAbs < 2 ^ 10 := by decide +kernel
/-- the sum over the orders -/
def ps (W : Nat → Nat) (n p : Nat) : Nat → Int64
  | 0 => 0
  | j + 1 => if j.testBit p = true then ps W n p j else ps W n p j + ((mFA.getD (pc j) 0).toInt64 * (mFA.getD (n - 1 - pc j) 0).toInt64) * (nI (W (j ||| 2 ^ p)) - nI (W j)).toInt64
theorem pow_bit : ∀ j, j < 64 → ∀ p, p < 6 → ∀ n, n ≤ 6 → p < n → j < 2 ^ n → j ||| 2 ^ p < 64 := by decide +kernel
theorem n_sum_sub (f g : Nat → Int32) : ∀ n, n_sum n (fun p => f p - g p) = n_sum n f - n_sum n g
  | 0 => (Int32.sub_self (0 : Int32)).symm
  | n + 1 => by
    rw [n_sum, n_sum, n_sum, n_sum_sub f g n]
    refine Int32.toBitVec_inj.mp ?_
    simp only [Int32.toBitVec_add, Int32.toBitVec_sub]
    generalize (n_sum n f).toBitVec = a
    generalize (n_sum n g).toBitVec = b
    generalize (f n).toBitVec = c
    generalize (g n).toBitVec = d
    refine BitVec.eq_of_toInt_eq ?_
    simp only [BitVec.toInt_add, BitVec.toInt_sub]
    simp only [Int.bmod_add_bmod, Int.add_bmod_bmod, Int.bmod_sub_bmod, Int.sub_bmod_bmod]
    congr 1
    omega
section PT
variable {Q : Nat → Option LessonV} {v : OneV} {m : ModelV} {ea : Nat} {le : LessonV}
theorem part_C {n p : Nat} (hn : n ≤ 6) (hp : p < n) (eg : Group_size (Room_group (One_now v)) = nI n) {Wn : Nat → Nat} (hW : ∀ (fc : ForecastV) set, set < 64 → ∃ fc', fn_X1_workOf fc (One_now v) le ea (nI set) (nI 5) = some (nI (Wn set), fc')) (J : Int64 → OneV → Option (Int64 × OneV)) :
    ∃ v', lp_X7_part_48 v le ea (nI p) J m_N (0 : Int64) 0 v = J (ps Wn n p (2 ^ n)) v' ∧ vk v v' := by
  have h2 := two_n n hn
  refine n_loopI (fun f y (s : Int64 × OneV) => lp_X7_part_48 v le ea (nI p) J f s.1 y s.2) (fun j s => s.1 = ps Wn n p j ∧ vk v s.2) (2 ^ n) (fun r => ∃ v', r = J (ps Wn n p (2 ^ n)) v' ∧ vk v v') (fun f s hi => ?_) (fun f j s hj hi => ?_) m_N (0, v) (by rw [m_N_val]; omega) ⟨rfl, vk_refl v⟩
  · obtain ⟨i1, i2⟩ := hi
    refine ⟨s.2, ?_, i2⟩
    show st_X7_part_48 v le ea (nI p) J _ _ _ _ = _
    unfold st_X7_part_48
    rw [eg, sh_p n hn, if_pos (nI_le (Nat.le_refl _) (by omega)), i1]
  · obtain ⟨i1, i2⟩ := hi
    obtain ⟨p1, p2, p3⟩ := pc_both j (by omega)
    obtain ⟨o1, o2, o3⟩ := or_has j (by omega) p (by omega)
    have hst : lp_X7_part_48 v le ea (nI p) J (f + 1) s.1 (nI j) s.2 = st_X7_part_48 v le ea (nI p) J (lp_X7_part_48 v le ea (nI p) J f) s.1 (nI j) s.2 := rfl
    unfold st_X7_part_48 at hst
    rw [eg, sh_p n hn, if_neg (nI_ge hj (by omega)), p1, m_bind_some, m_jp_eq, o1, ← nI_succ] at hst
    have hps : ps Wn n p (j + 1) = if j.testBit p = true then ps Wn n p j else ps Wn n p j + ((mFA.getD (pc j) 0).toInt64 * (mFA.getD (n - 1 - pc j) 0).toInt64) * (nI (Wn (j ||| 2 ^ p)) - nI (Wn j)).toInt64 := rfl
    by_cases q : j.testBit p = true
    · rw [if_pos (by rw [o3.mpr q])] at hst
      rw [if_pos q] at hps
      exact ⟨s, ⟨by rw [hps]; exact i1, i2⟩, hst⟩
    · have hpc := pc_less n hn j hj p hp (by cases z : j.testBit p with
        | false => rfl
        | true => exact absurd z q)
      obtain ⟨f1, a1⟩ := hW (One_forecast s.2) (j ||| 2 ^ p) o2
      obtain ⟨f2, a2⟩ := hW f1 j (by omega)
      rw [if_neg (fun z => q (o3.mp ((nI_eq (by omega) (by omega)).mp z))), if_pos (nI_lt hpc (by omega)), if_pos (mIn_nI (by omega) (by omega)), show nI n - 1 = nI (n - 1) from pk_sub (b := 1) (by omega), pk_sub (by omega), if_pos (mIn_nI (by omega) (by omega)), q_n (by omega), q_n (by omega), i2.1, show (5 : Int32) = nI 5 from rfl, a1, m_bind_some, a2, m_bind_some] at hst
      rw [if_neg q] at hps
      exact ⟨(ps Wn n p (j + 1), One_forecast_s s.2 f2), ⟨rfl, vk_f i2 f2⟩, by rw [hps, ← i1]; exact hst⟩
theorem part_M {n p : Nat} (hn : n ≤ 6) (hp : p < n) (e20 : Model_s m 20 = nI n) {Wn : Nat → Nat} (hW0 : Wn 0 = 0) (hW : ∀ (m' : ModelV) set, set < 64 → mk0 m m' → ∃ m2, fn_X8_workBy m' (nI set) (nI 5) = some (nI (Wn set), m2) ∧ mk0 m m2) (J : Int64 → ModelV → Option (Int64 × ModelV)) :
    ∃ m', lp_X8_part_35 m (nI p) J m_N (0 : Int64) 0 m = J (ps Wn n p (2 ^ n)) m' ∧ mk0 m m' := by
  have h2 := two_n n hn
  refine n_loopI (fun f y (s : Int64 × ModelV) => lp_X8_part_35 m (nI p) J f s.1 y s.2) (fun j s => s.1 = ps Wn n p j ∧ mk0 m s.2) (2 ^ n) (fun r => ∃ m', r = J (ps Wn n p (2 ^ n)) m' ∧ mk0 m m') (fun f s hi => ?_) (fun f j s hj hi => ?_) m_N (0, m) (by rw [m_N_val]; omega) ⟨rfl, mk0_refl m⟩
  · obtain ⟨i1, i2⟩ := hi
    refine ⟨s.2, ?_, i2⟩
    show st_X8_part_35 m (nI p) J _ _ _ _ = _
    unfold st_X8_part_35
    rw [x8_every hn (by rw [i2.1]; exact e20), m_bind_some, if_pos (nI_lt (by omega) (by omega)), i1]
  · obtain ⟨i1, i2⟩ := hi
    obtain ⟨p1, p2, p3⟩ := pc_both j (by omega)
    obtain ⟨o1, o2, o3⟩ := or_has j (by omega) p (by omega)
    have hst : lp_X8_part_35 m (nI p) J (f + 1) s.1 (nI j) s.2 = st_X8_part_35 m (nI p) J (lp_X8_part_35 m (nI p) J f) s.1 (nI j) s.2 := rfl
    unfold st_X8_part_35 at hst
    rw [x8_every hn (by rw [i2.1]; exact e20), m_bind_some, if_neg (nI_nlt (by omega) (by omega)), m_jp_eq, bit_if j (by omega) p (by omega), o1, ← nI_succ] at hst
    have hps : ps Wn n p (j + 1) = if j.testBit p = true then ps Wn n p j else ps Wn n p j + ((mFA.getD (pc j) 0).toInt64 * (mFA.getD (n - 1 - pc j) 0).toInt64) * (nI (Wn (j ||| 2 ^ p)) - nI (Wn j)).toInt64 := rfl
    by_cases q : j.testBit p = true
    · rw [if_pos q, if_pos n10] at hst
      rw [if_pos q] at hps
      exact ⟨s, ⟨by rw [hps]; exact i1, i2⟩, hst⟩
    · have hpc := pc_less n hn j hj p hp (by cases z : j.testBit p with
        | false => rfl
        | true => exact absurd z q)
      obtain ⟨m1, a1, k1⟩ := hW s.2 (j ||| 2 ^ p) o2 i2
      obtain ⟨m2, a2, k2⟩ := hW m1 j (by omega) k1
      rw [if_neg q, if_neg n00, show (5 : Int32) = nI 5 from rfl, a1, m_bind_some, m_jp_eq, p2, a2, q_c20, e20] at hst
      simp only [m_bind_some] at hst
      rw [(fact_at (pc j) p3).1, show nI n - 1 = nI (n - 1) from pk_sub (b := 1) (by omega), pk_sub (by omega), (fact_at (n - 1 - pc j) (by omega)).1] at hst
      simp only [m_bind_some] at hst
      rw [if_neg q] at hps
      by_cases qj : nI j = 0
      · rw [if_neg (fun z => z qj)] at hst
        have hj0 : j = 0 := (nI_eq (b := 0) (by omega) (by omega)).mp qj
        refine ⟨(ps Wn n p (j + 1), m1), ⟨rfl, k1⟩, ?_⟩
        rw [hps, ← i1, show nI (Wn j) = 0 by rw [hj0, hW0]; rfl]
        exact hst
      · rw [if_pos qj] at hst
        exact ⟨(ps Wn n p (j + 1), m2), ⟨rfl, k2⟩, by rw [hps, ← i1]; exact hst⟩
theorem sim_part (h : R Q v m) (hH : HL Q (One_now v) (Model_s m) ea le) (x y : Int32) : SIML Q (fn_X7_part v le ea x y) (fn_X8_part m x y) := by
  obtain ⟨n, z, γ, f, w, hx⟩ := cx h hH
  obtain ⟨Wn, hWb, hW0, hC, hM⟩ := wbn hx (N := 5) (by omega)
  obtain ⟨hg, hh, hl, h1, hw, hwl, hγ, hn⟩ := hx
  have eg : Group_size (Room_group (One_now v)) = nI n := hg.2.1.2.1
  have e20 : Model_s m 20 = nI n := hg.1.1.trans eg
  unfold fn_X7_part fn_X8_part
  simp only [m_jp_eq]
  rcases pupil_c hg x with ⟨p, p1, rfl, p3, p4⟩ | ⟨p3, p4⟩
  · rw [p3, p4, m_bind_some, m_bind_some, if_neg n10, if_neg n10]
    rcases part_c y with ⟨r1, r2⟩ | ⟨r1, r2⟩
    · obtain ⟨v', a1, a2⟩ := part_C (v := v) (le := le) (ea := ea) hn p1 eg hC (fun (x4_152 : Int64) (wx_152 : OneV) => (if mIn (Group_size (Room_group (One_now v))) 7 = true then (Option.bind (fn_X7_inLowestTerms x4_152 ((mFA.getD ((Group_size (Room_group (One_now v)))).toNatClampNeg 0)).toInt64 y) (fun t7 => some (t7, wx_152))) else none))
      obtain ⟨m', b1, b2⟩ := part_M hn p1 e20 hW0 hM (fun (x4_123 : Int64) (wx_123 : ModelV) => (Option.bind (fn_X8_factorial ((Model_s m) (20 : Int32).toNatClampNeg)) (fun t6 => (Option.bind (fn_X8_lowest x4_123 t6 y) (fun t7 => some (t7, wx_123))))))
      obtain ⟨f1, f2, f3⟩ := fact_at n hn
      obtain ⟨r, c1, c2⟩ := low_same (ps Wn n p (2 ^ n)) ((mFA.getD n 0).toInt64) f2 f3 y
      rw [r1, r2, m_bind_some, m_bind_some, if_pos n10, if_pos n10, if_pos (show Group_size (Room_group (One_now v)) < 7 by rw [eg]; exact nI_lt (b := 7) (by omega) (by omega)), if_pos q_j20, a1, b1, q_c20, e20, f1, m_bind_some, eg, if_pos (mIn_nI (by omega) (by omega)), q_n (by omega), c1, c2, m_bind_some, m_bind_some]
      exact ⟨r, v', m', rfl, rfl, R_vk h b2 a2⟩
    · rw [r1, r2, m_bind_some, m_bind_some, if_neg n00, if_neg n00]
      exact ⟨_, v, m, rfl, rfl, h⟩
  · rw [p3, p4, m_bind_some, m_bind_some, if_pos n0, if_pos n0]
    exact ⟨_, v, m, rfl, rfl, h⟩
/-- how many bring so much -/
def oc (B : Nat → Nat) (b : Int32) : Nat → Nat
  | 0 => 0
  | p + 1 => if nI (B p) < b then oc B b p else oc B b p + 1
theorem oc_b (B : Nat → Nat) (b : Int32) : ∀ p, oc B b p ≤ p
  | 0 => Nat.le_refl 0
  | p + 1 => by
    have := oc_b B b p
    unfold oc
    split <;> omega
theorem sim_odds (h : R Q v m) (hH : HL Q (One_now v) (Model_s m) ea le) (x y w : Int32) : SIML Q (fn_X7_odds v le ea x y w) (fn_X8_odds m x y w) := by
  obtain ⟨n, z, γ, f, wk, hx⟩ := cx h hH
  have hx0 := hx
  obtain ⟨hg, hh, hl, h1, hw, hwl, hγ, hn⟩ := hx
  have eg : Group_size (Room_group (One_now v)) = nI n := hg.2.1.2.1
  have e20 : Model_s m 20 = nI n := hg.1.1.trans eg
  unfold fn_X7_odds fn_X8_odds
  simp only [m_jp_eq]
  rw [show fn_X8_in x 0 60 = fn_X8_in x 0 (nI 60) from rfl, show fn_X8_in y 0 99999 = fn_X8_in y 0 (nI 99999) from rfl]
  rcases c_cases x with hx | ⟨N, hN, rfl⟩
  · rw [if_pos hx, in_neg hx, m_bind_some, if_pos n0]
    exact ⟨_, v, m, rfl, rfl, h⟩
  rw [if_neg (nI_pos hN)]
  by_cases qN : N ≤ 60
  case neg =>
    rw [if_pos (show (60 : Int32) < nI N from nI_lt (a := 60) (by omega) hN), in_no (by omega) hN, m_bind_some, if_pos n0]
    exact ⟨_, v, m, rfl, rfl, h⟩
  rw [if_neg (show ¬ (60 : Int32) < nI N from nI_nlt (a := 60) qN (by omega)), in_yes qN (by omega), m_bind_some, if_neg n10]
  rcases c_cases y with hy | ⟨M, hM, rfl⟩
  · rw [if_pos hy, in_neg hy, m_bind_some, if_pos n0]
    exact ⟨_, v, m, rfl, rfl, h⟩
  rw [if_neg (nI_pos hM)]
  by_cases qM : M ≤ 99999
  case neg =>
    rw [if_pos (show (99999 : Int32) < nI M from nI_lt (a := 99999) (by omega) hM), in_no (by omega) hM, m_bind_some, if_pos n0]
    exact ⟨_, v, m, rfl, rfl, h⟩
  rw [if_neg (show ¬ (99999 : Int32) < nI M from nI_nlt (a := 99999) qM (by omega)), in_yes qM (by omega), m_bind_some, if_neg n10]
  rcases part_c w with ⟨r1, r2⟩ | ⟨r1, r2⟩
  case inr =>
    rw [r1, r2, m_bind_some, m_bind_some, if_neg n00, if_pos n0]
    exact ⟨_, v, m, rfl, rfl, h⟩
  rw [r1, r2, m_bind_some, m_bind_some, if_pos n10, if_neg n10, if_pos q_j20, q_c20, eg, e20]
  by_cases qn : nI n = 0
  · rw [if_neg (fun z => z qn), if_neg (fun z => z qn)]
    exact ⟨_, v, m, rfl, rfl, h⟩
  have hn0 : n ≠ 0 := fun z => qn (by rw [z]; rfl)
  rw [if_pos qn, if_pos qn]
  obtain ⟨si, A, B, s1, hA, hB, o1, o2, o3, o4, o5⟩ := outs_b hx0 qN
  have hob := oc_b B (nI M)
  have hC : ∀ J : Int32 → OneV → Option (Int64 × OneV), ∃ v', lp_X7_odds_54 le ea (nI N) (nI M) J m_N 0 0 v = J (nI (oc B (nI M) n)) v' ∧ vk v v' := by
    intro J
    refine n_loopI (fun f y (s : Int32 × OneV) => lp_X7_odds_54 le ea (nI N) (nI M) J f s.1 y s.2) (fun p s => s.1 = nI (oc B (nI M) p) ∧ vk v s.2) n (fun r => ∃ v', r = J (nI (oc B (nI M) n)) v' ∧ vk v v') (fun f' s hi => ?_) (fun f' p s hp hi => ?_) m_N (0, v) (by rw [m_N_val]; omega) ⟨rfl, vk_refl v⟩
    · obtain ⟨i1, i2⟩ := hi
      refine ⟨s.2, ?_, i2⟩
      show st_X7_odds_54 le ea (nI N) (nI M) J _ _ _ _ = _
      unfold st_X7_odds_54
      rw [i2.1, eg, if_pos (nI_le (Nat.le_refl n) (by omega)), i1]
    · obtain ⟨i1, i2⟩ := hi
      obtain ⟨g1, g2, c1, c2, c3⟩ := o5 (One_forecast s.2) p hp
      have hst : lp_X7_odds_54 le ea (nI N) (nI M) J (f' + 1) s.1 (nI p) s.2 = st_X7_odds_54 le ea (nI N) (nI M) J (lp_X7_odds_54 le ea (nI N) (nI M) J f') s.1 (nI p) s.2 := rfl
      unfold st_X7_odds_54 at hst
      rw [i2.1, eg, if_neg (nI_ge hp (by omega)), c1, m_bind_some, c2, m_bind_some, c3, m_bind_some, m_jp_eq, ← nI_succ] at hst
      have hoc : oc B (nI M) (p + 1) = if nI (B p) < nI M then oc B (nI M) p else oc B (nI M) p + 1 := rfl
      by_cases q : nI (B p) < nI M
      · rw [if_pos q] at hst hoc
        exact ⟨(s.1, One_forecast_s s.2 g2), ⟨by rw [hoc]; exact i1, vk_f i2 g2⟩, hst⟩
      · rw [if_neg q] at hst hoc
        exact ⟨(s.1 + 1, One_forecast_s s.2 g2), ⟨by rw [hoc]; show s.1 + 1 = _; rw [i1, nI_1], vk_f i2 g2⟩, hst⟩
  have hM' : ∀ J : Int64 → ModelV → Option (Int64 × ModelV), ∃ m', lp_X8_odds_49 (nI N) (nI M) J m_N (0 : Int64) 0 m = J (lN (oc B (nI M) n)) m' ∧ mk0 m m' := by
    intro J
    refine n_loopI (fun f y (s : Int64 × ModelV) => lp_X8_odds_49 (nI N) (nI M) J f s.1 y s.2) (fun p s => s.1 = lN (oc B (nI M) p) ∧ mk0 m s.2) n (fun r => ∃ m', r = J (lN (oc B (nI M) n)) m' ∧ mk0 m m') (fun f' s hi => ?_) (fun f' p s hp hi => ?_) m_N (0, m) (by rw [m_N_val]; omega) ⟨rfl, mk0_refl m⟩
    · obtain ⟨i1, i2⟩ := hi
      refine ⟨s.2, ?_, i2⟩
      show st_X8_odds_49 (nI N) (nI M) J _ _ _ _ = _
      unfold st_X8_odds_49
      rw [if_pos q_j20, q_c20, i2.1, e20, if_pos (nI_le (Nat.le_refl n) (by omega)), i1]
    · obtain ⟨i1, i2⟩ := hi
      obtain ⟨m2, c1, c2⟩ := o3 s.2 p hp i2
      have hst : lp_X8_odds_49 (nI N) (nI M) J (f' + 1) s.1 (nI p) s.2 = st_X8_odds_49 (nI N) (nI M) J (lp_X8_odds_49 (nI N) (nI M) J f') s.1 (nI p) s.2 := rfl
      unfold st_X8_odds_49 at hst
      rw [if_pos q_j20, q_c20, show Model_s s.2 20 = nI n by rw [i2.1]; exact e20, if_neg (nI_ge hp (by omega)), o1 s.2 i2, m_bind_some, (an_p si s1 p (by omega)).1, c1, m_bind_some, m_jp_eq, ← nI_succ] at hst
      have hoc : oc B (nI M) (p + 1) = if nI (B p) < nI M then oc B (nI M) p else oc B (nI M) p + 1 := rfl
      by_cases q : nI (B p) < nI M
      · rw [if_pos q] at hst hoc
        refine ⟨(s.1, m2), ⟨by rw [hoc]; exact i1, c2⟩, ?_⟩
        refine hst.trans ?_
        show lp_X8_odds_49 (nI N) (nI M) J f' (s.1 + 0) _ _ = _
        rw [Int64.add_zero]
      · rw [if_neg q] at hst hoc
        exact ⟨(s.1 + 1, m2), ⟨by rw [hoc]; show s.1 + 1 = _; rw [i1, lN_1], c2⟩, hst⟩
  obtain ⟨v', a1, a2⟩ := hC (fun (x4_110 : Int32) (wx_110 : OneV) => (Option.bind (fn_X7_inLowestTerms (x4_110).toInt64 ((Group_size (Room_group (One_now wx_110)))).toInt64 w) (fun t8 => some (t8, wx_110))))
  obtain ⟨m', b1, b2⟩ := hM' (fun (x4_97 : Int64) (wx_97 : ModelV) => (if mIn 20 926 = true then (Option.bind (fn_X8_lowest x4_97 (((Model_s wx_97) (20 : Int32).toNatClampNeg)).toInt64 w) (fun t10 => some (t10, wx_97))) else none))
  have hb0 : (lN n) ≠ 0 := fun z => hn0 ((lN_eq (b := 0) (by omega) (by omega)).mp z)
  obtain ⟨r, c1, c2⟩ := low_same (lN (oc B (nI M) n)) (lN n) hb0 (by rw [lN_toInt (by omega)]; simp; omega) w
  rw [q_c20] at b1
  have hob' := hob n
  rw [a1, b1, if_pos q_j20, b2.1, e20, a2.1, eg, nI_l (by omega), nI_l (by omega), c1, c2, m_bind_some, m_bind_some]
  exact ⟨r, v', m', rfl, rfl, R_vk h b2 a2⟩
theorem sim_mean (h : R Q v m) (hH : HL Q (One_now v) (Model_s m) ea le) (x w : Int32) : SIML Q (fn_X7_mean v le ea x w) (fn_X8_mean m x w) := by
  obtain ⟨n, z, γ, f, wk, hx⟩ := cx h hH
  obtain ⟨hg, hh, hl, h1, hw, hwl, hγ, hn⟩ := hx
  have eg : Group_size (Room_group (One_now v)) = nI n := hg.2.1.2.1
  have e20 : Model_s m 20 = nI n := hg.1.1.trans eg
  unfold fn_X7_mean fn_X8_mean
  simp only [m_jp_eq]
  rw [show fn_X8_in x 0 60 = fn_X8_in x 0 (nI 60) from rfl]
  rcases c_cases x with hx | ⟨N, hN, rfl⟩
  · rw [if_pos hx, in_neg hx, m_bind_some, if_pos n0]
    exact ⟨_, v, m, rfl, rfl, h⟩
  rw [if_neg (nI_pos hN)]
  by_cases qN : N ≤ 60
  case neg =>
    rw [if_pos (show (60 : Int32) < nI N from nI_lt (a := 60) (by omega) hN), in_no (by omega) hN, m_bind_some, if_pos n0]
    exact ⟨_, v, m, rfl, rfl, h⟩
  rw [if_neg (show ¬ (60 : Int32) < nI N from nI_nlt (a := 60) qN (by omega)), in_yes qN (by omega), m_bind_some, if_neg n10]
  rcases part_c w with ⟨r1, r2⟩ | ⟨r1, r2⟩
  case inr =>
    rw [r1, r2, m_bind_some, m_bind_some, if_neg n00, if_pos n0]
    exact ⟨_, v, m, rfl, rfl, h⟩
  rw [r1, r2, m_bind_some, m_bind_some, if_pos n10, if_neg n10, if_pos q_j20, q_c20, eg, e20]
  by_cases qn : nI n = 0
  · rw [if_neg (fun z => z qn), if_neg (fun z => z qn)]
    exact ⟨_, v, m, rfl, rfl, h⟩
  have hn0 : n ≠ 0 := fun z => qn (by rw [z]; rfl)
  rw [if_pos qn, if_pos qn]
  obtain ⟨f1, a1, a2⟩ := fc_begin (One_forecast v) h1 hg.2.1
  obtain ⟨f2, a3, a4⟩ := fc_go a2 hl hg.2.1 hw qN (by omega)
  have eG : Group_size (n_iter (sp_week n (lz_c z) (nI f) 0) N (Room_group (One_now v))) = nI n := (n_iter_week eg hw N).1
  have a5 := fc_hoursMore a4 eG eg hn
  obtain ⟨m1, b1, b2⟩ := fs_keeps n m
  have b2' : FS n m (Room_group (One_now v)) m1 := ⟨b2.1, b2.2.1, b2.2.2.1, ag_trans hg.1 b2.2.2.2⟩
  obtain ⟨m2, b3, b4⟩ := fs_goesOn b2' hh hg.2.1 hw qN (by omega)
  have b5 := fs_allMore b4 eG hn
  obtain ⟨m3, b6, b7⟩ := fs_back b4
  have e5 : n_sum n (fun p => Group_hours (n_iter (sp_week n (lz_c z) (nI f) 0) N (Room_group (One_now v))) p - Model_s m (2 + p)) = sp_all n (n_iter (sp_week n (lz_c z) (nI f) 0) N (Room_group (One_now v))) - sp_all n (Room_group (One_now v)) := by
    rw [n_sum_sub]
    unfold sp_all
    rw [n_sum_congr (f := fun p => Model_s m (2 + p)) (g := Group_hours (Room_group (One_now v))) (fun k hk => ag_hours hg.1 hk)]
  have hb0 : (lN n) ≠ 0 := fun z => hn0 ((lN_eq (b := 0) (by omega) (by omega)).mp z)
  obtain ⟨r, c1, c2⟩ := low_same ((sp_all n (n_iter (sp_week n (lz_c z) (nI f) 0) N (Room_group (One_now v))) - sp_all n (Room_group (One_now v))).toInt64) (lN n) hb0 (by rw [lN_toInt (by omega)]; simp; omega) w
  rw [a1, m_bind_some, a3, m_bind_some, a5, m_bind_some, b1, m_bind_some, b3, m_bind_some, b5, m_bind_some, b6, m_bind_some, if_pos q_j20, b7.1, e20, e5, nI_l (by omega), c1, c2, m_bind_some, m_bind_some]
  exact ⟨r, _, m3, rfl, rfl, R_mk h b7 rfl rfl rfl rfl⟩
end PT
