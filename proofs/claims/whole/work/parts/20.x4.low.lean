/-! Fractions in lowest terms. -/
theorem remL_int (x y : Int64) : (mRemL x y).toInt = x.toInt.tmod y.toInt := by
  unfold mRemL
  rw [Int64.toInt_sub, Int64.toInt_mul, Int64.toInt_div]
  have h1 : x.toInt.tmod y.toInt = x.toInt - x.toInt.tdiv y.toInt * y.toInt := by
    have := Int.tmod_add_tdiv_mul x.toInt y.toInt
    omega
  have h2 : (x.toInt - ((x.toInt.tdiv y.toInt).bmod (2 ^ 64) * y.toInt).bmod (2 ^ 64)).bmod (2 ^ 64) = (x.toInt - x.toInt.tdiv y.toInt * y.toInt).bmod (2 ^ 64) := by
    simp
  rw [h2, ← h1]
  have hl := Int64.le_toInt x
  have hu := Int64.toInt_lt x
  have h3 : (x.toInt.tmod y.toInt).natAbs ≤ x.toInt.natAbs := by
    rw [Int.natAbs_tmod]
    exact Nat.mod_le _ _
  by_cases hm : x.toInt = -2 ^ 63
  · have h4 : x.toInt.tmod y.toInt ≤ 0 := by
      rw [hm, Int.neg_tmod]
      have := Int.tmod_nonneg y.toInt (show (0 : Int) ≤ 2 ^ 63 by decide)
      omega
    exact Int.bmod_eq_of_le (by omega) (by omega)
  · exact Int.bmod_eq_of_le (by omega) (by omega)
theorem i64_0 {x : Int64} (h : x.toInt = 0) : x = 0 := Int64.toInt_inj.mp (by rw [h]; decide)
theorem low_C {J : Int64 → Option Int64} {f t : Nat} (ht : t < 100) (x y : Int64) : lp_X7_inLowestTerms_12 J (f + 1) x y (nI t) = if y = 0 then J x else lp_X7_inLowestTerms_12 J f y (mRemL x y) (nI (t + 1)) := by
  show st_X7_inLowestTerms_12 J _ _ _ _ = _
  unfold st_X7_inLowestTerms_12
  rw [if_neg (show ¬ (100 : Int32) ≤ nI t from nI_ge (b := 100) ht (by omega))]
  by_cases h : y = 0
  · rw [if_pos ((lg_cmp_eq y 0).mpr h), if_pos h]
  · rw [if_neg (fun z => h ((lg_cmp_eq y 0).mp z)), if_pos h, if_neg h, ← nI_succ]
theorem low_M {J : Int64 → Option Int64} {f : Nat} (x y : Int64) : lp_X8_lowest_17 J (f + 1) x y = if y = 0 then J x else lp_X8_lowest_17 J f y (mRemL x y) := by
  show st_X8_lowest_17 J _ _ _ = _
  unfold st_X8_lowest_17
  by_cases h : y = 0
  · rw [if_pos ((lg_cmp_eq y 0).mpr h), if_pos h]
  · rw [if_neg (fun z => h ((lg_cmp_eq y 0).mp z)), if_pos h, if_neg h]
theorem mod_half {Y R : Nat} (h0 : 0 < R) (h : R < Y) : 2 * (Y % R) < Y := by
  have h1 := Nat.mod_lt Y h0
  have h2 : Y % R ≤ Y - R := by
    rw [Nat.mod_eq_sub_mod (by omega)]
    exact Nat.mod_le _ _
  omega
theorem euclid : ∀ k (x y : Int64), y.toInt.natAbs < 2 ^ k → (x ≠ 0 ∨ y ≠ 0) → ∃ g : Int64, g ≠ 0 ∧ ∀ (J K : Int64 → Option Int64) t fC fM, t + 2 * k < 99 → 2 * k + 1 < fC → 2 * k + 1 < fM → lp_X7_inLowestTerms_12 J fC x y (nI t) = J g ∧ lp_X8_lowest_17 K fM x y = K g
  | 0, x, y, hy, hxy => by
    have h0 : y = 0 := i64_0 (by rw [Nat.pow_zero] at hy; omega)
    refine ⟨x, fun z => hxy.elim (fun q => q z) (fun q => q h0), fun J K t fC fM ht hC hM => ?_⟩
    obtain ⟨fC, rfl⟩ : ∃ f', fC = f' + 1 := ⟨fC - 1, by omega⟩
    obtain ⟨fM, rfl⟩ : ∃ f', fM = f' + 1 := ⟨fM - 1, by omega⟩
    rw [low_C (by omega), low_M, if_pos h0, if_pos h0]
    exact ⟨rfl, rfl⟩
  | k + 1, x, y, hy, hxy => by
    by_cases h0 : y = 0
    · refine ⟨x, fun z => hxy.elim (fun q => q z) (fun q => q h0), fun J K t fC fM ht hC hM => ?_⟩
      obtain ⟨fC, rfl⟩ : ∃ f', fC = f' + 1 := ⟨fC - 1, by omega⟩
      obtain ⟨fM, rfl⟩ : ∃ f', fM = f' + 1 := ⟨fM - 1, by omega⟩
      rw [low_C (by omega), low_M, if_pos h0, if_pos h0]
      exact ⟨rfl, rfl⟩
    · have hr : (mRemL x y).toInt.natAbs = x.toInt.natAbs % y.toInt.natAbs := by rw [remL_int, Int.natAbs_tmod]
      have hY : 0 < y.toInt.natAbs := by
        rcases Nat.eq_zero_or_pos y.toInt.natAbs with q | q
        · exact absurd (i64_0 (Int.natAbs_eq_zero.mp q)) h0
        · exact q
      by_cases h1 : mRemL x y = 0
      · refine ⟨y, h0, fun J K t fC fM ht hC hM => ?_⟩
        obtain ⟨fC, rfl⟩ : ∃ f', fC = f' + 1 + 1 := ⟨fC - 2, by omega⟩
        obtain ⟨fM, rfl⟩ : ∃ f', fM = f' + 1 + 1 := ⟨fM - 2, by omega⟩
        rw [low_C (by omega), low_M, if_neg h0, if_neg h0, low_C (by omega), low_M, if_pos h1, if_pos h1]
        exact ⟨rfl, rfl⟩
      · have hR : 0 < (mRemL x y).toInt.natAbs := by
          rcases Nat.eq_zero_or_pos (mRemL x y).toInt.natAbs with q | q
          · exact absurd (i64_0 (Int.natAbs_eq_zero.mp q)) h1
          · exact q
        have hRY : (mRemL x y).toInt.natAbs < y.toInt.natAbs := by rw [hr]; exact Nat.mod_lt _ hY
        have h2 : (mRemL y (mRemL x y)).toInt.natAbs < 2 ^ k := by
          rw [remL_int, Int.natAbs_tmod]
          have := mod_half hR hRY
          rw [Nat.pow_succ] at hy
          omega
        obtain ⟨g, g1, g2⟩ := euclid k (mRemL x y) (mRemL y (mRemL x y)) h2 (Or.inl h1)
        refine ⟨g, g1, fun J K t fC fM ht hC hM => ?_⟩
        obtain ⟨fC, rfl⟩ : ∃ f', fC = f' + 1 + 1 := ⟨fC - 2, by omega⟩
        obtain ⟨fM, rfl⟩ : ∃ f', fM = f' + 1 + 1 := ⟨fM - 2, by omega⟩
        rw [low_C (by omega), low_M, if_neg h0, if_neg h0, low_C (by omega), low_M, if_neg h1, if_neg h1]
        exact g2 J K (t + 1 + 1) fC fM (by omega) (by omega) (by omega)
theorem low_same (a b : Int64) (hb : b ≠ 0) (hb2 : b.toInt.natAbs < 2 ^ 10) (x : Int32) : ∃ r, fn_X7_inLowestTerms a b x = some r ∧ fn_X8_lowest a b x = some r := by
  have hA : mAbsL a = if 0 ≤ lg_cmp a (0 : Int64) then a else -a := by
    unfold mAbsL
    by_cases h : (0 : Int64) ≤ a
    · rw [if_pos ((lg_cmp_ge a 0).mpr h)]
      by_cases h2 : (0 : Int64) < a
      · rw [if_pos h2]
      · have h3 : a = 0 := Int64.le_antisymm (Int64.not_lt.mp h2) h
        rw [h3]
        rfl
    · rw [if_neg (fun z => h ((lg_cmp_ge a 0).mp z)), if_neg (fun z => h (Int64.le_of_lt z))]
  obtain ⟨g, g1, g2⟩ := euclid 10 (mAbsL a) b hb2 (Or.inr hb)
  refine ⟨(if ¬ x = 0 then b else a) / g, ?_, ?_⟩
  · unfold fn_X7_inLowestTerms
    rw [m_jp_eq]
    refine (g2 _ (fun _ => none) 0 m_N m_N (by omega) (by rw [m_N_val]; omega) (by rw [m_N_val]; omega)).1.trans ?_
    have hl : ¬ lg_cmp g (0 : Int64) = 0 := fun z => g1 ((lg_cmp_eq g 0).mp z)
    have hg : ¬ g = 0 := g1
    simp only [hl, hg, m_jp_eq, not_false_eq_true, if_true]
    by_cases q : x = 0
    · simp [q]
    · simp [q]
  · unfold fn_X8_lowest
    rw [m_jp_eq]
    have hJ : ∀ K : Int64 → Option Int64, (if 0 ≤ lg_cmp a (0 : Int64) then lp_X8_lowest_17 K m_N a b else lp_X8_lowest_17 K m_N (-a) b) = K g := fun K => by
      have := (g2 (fun _ => none) K 0 m_N m_N (by omega) (by rw [m_N_val]; omega) (by rw [m_N_val]; omega)).2
      rw [hA] at this
      by_cases q : 0 ≤ lg_cmp a (0 : Int64)
      · rw [if_pos q] at this ⊢; exact this
      · rw [if_neg q] at this ⊢; exact this
    refine (hJ _).trans ?_
    have hg : ¬ g = 0 := g1
    simp only [hg, m_jp_eq, not_false_eq_true, if_true]
    by_cases q : x = 0
    · simp [q]
    · simp [q]
