def w_in (x lo hi : Int32) : Int32 := if lo ≤ x then (if x ≤ hi then x else hi) else lo
theorem x8_within (x lo hi : Int32) : fn_X8_within x lo hi = some (w_in x lo hi) := by
  unfold fn_X8_within w_in
  split
  · split <;> rfl
  · rfl
theorem x8_in (x lo hi : Int32) : fn_X8_in x lo hi = some (if lo ≤ x ∧ x ≤ hi then 1 else 0) := by
  unfold fn_X8_in
  by_cases h1 : x < lo
  · rw [if_pos h1, if_neg (fun q => absurd h1 (Int32.not_lt.mpr q.1))]
  · rw [if_neg h1]
    by_cases h2 : hi < x
    · rw [if_pos h2, if_neg (fun q => absurd h2 (Int32.not_lt.mpr q.2))]
    · rw [if_neg h2, if_pos ⟨Int32.not_lt.mp h1, Int32.not_lt.mp h2⟩]
theorem z_0 : (0 : Int32).toInt = 0 := by decide
theorem z_100 : (100 : Int32).toInt = 100 := by decide
theorem w_hd (x : Int32) : w_in x 0 100 = sp_hd x := by
  unfold w_in sp_hd mMax mMin
  simp only [Int32.le_iff_toInt_le, Int32.lt_iff_toInt_lt, z_0, z_100]
  by_cases h1 : (0 : Int) ≤ x.toInt
  · by_cases h2 : x.toInt < 100
    · rw [if_pos h1, if_pos (by omega), if_pos h2]
      by_cases h3 : (0 : Int) < x.toInt
      · rw [if_pos h3]
      · rw [if_neg h3]
        exact Int32.toInt_inj.mp (by rw [z_0]; omega)
    · rw [if_pos h1, if_neg h2, z_100, if_pos (show (0 : Int) < 100 by decide)]
      by_cases h3 : x.toInt ≤ 100
      · rw [if_pos h3]
        exact Int32.toInt_inj.mp (by rw [z_100]; omega)
      · rw [if_neg h3]
  · rw [if_neg h1, if_pos (show x.toInt < 100 by omega), if_neg (by omega)]
section MP2
variable {m : ModelV} {n : Nat}
def sp_least8 (n : Nat) (g : GroupV) : Int32 := n_fold (fun k a => if Group_outs g k = 0 ∧ Group_skills g k < a then Group_skills g k else a) 99 n
theorem x8_leastSkill (hs : Model_s m 20 = nI n) (hn : n ≤ 6) : fn_X8_leastSkill m = some (sp_least8 n (sv (Model_s m))) := by
  refine n_loop (fun f y (a : Int32) => lp_X8_leastSkill_5 m f a y) (fun k => n_fold (fun k a => if Group_outs (sv (Model_s m)) k = 0 ∧ Group_skills (sv (Model_s m)) k < a then Group_skills (sv (Model_s m)) k else a) 99 k) n _ (fun f => ?_) (fun f k hk => ?_) m_N (by rw [m_N_val]; omega)
  · show st_X8_leastSkill_5 m _ _ _ = _
    unfold st_X8_leastSkill_5
    rw [if_pos i20, k20, hs, if_pos (nI_le (Nat.le_refl n) (by omega))]
    rfl
  · show st_X8_leastSkill_5 m _ _ _ = _
    unfold st_X8_leastSkill_5
    have h2 : mIn (14 + nI k) 926 = true ∧ (14 + nI k).toNatClampNeg = 14 + k := s_f 14 k (by omega)
    have h3 : mIn (39 + nI k) 926 = true ∧ (39 + nI k).toNatClampNeg = 39 + k := s_f 39 k (by omega)
    rw [if_pos i20, k20, hs, if_neg (nI_ge hk (by omega)), if_pos h2.1, h2.2, m_jp_eq, m_jp_eq, if_pos h3.1, if_pos h3.1, h3.2, ← nI_succ]
    show _ = lp_X8_leastSkill_5 m f (n_fold _ 99 (k + 1)) _
    rw [n_fold]
    by_cases h : Model_s m (14 + k) = 0
    · rw [if_neg (fun q => q h)]
      by_cases h4 : n_fold (fun k a => if Group_outs (sv (Model_s m)) k = 0 ∧ Group_skills (sv (Model_s m)) k < a then Group_skills (sv (Model_s m)) k else a) 99 k ≤ Model_s m (39 + k)
      · rw [if_pos h4, if_neg (fun q => absurd q.2 (Int32.not_lt.mpr h4))]
      · rw [if_neg h4, if_pos ⟨h, Int32.not_le.mp h4⟩]
        rfl
    · rw [if_pos h, if_neg (fun q => h q.1)]
theorem x8_moreSkilled {p : Nat} (hs : Model_s m 20 = nI n) (hn : n ≤ 6) (hp : p < n) : fn_X8_moreSkilled m (nI p) = some (sp_better n (sv (Model_s m)) p) := by
  have h4 : mIn (39 + nI p) 926 = true ∧ (39 + nI p).toNatClampNeg = 39 + p := s_f 39 p (by omega)
  refine n_loop (fun f y (a : Int32) => lp_X8_moreSkilled_4 m (nI p) f a y) (fun k => n_sum k (fun k => if Group_outs (sv (Model_s m)) k = 0 ∧ Group_skills (sv (Model_s m)) p < Group_skills (sv (Model_s m)) k then 1 else 0)) n _ (fun f => ?_) (fun f k hk => ?_) m_N (by rw [m_N_val]; omega)
  · show st_X8_moreSkilled_4 m _ _ _ _ = _
    unfold st_X8_moreSkilled_4
    rw [if_pos i20, k20, hs, if_pos (nI_le (Nat.le_refl n) (by omega))]
    rfl
  · show st_X8_moreSkilled_4 m _ _ _ _ = _
    unfold st_X8_moreSkilled_4
    have h2 : mIn (14 + nI k) 926 = true ∧ (14 + nI k).toNatClampNeg = 14 + k := s_f 14 k (by omega)
    have h3 : mIn (39 + nI k) 926 = true ∧ (39 + nI k).toNatClampNeg = 39 + k := s_f 39 k (by omega)
    rw [if_pos i20, k20, hs, if_neg (nI_ge hk (by omega)), m_jp_eq, m_jp_eq, if_pos h2.1, h2.2, if_pos h3.1, h3.2, if_pos h4.1, h4.2, ← nI_succ]
    show _ = lp_X8_moreSkilled_4 m (nI p) f (n_sum (k + 1) _) _
    rw [n_sum]
    by_cases h0 : k = p
    · subst h0
      rw [if_pos rfl, if_neg (show ¬ (Group_outs (sv (Model_s m)) k = 0 ∧ Group_skills (sv (Model_s m)) k < Group_skills (sv (Model_s m)) k) from fun q => Int32.lt_irrefl q.2)]
    · rw [if_neg (fun q => h0 ((nI_eq (by omega) (by omega)).mp q))]
      by_cases h : Model_s m (14 + k) = 0
      · rw [if_neg (fun q => q h)]
        by_cases h5 : Model_s m (39 + k) ≤ Model_s m (39 + p)
        · rw [if_pos h5, if_neg (fun q => absurd q.2 (Int32.not_lt.mpr h5))]
        · rw [if_neg h5, if_pos ⟨h, Int32.not_le.mp h5⟩]
      · rw [if_pos h, if_neg (fun q => h q.1)]
theorem x8_claimOf {p : Nat} (hs : Model_s m 20 = nI n) (hn : n ≤ 6) (hp : p < n) (hw : ∃ w, Model_s m 0 = nI w ∧ w < 20000) (hh : sp_hd (sp_share n (sv (Model_s m)) p) = sp_share n (sv (Model_s m)) p) : fn_X8_claimOf m (nI p) = some (sp_claim n (sv (Model_s m)) p) := by
  have h2 : mIn (33 + nI p) 926 = true ∧ (33 + nI p).toNatClampNeg = 33 + p := s_f 33 p (by omega)
  have h3 : mIn (27 + nI p) 926 = true ∧ (27 + nI p).toNatClampNeg = 27 + p := s_f 27 p (by omega)
  obtain ⟨w, hw, hwl⟩ := hw
  have e1 : mRem (Model_s m 0) 4 = nI (w % 4) := by
    rw [hw]
    exact pk_rem (d := 4) (by omega) (by omega) (by omega)
  have e2 : 4 * nI p = nI (4 * p) := pk_mul 4 p
  have e3 : (45 + nI (4 * p)) + nI (w % 4) = nI (45 + (4 * p + w % 4)) := by
    rw [show (45 : Int32) = nI 45 from rfl, nI_add, nI_add, Nat.add_assoc]
  have e4 : sp_rown (sv (Model_s m)) p = Model_s m (45 + (4 * p + w % 4)) := by
    show Model_s m (45 + (nI (4 * p) + mRem (Model_s m 0) 4).toNatClampNeg) = _
    rw [e1, nI_add, nI_clamp (by omega)]
  unfold fn_X8_claimOf sp_claim
  rw [x8_shareOf hs hn hp, m_bind_some, if_pos h2.1, if_pos h3.1, h2.2, h3.2, m_jp_eq, e2, k0, e1, e3, if_pos i0, if_pos (mIn_nI (by omega) (by omega)), nI_clamp (by omega), e4]
  simp only [x8_within, m_bind_some, w_hd]
  show (if Model_s m (27 + p) = 1 then _ else _) = some (if Model_s m (27 + p) = 1 then _ else _)
  show (if Model_s m (27 + p) = 1 then some (sp_hd (_ - Model_s m (33 + p))) else _) = some (if Model_s m (27 + p) = 1 then sp_hd (_ - Model_s m (33 + p)) else if Model_s m (27 + p) = 2 then sp_hd (_ + Model_s m (33 + p)) else if Model_s m (27 + p) = 3 then _ else if Model_s m (27 + p) = 4 then sp_hd (_ - Model_s m (33 + p)) else if Model_s m (27 + p) = 5 then sp_hd (_ + Model_s m (33 + p)) / 2 else if Model_s m (27 + p) = 6 then _ else _)
  rw [hh]
  repeat' split
  all_goals first | rfl | simp_all
end MP2
