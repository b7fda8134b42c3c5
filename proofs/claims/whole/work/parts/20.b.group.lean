/-! What a group's methods answer (the class), as sums. -/
def sp_cnt (n : Nat) (g : GroupV) : Int32 := n_sum n (fun k => if Group_outs g k = 0 then 1 else 0)
def sp_better (n : Nat) (g : GroupV) (p : Nat) : Int32 := n_sum n (fun k => if Group_outs g k = 0 ∧ Group_skills g p < Group_skills g k then 1 else 0)
def sp_all (n : Nat) (g : GroupV) : Int32 := n_sum n (Group_hours g)
def sp_share (n : Nat) (g : GroupV) (p : Nat) : Int32 := if sp_all n g = 0 then 0 else 100 * Group_hours g p / sp_all n g
def sp_hd (x : Int32) : Int32 := mMax 0 (mMin 100 x)
def sp_rown (g : GroupV) (p : Nat) : Int32 := Group_rows g (nI (4 * p) + mRem (Group_week g) 4).toNatClampNeg
def sp_claim (n : Nat) (g : GroupV) (p : Nat) : Int32 :=
  if Group_kinds g p = 1 then sp_hd (sp_share n g p - Group_vs g p)
  else if Group_kinds g p = 2 then sp_hd (sp_share n g p + Group_vs g p)
  else if Group_kinds g p = 3 then sp_hd (2 * sp_share n g p)
  else if Group_kinds g p = 4 then sp_hd (sp_share n g p - Group_vs g p)
  else if Group_kinds g p = 5 then sp_hd (sp_share n g p + Group_vs g p) / 2
  else if Group_kinds g p = 6 then sp_hd (2 * sp_share n g p + sp_rown g p)
  else sp_hd (sp_share n g p)
def sp_least (n : Nat) (g : GroupV) : Int32 := n_fold (fun k a => if Group_outs g k = 0 then mMin a (Group_skills g k) else a) 9 n
section GP
variable {g : GroupV} {n : Nat}
theorem x2_hoursOfAll (hs : Group_size g = nI n) (hn : n ≤ 6) : fn_X2_hoursOfAll g = some (sp_all n g) := by
  refine n_loop (fun f y (a : Int32) => lp_X2_hoursOfAll_4 g f a y) (fun k => n_sum k (Group_hours g)) n _ (fun f => ?_) (fun f k hk => ?_) m_N (by rw [m_N_val]; omega)
  · show st_X2_hoursOfAll_4 g _ _ _ = _
    unfold st_X2_hoursOfAll_4
    rw [hs, if_pos (nI_le (Nat.le_refl n) (by omega))]
    rfl
  · show st_X2_hoursOfAll_4 g _ _ _ = _
    unfold st_X2_hoursOfAll_4
    rw [hs, if_neg (nI_ge hk (by omega)), if_pos (mIn_nI (by omega) (by omega)), nI_clamp (by omega), ← nI_succ]
    rfl
theorem x2_countIn (hs : Group_size g = nI n) (hn : n ≤ 6) : fn_X2_countIn g = some (sp_cnt n g) := by
  refine n_loop (fun f y (a : Int32) => lp_X2_countIn_4 g f a y) (fun k => n_sum k (fun k => if Group_outs g k = 0 then 1 else 0)) n _ (fun f => ?_) (fun f k hk => ?_) m_N (by rw [m_N_val]; omega)
  · show st_X2_countIn_4 g _ _ _ = _
    unfold st_X2_countIn_4
    rw [hs, if_pos (nI_le (Nat.le_refl n) (by omega))]
    rfl
  · show st_X2_countIn_4 g _ _ _ = _
    unfold st_X2_countIn_4
    rw [hs, if_neg (nI_ge hk (by omega)), if_pos (mIn_nI (by omega) (by omega)), nI_clamp (by omega), ← nI_succ, m_jp_eq]
    by_cases h : Group_outs g k = 0
    · rw [if_neg (fun q => q h)]
      show _ = lp_X2_countIn_4 g f (n_sum (k + 1) _) _
      rw [n_sum, if_pos h]
    · rw [if_pos h]
      show _ = lp_X2_countIn_4 g f (n_sum (k + 1) _) _
      rw [n_sum, if_neg h, Int32.add_zero]
theorem x2_countBetter {p : Nat} (hs : Group_size g = nI n) (hn : n ≤ 6) (hp : p < n) : fn_X2_countBetter g (nI p) = some (sp_better n g p) := by
  refine n_loop (fun f y (a : Int32) => lp_X2_countBetter_4 g (nI p) f a y) (fun k => n_sum k (fun k => if Group_outs g k = 0 ∧ Group_skills g p < Group_skills g k then 1 else 0)) n _ (fun f => ?_) (fun f k hk => ?_) m_N (by rw [m_N_val]; omega)
  · show st_X2_countBetter_4 g _ _ _ _ = _
    unfold st_X2_countBetter_4
    rw [hs, if_pos (nI_le (Nat.le_refl n) (by omega))]
    rfl
  · show st_X2_countBetter_4 g _ _ _ _ = _
    unfold st_X2_countBetter_4
    rw [hs, if_neg (nI_ge hk (by omega)), if_pos (mIn_nI (by omega) (by omega)), nI_clamp (by omega), nI_clamp (by omega), ← nI_succ, m_jp_eq, if_pos (mIn_nI (by omega) (by omega)), if_pos (mIn_nI (by omega) (by omega))]
    by_cases h : Group_outs g k = 0
    · rw [if_neg (fun q => q h)]
      by_cases h2 : Group_skills g k ≤ Group_skills g p
      · rw [if_pos h2]
        show _ = lp_X2_countBetter_4 g (nI p) f (n_sum (k + 1) _) _
        rw [n_sum, if_neg (fun q => Int32.not_lt.mpr h2 q.2), Int32.add_zero]
      · rw [if_neg h2]
        show _ = lp_X2_countBetter_4 g (nI p) f (n_sum (k + 1) _) _
        rw [n_sum, if_pos ⟨h, Int32.not_le.mp h2⟩]
    · rw [if_pos h]
      show _ = lp_X2_countBetter_4 g (nI p) f (n_sum (k + 1) _) _
      rw [n_sum, if_neg (fun q => h q.1), Int32.add_zero]
theorem x2_leastSkillIn (hs : Group_size g = nI n) (hn : n ≤ 6) : fn_X2_leastSkillIn g = some (sp_least n g) := by
  refine n_loop (fun f y (a : Int32) => lp_X2_leastSkillIn_5 g f a y) (fun k => n_fold (fun k a => if Group_outs g k = 0 then mMin a (Group_skills g k) else a) 9 k) n _ (fun f => ?_) (fun f k hk => ?_) m_N (by rw [m_N_val]; omega)
  · show st_X2_leastSkillIn_5 g _ _ _ = _
    unfold st_X2_leastSkillIn_5
    rw [hs, if_pos (nI_le (Nat.le_refl n) (by omega))]
    rfl
  · show st_X2_leastSkillIn_5 g _ _ _ = _
    unfold st_X2_leastSkillIn_5
    rw [hs, if_neg (nI_ge hk (by omega)), if_pos (mIn_nI (by omega) (by omega)), nI_clamp (by omega), ← nI_succ, m_jp_eq, if_pos (mIn_nI (by omega) (by omega))]
    by_cases h : Group_outs g k = 0
    · rw [if_neg (fun q => q h)]
      show _ = lp_X2_leastSkillIn_5 g f (n_fold _ 9 (k + 1)) _
      rw [n_fold, if_pos h]
    · rw [if_pos h]
      show _ = lp_X2_leastSkillIn_5 g f (n_fold _ 9 (k + 1)) _
      rw [n_fold, if_neg h]
theorem x2_shareOf {p : Nat} (hs : Group_size g = nI n) (hn : n ≤ 6) (hp : p < n) : fn_X2_shareOf g (nI p) = some (sp_share n g p) := by
  unfold fn_X2_shareOf sp_share
  rw [x2_hoursOfAll hs hn, m_bind_some]
  by_cases h : sp_all n g = 0
  · simp [h]
  · simp [h, mIn_nI (show p < 6 by omega) (by omega), nI_clamp (show p < 2 ^ 31 by omega)]
theorem x2_rowNow {p : Nat} (hn : n ≤ 6) (hp : p < n) (hw : ∃ w, Group_week g = nI w ∧ w < 20000) : fn_X2_rowNow g (nI p) = some (sp_rown g p) := by
  obtain ⟨w, hw, hwl⟩ := hw
  have e1 : mRem (Group_week g) 4 = nI (w % 4) := by
    rw [hw]
    exact pk_rem (d := 4) (by omega) (by omega) (by omega)
  have e2 : nI p * 4 = nI (4 * p) := by
    rw [show (4 : Int32) = nI 4 from rfl]
    show Int32.ofNat p * Int32.ofNat 4 = Int32.ofNat (4 * p)
    rw [← Int32.ofNat_mul, Nat.mul_comm]
  unfold fn_X2_rowNow sp_rown
  rw [e1, e2, nI_add, if_pos (mIn_nI (by omega) (by omega))]
theorem x2_claimOf {p : Nat} (hs : Group_size g = nI n) (hn : n ≤ 6) (hp : p < n) (hw : ∃ w, Group_week g = nI w ∧ w < 20000) : fn_X2_claimOf g (nI p) = some (sp_claim n g p) := by
  have i6 : mIn (nI p) 6 = true := mIn_nI (show p < 6 by omega) (by omega)
  unfold fn_X2_claimOf sp_claim
  rw [x2_shareOf hs hn hp, m_bind_some, m_jp_eq, x2_rowNow hn hp hw, nI_clamp (show p < 2 ^ 31 by omega)]
  simp only [fn_X2_toHundred, m_bind_some, sp_hd, i6, if_true]
  repeat' split
  all_goals first | rfl | simp_all
theorem x2_claimsOfAll (hs : Group_size g = nI n) (hn : n ≤ 6) (hw : ∃ w, Group_week g = nI w ∧ w < 20000) : fn_X2_claimsOfAll g = some (n_sum n (sp_claim n g)) := by
  refine n_loop (fun f y (a : Int32) => lp_X2_claimsOfAll_4 g f a y) (fun k => n_sum k (sp_claim n g)) n _ (fun f => ?_) (fun f k hk => ?_) m_N (by rw [m_N_val]; omega)
  · show st_X2_claimsOfAll_4 g _ _ _ = _
    unfold st_X2_claimsOfAll_4
    rw [hs, if_pos (nI_le (Nat.le_refl n) (by omega))]
  · show st_X2_claimsOfAll_4 g _ _ _ = _
    unfold st_X2_claimsOfAll_4
    rw [hs, if_neg (nI_ge hk (by omega)), x2_claimOf hs hn hk hw, m_bind_some, ← nI_succ]
    rfl
theorem x2_base {G : Int32} (hG : 1 ≤ G) : fn_X2_base g G = some (mMin 100 (100 * Group_work g / G)) := by
  have h0 : ¬ G = 0 := by
    intro h
    subst h
    exact absurd hG (by decide)
  unfold fn_X2_base
  rw [if_pos hG, if_pos h0]
def sp_stake (n : Nat) (g : GroupV) (r : Int32) (p : Nat) : Int32 := if r = 1 then Group_hours g p else sp_claim n g p
theorem x2_stakeOf {p : Nat} {r : Int32} (hs : Group_size g = nI n) (hn : n ≤ 6) (hp : p < n) (hw : ∃ w, Group_week g = nI w ∧ w < 20000) : fn_X2_stakeOf g (nI p) r = some (sp_stake n g r p) := by
  unfold fn_X2_stakeOf sp_stake
  by_cases h : r = 1
  · rw [if_neg (fun q => q h), if_pos h, if_pos (mIn_nI (show p < 6 by omega) (by omega)), nI_clamp (show p < 2 ^ 31 by omega)]
  · rw [if_pos h, if_neg h, x2_claimOf hs hn hp hw, m_bind_some]
def sp_stakes (n : Nat) (g : GroupV) (r : Int32) : Int32 := n_sum n (fun k => if Group_outs g k = 0 then sp_stake n g r k else 0)
def sp_mark (n : Nat) (g : GroupV) (r G : Int32) (p : Nat) : Int32 :=
  if Group_outs g p = 0 then
    if r = 0 then mMin 100 (100 * Group_work g / G)
    else if r = 3 then mMin 100 (100 * Group_work g / G) * sp_least n g / 9
    else if sp_stakes n g r = 0 then mMin 100 (100 * Group_work g / G)
    else mMin 100 (mMin 100 (100 * Group_work g / G) * sp_stake n g r p * sp_cnt n g / sp_stakes n g r)
  else 0
theorem x2_markLoop {r : Int32} (k : Int32 → Option Int32) (hs : Group_size g = nI n) (hn : n ≤ 6) (hw : ∃ w, Group_week g = nI w ∧ w < 20000) : lp_X2_markOf_47 g r k m_N 0 0 = k (sp_stakes n g r) := by
  refine n_loop (fun f y (a : Int32) => lp_X2_markOf_47 g r k f a y) (fun j => n_sum j (fun k => if Group_outs g k = 0 then sp_stake n g r k else 0)) n _ (fun f => ?_) (fun f j hk => ?_) m_N (by rw [m_N_val]; omega)
  · show st_X2_markOf_47 g r k _ _ _ = _
    unfold st_X2_markOf_47
    rw [hs, if_pos (nI_le (Nat.le_refl n) (by omega))]
    rfl
  · show st_X2_markOf_47 g r k _ _ _ = _
    unfold st_X2_markOf_47
    rw [hs, if_neg (nI_ge hk (by omega)), if_pos (mIn_nI (by omega) (by omega)), nI_clamp (by omega), ← nI_succ, m_jp_eq, x2_stakeOf hs hn hk hw]
    by_cases h : Group_outs g j = 0
    · rw [if_neg (fun q => q h), m_bind_some]
      show _ = lp_X2_markOf_47 g r k f (n_sum (j + 1) _) _
      rw [n_sum, if_pos h]
    · rw [if_pos h]
      show _ = lp_X2_markOf_47 g r k f (n_sum (j + 1) _) _
      rw [n_sum, if_neg h, Int32.add_zero]
theorem x2_markOf {p : Nat} {r G : Int32} (hG : 1 ≤ G) (hs : Group_size g = nI n) (hn : n ≤ 6) (hp : p < n) (hw : ∃ w, Group_week g = nI w ∧ w < 20000) : fn_X2_markOf g (nI p) r G = some (sp_mark n g r G p) := by
  unfold fn_X2_markOf sp_mark
  rw [if_pos (mIn_nI (show p < 6 by omega) (by omega)), nI_clamp (show p < 2 ^ 31 by omega), x2_base hG, m_bind_some, m_jp_eq, x2_markLoop _ hs hn hw, x2_stakeOf hs hn hp hw, m_bind_some, x2_countIn hs hn, m_bind_some, x2_leastSkillIn hs hn, m_bind_some]
  by_cases h1 : Group_outs g p = 0 <;> by_cases h2 : r = 0 <;> by_cases h3 : r = 3 <;> by_cases h4 : sp_stakes n g r = 0 <;> simp [h1, h2, h3, h4]
end GP
