/-! The same out of the reference's one row. -/
def sv (s : Nat → Int32) : GroupV := (s 20, s 0, s 1, fun p => s (27 + p), fun p => s (33 + p), fun p => s (39 + p), fun p => s (8 + p), fun p => s (2 + p), fun p => s (14 + p), fun j => s (45 + j), fun _ => 0)
theorem s_f (m k : Nat) (h : m + k < 926) : mIn (nI m + nI k) 926 = true ∧ (nI m + nI k).toNatClampNeg = m + k := ⟨s_in h (by omega), s_at (by omega)⟩
theorem k20 : (20 : Int32).toNatClampNeg = 20 := by decide
theorem k0 : (0 : Int32).toNatClampNeg = 0 := by decide
theorem k1 : (1 : Int32).toNatClampNeg = 1 := by decide
theorem i20 : mIn 20 926 = true := by decide
theorem i0 : mIn 0 926 = true := by decide
theorem i1 : mIn 1 926 = true := by decide
section MP
variable {m : ModelV} {n : Nat}
theorem x8_allHours (hs : Model_s m 20 = nI n) (hn : n ≤ 6) : fn_X8_allHours m = some (sp_all n (sv (Model_s m))) := by
  refine n_loop (fun f y (a : Int32) => lp_X8_allHours_4 m f a y) (fun k => n_sum k (Group_hours (sv (Model_s m)))) n _ (fun f => ?_) (fun f k hk => ?_) m_N (by rw [m_N_val]; omega)
  · show st_X8_allHours_4 m _ _ _ = _
    unfold st_X8_allHours_4
    rw [if_pos i20, k20, hs, if_pos (nI_le (Nat.le_refl n) (by omega))]
    rfl
  · show st_X8_allHours_4 m _ _ _ = _
    unfold st_X8_allHours_4
    have h2 : mIn (2 + nI k) 926 = true ∧ (2 + nI k).toNatClampNeg = 2 + k := s_f 2 k (by omega)
    rw [if_pos i20, k20, hs, if_neg (nI_ge hk (by omega)), if_pos h2.1, h2.2, ← nI_succ]
    rfl
theorem x8_manyIn (hs : Model_s m 20 = nI n) (hn : n ≤ 6) : fn_X8_manyIn m = some (sp_cnt n (sv (Model_s m))) := by
  refine n_loop (fun f y (a : Int32) => lp_X8_manyIn_4 m f a y) (fun k => n_sum k (fun k => if Group_outs (sv (Model_s m)) k = 0 then 1 else 0)) n _ (fun f => ?_) (fun f k hk => ?_) m_N (by rw [m_N_val]; omega)
  · show st_X8_manyIn_4 m _ _ _ = _
    unfold st_X8_manyIn_4
    rw [if_pos i20, k20, hs, if_pos (nI_le (Nat.le_refl n) (by omega))]
    rfl
  · show st_X8_manyIn_4 m _ _ _ = _
    unfold st_X8_manyIn_4
    have h2 : mIn (14 + nI k) 926 = true ∧ (14 + nI k).toNatClampNeg = 14 + k := s_f 14 k (by omega)
    rw [if_pos i20, k20, hs, if_neg (nI_ge hk (by omega)), if_pos h2.1, h2.2, ← nI_succ, m_jp_eq]
    by_cases h : Model_s m (14 + k) = 0
    · rw [if_neg (fun q => q h)]
      show _ = lp_X8_manyIn_4 m f (n_sum (k + 1) _) _
      rw [n_sum, if_pos (show Group_outs (sv (Model_s m)) k = 0 from h)]
    · rw [if_pos h]
      show _ = lp_X8_manyIn_4 m f (n_sum (k + 1) _) _
      rw [n_sum, if_neg (show ¬ Group_outs (sv (Model_s m)) k = 0 from h)]
theorem x8_shareOf {p : Nat} (hs : Model_s m 20 = nI n) (hn : n ≤ 6) (hp : p < n) : fn_X8_shareOf m (nI p) = some (sp_share n (sv (Model_s m)) p) := by
  have h2 : mIn (2 + nI p) 926 = true ∧ (2 + nI p).toNatClampNeg = 2 + p := s_f 2 p (by omega)
  unfold fn_X8_shareOf sp_share
  rw [x8_allHours hs hn, m_bind_some, if_pos h2.1, h2.2]
  by_cases h : sp_all n (sv (Model_s m)) = 0
  · rw [if_neg (fun q => q h), if_pos h]
  · rw [if_pos h, if_pos h, if_neg h]; rfl
end MP
