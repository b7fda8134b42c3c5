theorem f_same (f : Nat → Int32) (k : Nat) : upd f k (f k) = f := by
  funext j
  unfold upd
  by_cases h : j = k
  · subst h; rw [if_pos rfl]
  · rw [if_neg h]
theorem n_fill_keep {D d : Nat → Int32} {k : Nat} (h : D k = d k) : n_fill D d (k + 1) = n_fill D d k := by
  rw [← n_fill_succ, h]
  conv => lhs; rw [← n_fill_at D d k]
  exact f_same _ k
def sp_avg (n : Nat) (v : GroupV) : Int32 := n_sum n (Group_does v) / sp_cnt n v
def sp_w1 (n : Nat) (F : Int32) (v : GroupV) (j : Nat) : Int32 := if Group_does v j ≤ sp_avg n v then Group_wills v j else mMax 0 (Group_wills v j - F)
def sp_will (n : Nat) (F : Int32) (v : GroupV) (j : Nat) : Int32 :=
  if Group_outs v j = 0 then (if sp_avg n v ≤ Group_does v j then sp_w1 n F v j else mMin 99 (sp_w1 n F v j + 1)) else Group_wills v j
section CW
variable {v : GroupV} {n : Nat}
theorem x2_changeWills (F : Int32) (hs : Group_size v = nI n) (hn : n ≤ 6) : fn_X2_changeWills v F = some (if sp_cnt n v = 0 then v else Group_wills_s v (n_fill (sp_will n F v) (Group_wills v) n)) := by
  unfold fn_X2_changeWills
  rw [x2_countIn hs hn, m_bind_some]
  by_cases h0 : sp_cnt n v = 0
  · rw [if_neg (fun q => q h0), if_pos h0]
  rw [if_pos h0, if_neg h0, m_jp_eq]
  have hA : ∀ k : Int32 → Option GroupV, lp_X2_changeWills_15 v k m_N 0 0 = k (n_sum n (Group_does v)) := by
    intro k
    refine n_loop (fun f y (a : Int32) => lp_X2_changeWills_15 v k f a y) (fun j => n_sum j (Group_does v)) n _ (fun f => ?_) (fun f j hk => ?_) m_N (by rw [m_N_val]; omega)
    · show st_X2_changeWills_15 v k _ _ _ = _
      unfold st_X2_changeWills_15
      rw [hs, if_pos (nI_le (Nat.le_refl n) (by omega))]
    · show st_X2_changeWills_15 v k _ _ _ = _
      unfold st_X2_changeWills_15
      rw [hs, if_neg (nI_ge hk (by omega)), if_pos (mIn_nI (by omega) (by omega)), nI_clamp (by omega), ← nI_succ]
      rfl
  rw [hA, if_pos h0]
  have e0 : Group_wills_s v (n_fill (sp_will n F v) (Group_wills v) 0) = v := by rw [n_fill_0]
  conv => lhs; rw [← e0]
  refine n_loop (fun f y (s : GroupV) => lp_X2_changeWills_48 F (sp_cnt n v) (n_sum n (Group_does v)) f y s) (fun k => Group_wills_s v (n_fill (sp_will n F v) (Group_wills v) k)) n _ (fun f => ?_) (fun f k hk => ?_) m_N (by rw [m_N_val]; omega)
  · show st_X2_changeWills_48 F _ _ _ _ _ = _
    unfold st_X2_changeWills_48
    rw [show Group_size (Group_wills_s v (n_fill (sp_will n F v) (Group_wills v) n)) = nI n from hs, if_pos (nI_le (Nat.le_refl n) (by omega))]
  · show st_X2_changeWills_48 F _ _ _ _ _ = _
    unfold st_X2_changeWills_48
    have i6 : mIn (nI k) 6 = true := mIn_nI (by omega) (by omega)
    have hw : n_fill (sp_will n F v) (Group_wills v) k k = Group_wills v k := n_fill_at _ _ k
    rw [show Group_size (Group_wills_s v (n_fill (sp_will n F v) (Group_wills v) k)) = nI n from hs, if_neg (nI_ge hk (by omega)), nI_clamp (by omega), ← nI_succ]
    simp only [i6, if_true, m_jp_eq]
    show (if Group_outs v k = 0 then (if Group_does v k ≤ sp_avg n v then _ else _) else _) = lp_X2_changeWills_48 F _ _ f _ (Group_wills_s v (n_fill (sp_will n F v) (Group_wills v) (k + 1)))
    have hW : sp_will n F v k = if Group_outs v k = 0 then (if sp_avg n v ≤ Group_does v k then sp_w1 n F v k else mMin 99 (sp_w1 n F v k + 1)) else Group_wills v k := rfl
    have hW1 : sp_w1 n F v k = if Group_does v k ≤ sp_avg n v then Group_wills v k else mMax 0 (Group_wills v k - F) := rfl
    by_cases c1 : Group_outs v k = 0
    · rw [if_pos c1]
      rw [if_pos c1] at hW
      by_cases c2 : Group_does v k ≤ sp_avg n v
      · rw [if_pos c2]
        rw [if_pos c2] at hW1
        show (if sp_avg n v ≤ Group_does v k then _ else _) = _
        by_cases c3 : sp_avg n v ≤ Group_does v k
        · rw [if_pos c3]
          rw [if_pos c3, hW1] at hW
          rw [n_fill_keep hW]
        · rw [if_neg c3]
          rw [if_neg c3, hW1] at hW
          rw [← n_fill_succ, hW]
          show lp_X2_changeWills_48 F _ _ f _ (Group_wills_s v (upd (n_fill (sp_will n F v) (Group_wills v) k) k (mMin 99 (n_fill (sp_will n F v) (Group_wills v) k k + 1)))) = _
          rw [hw]
      · rw [if_neg c2]
        rw [if_neg c2] at hW1
        show (if sp_avg n v ≤ Group_does v k then _ else _) = _
        by_cases c3 : sp_avg n v ≤ Group_does v k
        · rw [if_pos c3]
          rw [if_pos c3, hW1] at hW
          rw [← n_fill_succ, hW]
          show lp_X2_changeWills_48 F _ _ f _ (Group_wills_s v (upd (n_fill (sp_will n F v) (Group_wills v) k) k (mMax 0 (n_fill (sp_will n F v) (Group_wills v) k k - F)))) = _
          rw [hw]
        · rw [if_neg c3]
          rw [if_neg c3, hW1] at hW
          rw [← n_fill_succ, hW]
          show lp_X2_changeWills_48 F _ _ f _ (Group_wills_s v (upd (upd (n_fill (sp_will n F v) (Group_wills v) k) k (mMax 0 (n_fill (sp_will n F v) (Group_wills v) k k - F))) k (mMin 99 (upd (n_fill (sp_will n F v) (Group_wills v) k) k (mMax 0 (n_fill (sp_will n F v) (Group_wills v) k k - F)) k + 1)))) = _
          rw [u_twice, pk_us, hw]
    · rw [if_neg c1]
      rw [if_neg c1] at hW
      rw [n_fill_keep hW]
end CW
