/-! Rules: spread, how far. -/
def sp_s2 (n : Nat) (g : GroupV) (r G : Int32) (k : Nat) : Int32 × Int32 := n_fold (fun k a => if Group_outs g k = 0 then (mMax a.1 (sp_mark n g r G k), mMin a.2 (sp_mark n g r G k)) else a) (0, 100) k
def sp_s8 (n : Nat) (g : GroupV) (r G : Int32) (k : Nat) : Int32 × Int32 := n_fold (fun k a => (if Group_outs g k = 0 ∧ a.1 < sp_mark n g r G k then sp_mark n g r G k else a.1, if Group_outs g k = 0 ∧ sp_mark n g r G k < a.2 then sp_mark n g r G k else a.2)) (-1, 1000000000) k
def sp_spread (n : Nat) (g : GroupV) (r G : Int32) : Int32 := mMax 0 ((sp_s2 n g r G n).1 - (sp_s2 n g r G n).2)
def sp_away (n : Nat) (g : GroupV) (r G : Int32) : Int32 := n_sum n (fun p => mAbs (sp_mark n g r G p - sp_mark n g 1 G p))
section RU
variable {g : GroupV} {n : Nat}
theorem x2_spreadOf {r G : Int32} (hG : 1 ≤ G) (hs : Group_size g = nI n) (hn : n ≤ 6) (hw : ∃ w, Group_week g = nI w ∧ w < 20000) : fn_X2_spreadOf g r G = some (sp_spread n g r G) := by
  unfold fn_X2_spreadOf
  rw [m_jp_eq]
  refine n_loop (fun f y (a : Int32 × Int32) => lp_X2_spreadOf_9 g r G (fun (x3_63 : Int32) (x4_63 : Int32) => some (mMax 0 (x3_63 - x4_63))) f a.1 a.2 y) (sp_s2 n g r G) n _ (fun f => ?_) (fun f k hk => ?_) m_N (by rw [m_N_val]; omega)
  · show st_X2_spreadOf_9 g r G _ _ _ _ _ = _
    unfold st_X2_spreadOf_9
    rw [hs, if_pos (nI_le (Nat.le_refl n) (by omega))]
    rfl
  · show st_X2_spreadOf_9 g r G _ _ _ _ _ = _
    unfold st_X2_spreadOf_9
    rw [hs, if_neg (nI_ge hk (by omega)), if_pos (q_6 (by omega)), q_n (by omega), x2_markOf hG hs hn hk hw, m_jp_eq, m_bind_some, ← nI_succ]
    show _ = lp_X2_spreadOf_9 g r G _ f (n_fold _ (0, 100) (k + 1)).1 (n_fold _ (0, 100) (k + 1)).2 _
    rw [n_fold]
    by_cases q : Group_outs g k = 0
    · rw [if_pos q, if_pos q]
      rfl
    · rw [if_neg q, if_neg q]
      rfl
theorem spread_same (h : gr n g) {γ : Nat} (h1 : 1 ≤ γ) (h2 : γ < 100) (r : Int32) : (if ¬ (sp_s8 n g r (nI γ) n).1 = -1 then (sp_s8 n g r (nI γ) n).1 - (sp_s8 n g r (nI γ) n).2 else 0) = sp_spread n g r (nI γ) := by
  have main : ∀ m, m ≤ n → (sp_s8 n g r (nI γ) m = (-1, 1000000000) ∧ sp_s2 n g r (nI γ) m = (0, 100)) ∨ ∃ a b, a ≤ 100 ∧ b ≤ a ∧ sp_s8 n g r (nI γ) m = (nI a, nI b) ∧ sp_s2 n g r (nI γ) m = (nI a, nI b) := by
    intro m
    induction m with
    | zero => intro _; exact Or.inl ⟨rfl, rfl⟩
    | succ m ih =>
      intro hm
      obtain ⟨x, hx, he⟩ := mark_b h h1 h2 r (p := m) (by omega)
      have e8 : sp_s8 n g r (nI γ) (m + 1) = (if Group_outs g m = 0 ∧ (sp_s8 n g r (nI γ) m).1 < sp_mark n g r (nI γ) m then sp_mark n g r (nI γ) m else (sp_s8 n g r (nI γ) m).1, if Group_outs g m = 0 ∧ sp_mark n g r (nI γ) m < (sp_s8 n g r (nI γ) m).2 then sp_mark n g r (nI γ) m else (sp_s8 n g r (nI γ) m).2) := rfl
      have e2 : sp_s2 n g r (nI γ) (m + 1) = if Group_outs g m = 0 then (mMax (sp_s2 n g r (nI γ) m).1 (sp_mark n g r (nI γ) m), mMin (sp_s2 n g r (nI γ) m).2 (sp_mark n g r (nI γ) m)) else sp_s2 n g r (nI γ) m := rfl
      rw [e8, e2, he]
      by_cases q : Group_outs g m = 0
      · rcases ih (by omega) with ⟨i1, i2⟩ | ⟨a, b, ha, hb, i1, i2⟩
        · refine Or.inr ⟨x, x, hx, Nat.le_refl x, ?_, ?_⟩
          · rw [i1]
            show (if Group_outs g m = 0 ∧ (-1 : Int32) < nI x then nI x else -1, if Group_outs g m = 0 ∧ nI x < (1000000000 : Int32) then nI x else 1000000000) = _
            rw [if_pos ⟨q, neg_case (by decide) (by omega)⟩, if_pos ⟨q, nI_lt (b := 1000000000) (by omega) (by omega)⟩]
          · rw [i2, if_pos q]
            show (mMax (nI 0) (nI x), mMin (nI 100) (nI x)) = _
            rw [mMax_nI (by omega) (by omega), mMin_nI (by omega) (by omega), Nat.zero_max, Nat.min_eq_right hx]
        · refine Or.inr ⟨max a x, min b x, by omega, by omega, ?_, ?_⟩
          · rw [i1]
            show (if Group_outs g m = 0 ∧ nI a < nI x then nI x else nI a, if Group_outs g m = 0 ∧ nI x < nI b then nI x else nI b) = _
            by_cases q1 : a < x
            · rw [if_pos ⟨q, nI_lt q1 (by omega)⟩, Nat.max_eq_right (by omega)]
              by_cases q2 : x < b
              · rw [if_pos ⟨q, nI_lt q2 (by omega)⟩, Nat.min_eq_right (by omega)]
              · rw [if_neg (fun z => nI_nlt (by omega) (by omega) z.2), Nat.min_eq_left (by omega)]
            · rw [if_neg (fun z => nI_nlt (by omega) (by omega) z.2), Nat.max_eq_left (by omega)]
              by_cases q2 : x < b
              · rw [if_pos ⟨q, nI_lt q2 (by omega)⟩, Nat.min_eq_right (by omega)]
              · rw [if_neg (fun z => nI_nlt (by omega) (by omega) z.2), Nat.min_eq_left (by omega)]
          · rw [i2, if_pos q]
            show (mMax (nI a) (nI x), mMin (nI b) (nI x)) = _
            rw [mMax_nI (by omega) (by omega), mMin_nI (by omega) (by omega)]
      · rw [if_neg (fun z => q z.1), if_neg (fun z => q z.1), if_neg q]
        exact ih (by omega)
  unfold sp_spread
  rcases main n (Nat.le_refl n) with ⟨i1, i2⟩ | ⟨a, b, ha, hb, i1, i2⟩
  · rw [i1, i2, if_neg (fun z => z rfl)]
    decide
  · rw [i1, i2]
    show (if ¬ nI a = -1 then nI a - nI b else 0) = mMax (nI 0) (nI a - nI b)
    rw [if_pos (nI_nm1 (by omega)), pk_sub hb, mMax_nI (by omega) (by omega), Nat.zero_max]
theorem x2_away {r G : Int32} (hG : 1 ≤ G) (hs : Group_size g = nI n) (hn : n ≤ 6) (hw : ∃ w, Group_week g = nI w ∧ w < 20000) : fn_X2_awayFromHours g r G = some (sp_away n g r G) := by
  refine n_loop (fun f y (a : Int32) => lp_X2_awayFromHours_5 g r G f a y) (fun k => n_sum k (fun p => mAbs (sp_mark n g r G p - sp_mark n g 1 G p))) n _ (fun f => ?_) (fun f k hk => ?_) m_N (by rw [m_N_val]; omega)
  · show st_X2_awayFromHours_5 g r G _ _ _ = _
    unfold st_X2_awayFromHours_5
    rw [hs, if_pos (nI_le (Nat.le_refl n) (by omega))]
    rfl
  · show st_X2_awayFromHours_5 g r G _ _ _ = _
    unfold st_X2_awayFromHours_5
    rw [hs, if_neg (nI_ge hk (by omega)), x2_markOf hG hs hn hk hw, m_bind_some, x2_markOf hG hs hn hk hw, m_bind_some, ← nI_succ]
    rfl
theorem ag_stake {h : GroupV} (a : ag n g h) (hw : ∃ w, Group_week g = nI w ∧ w < 20000) (hn : n ≤ 6) (r : Int32) {p : Nat} (hp : p < n) : sp_stake n h r p = sp_stake n g r p := by
  obtain ⟨w, h1, h2⟩ := hw
  unfold sp_stake
  rw [ag_hours a hp, ag_claim a hp h1 h2 hn]
theorem ag_mark {h : GroupV} (a : ag n g h) (hw : ∃ w, Group_week g = nI w ∧ w < 20000) (hn : n ≤ 6) (r G : Int32) {p : Nat} (hp : p < n) : sp_mark n h r G p = sp_mark n g r G p := by
  have e : sp_stakes n h r = sp_stakes n g r := n_sum_congr (fun k hk => by rw [ag_outs a hk, ag_stake a hw hn r hk])
  unfold sp_mark
  rw [ag_outs a hp, a.2.2.1, ag_least a, e, ag_stake a hw hn r hp, ag_cnt a]
theorem ag_spread {h : GroupV} (a : ag n g h) (hw : ∃ w, Group_week g = nI w ∧ w < 20000) (hn : n ≤ 6) (r G : Int32) : sp_spread n h r G = sp_spread n g r G := by
  have e : sp_s2 n h r G n = sp_s2 n g r G n := n_fold_congr (fun k hk s => by rw [ag_outs a hk, ag_mark a hw hn r G hk])
  unfold sp_spread
  rw [e]
theorem ag_away {h : GroupV} (a : ag n g h) (hw : ∃ w, Group_week g = nI w ∧ w < 20000) (hn : n ≤ 6) (r G : Int32) : sp_away n h r G = sp_away n g r G := n_sum_congr (fun k hk => by rw [ag_mark a hw hn r G hk, ag_mark a hw hn 1 G hk])
end RU
section R8
variable {m : ModelV} {n : Nat} {z : LZ} {γ : Nat} {F : Int32}
theorem x8_size (x : Int32) : fn_X8_size x = some (mAbs x) := by
  unfold fn_X8_size mAbs
  split
  · rfl
  · rw [Int32.zero_sub]
theorem x8_farFrom (h : gr n (sv (Model_s m))) (hl : lh (Model_s m) z (nI γ) F) (hγ : γ < 100) (r : Int32) : fn_X8_farFrom m r = some (sp_away n (sv (Model_s m)) r (nI (GL γ))) := by
  have hn := h.1.1
  have e20 : Model_s m 20 = nI n := h.1.2.1
  refine n_loop (fun f y (a : Int32) => lp_X8_farFrom_4 m r f a y) (fun k => n_sum k (fun p => mAbs (sp_mark n (sv (Model_s m)) r (nI (GL γ)) p - sp_mark n (sv (Model_s m)) 1 (nI (GL γ)) p))) n _ (fun f => ?_) (fun f k hk => ?_) m_N (by rw [m_N_val]; omega)
  · show st_X8_farFrom_4 m r _ _ _ = _
    unfold st_X8_farFrom_4
    rw [if_pos q_j20, q_c20, e20, if_pos (nI_le (Nat.le_refl n) (by omega))]
    rfl
  · show st_X8_farFrom_4 m r _ _ _ = _
    unfold st_X8_farFrom_4
    rw [if_pos q_j20, q_c20, e20, if_neg (nI_ge hk (by omega)), x8_markOf h hl hγ r hk, m_bind_some, x8_markOf h hl hγ 1 hk, m_bind_some, x8_size, m_bind_some, ← nI_succ]
    rfl
theorem x8_spreadLoop (h : gr n (sv (Model_s m))) (hl : lh (Model_s m) z (nI γ) F) (hγ : γ < 100) (r : Int32) (K : Int32 → Int32 → Option Int32) : lp_X8_spread_17 m r K m_N (-1) 1000000000 0 = K (sp_s8 n (sv (Model_s m)) r (nI (GL γ)) n).1 (sp_s8 n (sv (Model_s m)) r (nI (GL γ)) n).2 := by
  have hn := h.1.1
  have e20 : Model_s m 20 = nI n := h.1.2.1
  refine n_loop (fun f y (a : Int32 × Int32) => lp_X8_spread_17 m r K f a.1 a.2 y) (sp_s8 n (sv (Model_s m)) r (nI (GL γ))) n _ (fun f => ?_) (fun f k hk => ?_) m_N (by rw [m_N_val]; omega)
  · show st_X8_spread_17 m r K _ _ _ _ = _
    unfold st_X8_spread_17
    rw [if_pos q_j20, q_c20, e20, if_pos (nI_le (Nat.le_refl n) (by omega))]
  · show st_X8_spread_17 m r K _ _ _ _ = _
    unfold st_X8_spread_17
    rw [if_pos q_j20, q_c20, e20, if_neg (nI_ge hk (by omega)), x8_markOf h hl hγ r hk, m_bind_some, ← nI_succ]
    simp only [m_jp_eq, q_i14 (show 14 + k < 926 by omega), if_true, q_a14 (show 14 + k < 926 by omega)]
    show _ = lp_X8_spread_17 m r K f (n_fold _ (-1, 1000000000) (k + 1)).1 (n_fold _ (-1, 1000000000) (k + 1)).2 _
    rw [n_fold]
    show _ = lp_X8_spread_17 m r K f (if Model_s m (14 + k) = 0 ∧ (sp_s8 n (sv (Model_s m)) r (nI (GL γ)) k).1 < sp_mark n (sv (Model_s m)) r (nI (GL γ)) k then sp_mark n (sv (Model_s m)) r (nI (GL γ)) k else (sp_s8 n (sv (Model_s m)) r (nI (GL γ)) k).1) (if Model_s m (14 + k) = 0 ∧ sp_mark n (sv (Model_s m)) r (nI (GL γ)) k < (sp_s8 n (sv (Model_s m)) r (nI (GL γ)) k).2 then sp_mark n (sv (Model_s m)) r (nI (GL γ)) k else (sp_s8 n (sv (Model_s m)) r (nI (GL γ)) k).2) _
    by_cases q : Model_s m (14 + k) = 0
    · by_cases q1 : sp_mark n (sv (Model_s m)) r (nI (GL γ)) k ≤ (sp_s8 n (sv (Model_s m)) r (nI (GL γ)) k).1
      · by_cases q2 : (sp_s8 n (sv (Model_s m)) r (nI (GL γ)) k).2 ≤ sp_mark n (sv (Model_s m)) r (nI (GL γ)) k
        · simp [q, q1, q2, Int32.not_lt.mpr q1, Int32.not_lt.mpr q2]
        · simp [q, q1, q2, Int32.not_lt.mpr q1, Int32.not_le.mp q2]
      · by_cases q2 : (sp_s8 n (sv (Model_s m)) r (nI (GL γ)) k).2 ≤ sp_mark n (sv (Model_s m)) r (nI (GL γ)) k
        · simp [q, q1, q2, Int32.not_le.mp q1, Int32.not_lt.mpr q2]
        · simp [q, q1, q2, Int32.not_le.mp q1, Int32.not_le.mp q2]
    · simp [q]
end R8
