/-! A week of the class's group. -/
def sp_zeal (c : LC) (g : GroupV) (p : Nat) : Int32 := mMax 0 (sp_from g p 5 c)
def sp_wish (n : Nat) (c : LC) (g : GroupV) (p : Nat) : Int32 :=
  if Group_kinds g p = 1 then sp_zeal c g p + Group_vs g p / 2
  else if Group_kinds g p = 2 then sp_zeal c g p / 2
  else if Group_kinds g p = 3 then sp_zeal c g p
  else if Group_kinds g p = 4 then sp_zeal c g p + Group_vs g p / 2 + Group_size g - sp_cnt n g
  else if Group_kinds g p = 5 then sp_zeal c g p / 2 - sp_better n g p
  else if Group_kinds g p = 6 then sp_zeal c g p + sp_rown g p
  else sp_zeal c g p
def sp_does (n : Nat) (c : LC) (g : GroupV) (p : Nat) : Int32 := if Group_outs g p = 0 then mMax 0 (mMin (sp_wish n c g p) (Group_wills g p)) else 0
theorem x2_doesOf {le : LessonV} {g : GroupV} {n p : Nat} {c : LC} (hs : Group_size g = nI n) (hn : n ≤ 6) (hp : p < n) (hw : ∃ w, Group_week g = nI w ∧ w < 20000) (hok : lc_ok c) (hin : lc_in le c) : fn_X2_doesOf g le (nI p) = some (sp_does n c g p) := by
  have i6 : mIn (nI p) 6 = true := mIn_nI (show p < 6 by omega) (by omega)
  unfold fn_X2_doesOf sp_does
  rw [if_pos i6, nI_clamp (show p < 2 ^ 31 by omega)]
  by_cases h : Group_outs g p = 0
  · rw [if_pos h, if_pos h, x3_zealOf (by omega) hok hin, m_bind_some, if_pos i6, m_jp_eq, x2_countIn hs hn, x2_countBetter hs hn hp, x2_rowNow hn hp hw]
    simp only [m_bind_some, i6, if_true]
    unfold sp_wish sp_zeal
    repeat' split
    all_goals first | rfl | simp_all
  · rw [if_neg h, if_neg h]
def n_fill (D d : Nat → Int32) (k : Nat) : Nat → Int32 := fun j => if j < k then D j else d j
theorem n_fill_0 (D d : Nat → Int32) : n_fill D d 0 = d := funext fun j => if_neg (Nat.not_lt_zero j)
theorem n_fill_at (D d : Nat → Int32) (k : Nat) : n_fill D d k k = d k := if_neg (Nat.lt_irrefl k)
theorem n_fill_succ (D d : Nat → Int32) (k : Nat) : upd (n_fill D d k) k (D k) = n_fill D d (k + 1) := by
  funext j
  unfold upd n_fill
  by_cases h : j = k
  · subst h
    rw [if_pos rfl, if_pos (Nat.lt_succ_self j)]
  · rw [if_neg h]
    by_cases h2 : j < k
    · rw [if_pos h2, if_pos (by omega)]
    · rw [if_neg h2, if_neg (by omega)]
theorem u_twice (f : Nat → Int32) (k : Nat) (x y : Int32) : upd (upd f k x) k y = upd f k y := by
  funext j
  unfold upd
  by_cases h : j = k <;> simp [h]
theorem n_fill_in {D d : Nat → Int32} {k j : Nat} (h : j < k) : n_fill D d k j = D j := if_pos h
section WK
variable {le : LessonV} {g : GroupV} {n : Nat} {c : LC}
def wk1 (n : Nat) (c : LC) (g : GroupV) (k : Nat) : GroupV := Group_does_s g (n_fill (sp_does n c g) (Group_does g) k)
theorem x2_wk1 (j41 : GroupV → Option GroupV) (hs : Group_size g = nI n) (hn : n ≤ 6) (hw : ∃ w, Group_week g = nI w ∧ w < 20000) (hok : lc_ok c) (hin : lc_in le c) : lp_X2_goWeeks_12 le j41 m_N 0 g = j41 (wk1 n c g n) := by
  have e0 : wk1 n c g 0 = g := by unfold wk1; rw [n_fill_0]
  conv => lhs; rw [← e0]
  refine n_loop (fun f y (s : GroupV) => lp_X2_goWeeks_12 le j41 f y s) (wk1 n c g) n _ (fun f => ?_) (fun f k hk => ?_) m_N (by rw [m_N_val]; omega)
  · show st_X2_goWeeks_12 le j41 _ _ _ = _
    unfold st_X2_goWeeks_12
    rw [show Group_size (wk1 n c g n) = nI n from hs, if_pos (nI_le (Nat.le_refl n) (by omega))]
  · show st_X2_goWeeks_12 le j41 _ _ _ = _
    unfold st_X2_goWeeks_12
    rw [show Group_size (wk1 n c g k) = nI n from hs, if_neg (nI_ge hk (by omega)), x2_doesOf (g := wk1 n c g k) hs hn hk hw hok hin, m_bind_some, if_pos (mIn_nI (by omega) (by omega)), nI_clamp (by omega), ← nI_succ]
    show lp_X2_goWeeks_12 le j41 f _ (Group_does_s (wk1 n c g k) (upd (n_fill (sp_does n c g) (Group_does g) k) k (sp_does n c g k))) = _
    rw [n_fill_succ]
    rfl
/-- hours and work behind it; held, or not -/
def wk_h (n : Nat) (c : LC) (held : Int32) (g : GroupV) (j : Nat) : Int32 := if held = 0 then Group_hours g j + sp_does n c g j else mMin (Group_hours g j + sp_does n c g j) 9999
def wk2 (n : Nat) (c : LC) (held : Int32) (g : GroupV) (k : Nat) : GroupV := Group_hours_s (Group_work_s (wk1 n c g n) (Group_work g + n_sum k (fun j => sp_does n c g j * Group_skills g j))) (n_fill (wk_h n c held g) (Group_hours g) k)
theorem x2_wk2 (held : Int32) (j124 : GroupV → Option GroupV) (hs : Group_size g = nI n) (hn : n ≤ 6) : lp_X2_goWeeks_44 held j124 m_N 0 (wk1 n c g n) = j124 (wk2 n c held g n) := by
  have e0 : wk2 n c held g 0 = wk1 n c g n := by
    unfold wk2
    rw [n_fill_0, n_sum, Int32.add_zero]
    rfl
  conv => lhs; rw [← e0]
  refine n_loop (fun f y (s : GroupV) => lp_X2_goWeeks_44 held j124 f y s) (wk2 n c held g) n _ (fun f => ?_) (fun f k hk => ?_) m_N (by rw [m_N_val]; omega)
  · show st_X2_goWeeks_44 held j124 _ _ _ = _
    unfold st_X2_goWeeks_44
    rw [show Group_size (wk2 n c held g n) = nI n from hs, if_pos (nI_le (Nat.le_refl n) (by omega))]
  · show st_X2_goWeeks_44 held j124 _ _ _ = _
    unfold st_X2_goWeeks_44
    have i6 : mIn (nI k) 6 = true := mIn_nI (by omega) (by omega)
    have hd : Group_does (wk2 n c held g k) k = sp_does n c g k := n_fill_in hk
    have hh : Group_hours (wk2 n c held g k) k = Group_hours g k := n_fill_at _ _ k
    rw [show Group_size (wk2 n c held g k) = nI n from hs, if_neg (nI_ge hk (by omega)), if_pos i6, if_pos i6, if_pos i6, if_pos i6, if_pos i6, m_jp_eq, nI_clamp (by omega), hd, hh, if_pos i6, if_pos i6, ← nI_succ]
    have e1 : Group_work (wk2 n c held g k) + sp_does n c g k * Group_skills (wk2 n c held g k) k = Group_work g + n_sum (k + 1) (fun j => sp_does n c g j * Group_skills g j) := by
      show (Group_work g + n_sum k _) + sp_does n c g k * Group_skills g k = Group_work g + (n_sum k _ + _)
      rw [Int32.add_assoc]
    have e2 : upd (Group_hours (wk2 n c held g k)) k (wk_h n c held g k) = n_fill (wk_h n c held g) (Group_hours g) (k + 1) := n_fill_succ _ _ k
    by_cases h : held = 0
    · rw [if_pos h, e1]
      have e3 : wk_h n c held g k = Group_hours g k + sp_does n c g k := by unfold wk_h; rw [if_pos h]
      rw [← e3, e2]
      rfl
    · rw [if_neg h, e1, u_twice, show ∀ x, upd (Group_hours (wk2 n c held g k)) k x k = x from fun x => pk_us]
      have e3 : wk_h n c held g k = mMin (Group_hours g k + sp_does n c g k) 9999 := by unfold wk_h; rw [if_neg h]
      rw [← e3, e2]
      rfl
end WK
