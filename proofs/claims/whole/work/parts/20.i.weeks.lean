def sp_hold (held : Int32) (v : GroupV) : GroupV := if held = 0 then v else Group_work_s v (mMin (Group_work v) 99999)
def sp_chg (n : Nat) (F : Int32) (v : GroupV) : GroupV := if sp_cnt n v = 0 then v else Group_wills_s v (n_fill (sp_will n F v) (Group_wills v) n)
def sp_week (n : Nat) (c : LC) (F held : Int32) (g : GroupV) : GroupV := Group_week_s (sp_chg n F (sp_hold held (wk2 n c held g n))) (Group_week (sp_chg n F (sp_hold held (wk2 n c held g n))) + 1)
def n_iter {α : Type} (f : α → α) : Nat → α → α
  | 0, a => a
  | k + 1, a => f (n_iter f k a)
theorem sp_hold_size (held : Int32) (v : GroupV) : Group_size (sp_hold held v) = Group_size v := by unfold sp_hold; split <;> rfl
theorem sp_hold_week (held : Int32) (v : GroupV) : Group_week (sp_hold held v) = Group_week v := by unfold sp_hold; split <;> rfl
theorem sp_chg_size (n : Nat) (F : Int32) (v : GroupV) : Group_size (sp_chg n F v) = Group_size v := by unfold sp_chg; split <;> rfl
theorem sp_chg_week (n : Nat) (F : Int32) (v : GroupV) : Group_week (sp_chg n F v) = Group_week v := by unfold sp_chg; split <;> rfl
theorem sp_week_size (n : Nat) (c : LC) (F held : Int32) (g : GroupV) : Group_size (sp_week n c F held g) = Group_size g := by
  show Group_size (sp_chg n F (sp_hold held (wk2 n c held g n))) = _
  rw [sp_chg_size, sp_hold_size]
  rfl
theorem sp_week_week (n : Nat) (c : LC) (F held : Int32) (g : GroupV) : Group_week (sp_week n c F held g) = Group_week g + 1 := by
  show Group_week (sp_chg n F (sp_hold held (wk2 n c held g n))) + 1 = _
  rw [sp_chg_week, sp_hold_week]
  rfl
theorem n_iter_week {n : Nat} {c : LC} {F held : Int32} {g : GroupV} {w : Nat} (hs : Group_size g = nI n) (hw : Group_week g = nI w) : ∀ k, Group_size (n_iter (sp_week n c F held) k g) = nI n ∧ Group_week (n_iter (sp_week n c F held) k g) = nI (w + k)
  | 0 => ⟨hs, hw⟩
  | k + 1 => by
    obtain ⟨h1, h2⟩ := n_iter_week (c := c) (F := F) (held := held) hs hw k
    exact ⟨(sp_week_size ..).trans h1, (sp_week_week ..).trans (by rw [h2, nI_1]; rfl)⟩
theorem x2_goWeeks {le : LessonV} {n N w : Nat} {c : LC} {g : GroupV} (held : Int32) (hs : Group_size g = nI n) (hn : n ≤ 6) (hw : Group_week g = nI w) (hN : N ≤ 60) (hwl : w + N < 20000) (hok : lc_ok c) (hin : lc_in le c) : fn_X2_goWeeks g le (nI N) held = some (n_iter (sp_week n c (Lesson_fair le) held) N g) := by
  refine n_loop (fun f y (s : GroupV) => lp_X2_goWeeks_3 le (nI N) held f y s) (fun k => n_iter (sp_week n c (Lesson_fair le) held) k g) N _ (fun f => ?_) (fun f k hk => ?_) m_N (by rw [m_N_val]; omega)
  · show st_X2_goWeeks_3 le _ _ _ _ _ = _
    unfold st_X2_goWeeks_3
    rw [if_pos (nI_le (Nat.le_refl _) (by omega))]
  · obtain ⟨h1, h2⟩ := n_iter_week (c := c) (F := Lesson_fair le) (held := held) hs hw k
    show st_X2_goWeeks_3 le _ _ _ _ _ = _
    unfold st_X2_goWeeks_3
    generalize hG : n_iter (sp_week n c (Lesson_fair le) held) k g = G at h1 h2 ⊢
    rw [if_neg (nI_ge hk (by omega)), m_jp_eq, x2_wk1 _ h1 hn ⟨w + k, h2, by omega⟩ hok hin, m_jp_eq, x2_wk2 held _ h1 hn, m_jp_eq, ← nI_succ]
    have e : sp_hold held (wk2 n c held G n) = if held = 0 then wk2 n c held G n else Group_work_s (wk2 n c held G n) (mMin (Group_work (wk2 n c held G n)) 99999) := rfl
    have hz : Group_size (sp_hold held (wk2 n c held G n)) = nI n := (sp_hold_size _ _).trans h1
    have hc := x2_changeWills (n := n) (Lesson_fair le) hz hn
    show _ = lp_X2_goWeeks_3 le (nI N) held f (nI (k + 1)) (sp_week n c (Lesson_fair le) held (n_iter (sp_week n c (Lesson_fair le) held) k g))
    rw [hG]
    by_cases h : held = 0
    · rw [if_pos h] at e ⊢
      rw [← e]
      show Option.bind (fn_X2_changeWills (sp_hold held (wk2 n c held G n)) (Lesson_fair le)) _ = _
      rw [hc, m_bind_some]
      rfl
    · rw [if_neg h] at e ⊢
      rw [← e]
      show Option.bind (fn_X2_changeWills (sp_hold held (wk2 n c held G n)) (Lesson_fair le)) _ = _
      rw [hc, m_bind_some]
      rfl
