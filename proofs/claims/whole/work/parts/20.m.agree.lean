/-! Two groups agree below n: what is asked of them is the same. -/
def ag (n : Nat) (g h : GroupV) : Prop := Group_size h = Group_size g ∧ Group_week h = Group_week g ∧ Group_work h = Group_work g ∧ ∀ k, k < n → (Group_kinds h k = Group_kinds g k ∧ Group_vs h k = Group_vs g k ∧ Group_skills h k = Group_skills g k ∧ Group_wills h k = Group_wills g k ∧ Group_hours h k = Group_hours g k ∧ Group_outs h k = Group_outs g k) ∧ ∀ i, i < 4 → Group_rows h (4 * k + i) = Group_rows g (4 * k + i)
theorem ag_refl (n : Nat) (g : GroupV) : ag n g g := ⟨rfl, rfl, rfl, fun _ _ => ⟨⟨rfl, rfl, rfl, rfl, rfl, rfl⟩, fun _ _ => rfl⟩⟩
theorem ag_symm {n : Nat} {g h : GroupV} (a : ag n g h) : ag n h g := ⟨a.1.symm, a.2.1.symm, a.2.2.1.symm, fun k hk => by
  obtain ⟨⟨a1, a2, a3, a4, a5, a6⟩, a7⟩ := a.2.2.2 k hk
  exact ⟨⟨a1.symm, a2.symm, a3.symm, a4.symm, a5.symm, a6.symm⟩, fun i hi => (a7 i hi).symm⟩⟩
theorem ag_trans {n : Nat} {f g h : GroupV} (a : ag n f g) (b : ag n g h) : ag n f h := ⟨b.1.trans a.1, b.2.1.trans a.2.1, b.2.2.1.trans a.2.2.1, fun k hk => by
  obtain ⟨⟨a1, a2, a3, a4, a5, a6⟩, a7⟩ := a.2.2.2 k hk
  obtain ⟨⟨b1, b2, b3, b4, b5, b6⟩, b7⟩ := b.2.2.2 k hk
  exact ⟨⟨b1.trans a1, b2.trans a2, b3.trans a3, b4.trans a4, b5.trans a5, b6.trans a6⟩, fun i hi => (b7 i hi).trans (a7 i hi)⟩⟩
section AG
variable {n : Nat} {g h : GroupV}
theorem ag_kinds (a : ag n g h) {k : Nat} (hk : k < n) : Group_kinds h k = Group_kinds g k := (a.2.2.2 k hk).1.1
theorem ag_vs (a : ag n g h) {k : Nat} (hk : k < n) : Group_vs h k = Group_vs g k := (a.2.2.2 k hk).1.2.1
theorem ag_skills (a : ag n g h) {k : Nat} (hk : k < n) : Group_skills h k = Group_skills g k := (a.2.2.2 k hk).1.2.2.1
theorem ag_wills (a : ag n g h) {k : Nat} (hk : k < n) : Group_wills h k = Group_wills g k := (a.2.2.2 k hk).1.2.2.2.1
theorem ag_hours (a : ag n g h) {k : Nat} (hk : k < n) : Group_hours h k = Group_hours g k := (a.2.2.2 k hk).1.2.2.2.2.1
theorem ag_outs (a : ag n g h) {k : Nat} (hk : k < n) : Group_outs h k = Group_outs g k := (a.2.2.2 k hk).1.2.2.2.2.2
theorem ag_rows (a : ag n g h) {k i : Nat} (hk : k < n) (hi : i < 4) : Group_rows h (4 * k + i) = Group_rows g (4 * k + i) := (a.2.2.2 k hk).2 i hi
theorem n_fold_cg {σ : Type} {F G : Nat → σ → σ} {a : σ} {n : Nat} (h : ∀ k, k < n → ∀ s, F k s = G k s) : n_fold F a n = n_fold G a n := n_fold_congr h
theorem ag_cnt (a : ag n g h) : sp_cnt n h = sp_cnt n g := n_sum_congr (fun k hk => by rw [ag_outs a hk])
theorem ag_better (a : ag n g h) {p : Nat} (hp : p < n) : sp_better n h p = sp_better n g p := n_sum_congr (fun k hk => by rw [ag_outs a hk, ag_skills a hk, ag_skills a hp])
theorem ag_all (a : ag n g h) : sp_all n h = sp_all n g := n_sum_congr (fun k hk => ag_hours a hk)
theorem ag_share (a : ag n g h) {p : Nat} (hp : p < n) : sp_share n h p = sp_share n g p := by
  unfold sp_share
  rw [ag_all a, ag_hours a hp]
theorem ag_rown (a : ag n g h) {p w : Nat} (hp : p < n) (hw : Group_week g = nI w) (hwl : w < 20000) (hn : n ≤ 6) : sp_rown h p = sp_rown g p := by
  have e1 : mRem (nI w) 4 = nI (w % 4) := pk_rem (d := 4) (by omega) (by omega) (by omega)
  unfold sp_rown
  rw [a.2.1, hw, e1, nI_add, nI_clamp (by omega)]
  exact ag_rows a hp (by omega)
theorem ag_claim (a : ag n g h) {p w : Nat} (hp : p < n) (hw : Group_week g = nI w) (hwl : w < 20000) (hn : n ≤ 6) : sp_claim n h p = sp_claim n g p := by
  unfold sp_claim
  rw [ag_share a hp, ag_kinds a hp, ag_vs a hp, ag_rown a hp hw hwl hn]
theorem ag_least (a : ag n g h) : sp_least n h = sp_least n g := n_fold_congr (fun k hk s => by rw [ag_outs a hk, ag_skills a hk])
theorem ag_sub (a : ag n g h) {p : Nat} (hp : p < n) (w : Nat) : tk_sub h p w = tk_sub g p w := by
  unfold tk_sub
  rw [ag_kinds a hp, ag_vs a hp, ag_skills a hp, ag_hours a hp, a.2.1]
theorem ag_B (a : ag n g h) {p : Nat} (hp : p < n) : tk_B h p = tk_B g p := by
  funext t
  unfold tk_B
  rw [ag_sub a hp]
theorem ag_from (a : ag n g h) {p : Nat} (hp : p < n) (c : LC) (x : Int32) : sp_from h p x c = sp_from g p x c := by
  unfold sp_from sp_holds
  rw [ag_B a hp]
theorem ag_zeal (a : ag n g h) {p : Nat} (hp : p < n) (c : LC) : sp_zeal c h p = sp_zeal c g p := by
  unfold sp_zeal
  rw [ag_from a hp]
theorem ag_does (a : ag n g h) {p w : Nat} (hp : p < n) (hw : Group_week g = nI w) (hwl : w < 20000) (hn : n ≤ 6) (c : LC) : sp_does n c h p = sp_does n c g p := by
  unfold sp_does sp_wish
  rw [ag_outs a hp, ag_zeal a hp, ag_kinds a hp, ag_vs a hp, ag_rown a hp hw hwl hn, ag_cnt a, ag_better a hp, a.1, ag_wills a hp]
/-! A week by its fields. -/
/-- the mean of what all do -/
def sp_mean (n : Nat) (c : LC) (g : GroupV) : Int32 := n_sum n (sp_does n c g) / sp_cnt n g
def wk_w1 (n : Nat) (c : LC) (F : Int32) (g : GroupV) (j : Nat) : Int32 := if sp_does n c g j ≤ sp_mean n c g then Group_wills g j else mMax 0 (Group_wills g j - F)
def wk_w (n : Nat) (c : LC) (F : Int32) (g : GroupV) (j : Nat) : Int32 := if Group_outs g j = 0 then (if sp_mean n c g ≤ sp_does n c g j then wk_w1 n c F g j else mMin 99 (wk_w1 n c F g j + 1)) else Group_wills g j
theorem cnt_0 {k : Nat} (hk : k < n) (hn : n ≤ 6) (ho : Group_outs g k = 0) : ¬ sp_cnt n g = 0 := by
  have main : ∀ m, m ≤ 6 → ∃ x, x ≤ m ∧ sp_cnt m g = nI x ∧ ((∃ k, k < m ∧ Group_outs g k = 0) → 0 < x) := by
    intro m
    induction m with
    | zero => intro _; exact ⟨0, by omega, rfl, fun ⟨k, hk, _⟩ => absurd hk (by omega)⟩
    | succ m ih =>
      intro hm
      obtain ⟨x, h1, h2, h3⟩ := ih (by omega)
      by_cases q : Group_outs g m = 0
      · refine ⟨x + 1, by omega, ?_, fun _ => by omega⟩
        show sp_cnt m g + (if Group_outs g m = 0 then 1 else 0) = _
        rw [if_pos q, h2, nI_1]
      · refine ⟨x, by omega, ?_, fun ⟨k, hk, hk2⟩ => h3 ⟨k, ?_, hk2⟩⟩
        · show sp_cnt m g + (if Group_outs g m = 0 then 1 else 0) = _
          rw [if_neg q, h2, Int32.add_zero]
        · rcases Nat.lt_succ_iff_lt_or_eq.mp hk with h | h
          · exact h
          · subst h; exact absurd hk2 q
  obtain ⟨x, h1, h2, h3⟩ := main n hn
  rw [h2]
  exact nI_ne0 (h3 ⟨k, hk, ho⟩) (by omega)
theorem wk_hours {c : LC} {F held : Int32} {k : Nat} (hk : k < n) : Group_hours (sp_week n c F held g) k = wk_h n c held g k := by
  show Group_hours (sp_chg n F (sp_hold held (wk2 n c held g n))) k = _
  have e : ∀ v, Group_hours (sp_chg n F v) = Group_hours v := fun v => by unfold sp_chg; split <;> rfl
  have e2 : ∀ v, Group_hours (sp_hold held v) = Group_hours v := fun v => by unfold sp_hold; split <;> rfl
  rw [e, e2]
  exact n_fill_in hk
theorem wk_work {c : LC} {F held : Int32} : Group_work (sp_week n c F held g) = if held = 0 then Group_work g + n_sum n (fun j => sp_does n c g j * Group_skills g j) else mMin (Group_work g + n_sum n (fun j => sp_does n c g j * Group_skills g j)) 99999 := by
  show Group_work (sp_chg n F (sp_hold held (wk2 n c held g n))) = _
  have e : ∀ v, Group_work (sp_chg n F v) = Group_work v := fun v => by unfold sp_chg; split <;> rfl
  rw [e]
  unfold sp_hold
  split <;> rfl
theorem wk_wills {c : LC} {F held : Int32} {k : Nat} (hk : k < n) (hn : n ≤ 6) : Group_wills (sp_week n c F held g) k = wk_w n c F g k := by
  show Group_wills (sp_chg n F (sp_hold held (wk2 n c held g n))) k = _
  have hV : ∃ V, sp_hold held (wk2 n c held g n) = V ∧ Group_wills V = Group_wills g ∧ Group_outs V = Group_outs g ∧ Group_does V = Group_does (wk1 n c g n) := ⟨_, rfl, by unfold sp_hold; split <;> rfl, by unfold sp_hold; split <;> rfl, by unfold sp_hold; split <;> rfl⟩
  obtain ⟨V, h1, h2, h3, h4⟩ := hV
  have hd : ∀ j, j < n → Group_does V j = sp_does n c g j := fun j hj => by rw [h4]; exact n_fill_in hj
  have hc : sp_cnt n V = sp_cnt n g := n_sum_congr (fun j hj => by rw [h3])
  have hA : sp_avg n V = sp_mean n c g := by
    unfold sp_avg sp_mean
    rw [hc, n_sum_congr hd]
  rw [h1]
  unfold sp_chg wk_w
  by_cases q : sp_cnt n V = 0
  · rw [if_pos q]
    have : ¬ Group_outs g k = 0 := fun z => cnt_0 hk hn z (hc ▸ q)
    rw [if_neg this, h2]
  · rw [if_neg q]
    show n_fill (sp_will n F V) (Group_wills V) n k = _
    rw [n_fill_in hk]
    unfold sp_will sp_w1 wk_w1
    rw [hA, hd k hk, h2, h3]
theorem wk_outs {c : LC} {F held : Int32} : Group_outs (sp_week n c F held g) = Group_outs g := by
  show Group_outs (sp_chg n F (sp_hold held (wk2 n c held g n))) = _
  unfold sp_chg sp_hold
  split <;> split <;> rfl
theorem wk_kinds {c : LC} {F held : Int32} : Group_kinds (sp_week n c F held g) = Group_kinds g := by
  show Group_kinds (sp_chg n F (sp_hold held (wk2 n c held g n))) = _
  unfold sp_chg sp_hold
  split <;> split <;> rfl
theorem wk_vs {c : LC} {F held : Int32} : Group_vs (sp_week n c F held g) = Group_vs g := by
  show Group_vs (sp_chg n F (sp_hold held (wk2 n c held g n))) = _
  unfold sp_chg sp_hold
  split <;> split <;> rfl
theorem wk_skills {c : LC} {F held : Int32} : Group_skills (sp_week n c F held g) = Group_skills g := by
  show Group_skills (sp_chg n F (sp_hold held (wk2 n c held g n))) = _
  unfold sp_chg sp_hold
  split <;> split <;> rfl
theorem wk_rows {c : LC} {F held : Int32} : Group_rows (sp_week n c F held g) = Group_rows g := by
  show Group_rows (sp_chg n F (sp_hold held (wk2 n c held g n))) = _
  unfold sp_chg sp_hold
  split <;> split <;> rfl
theorem ag_week (a : ag n g h) {w : Nat} (hw : Group_week g = nI w) (hwl : w < 20000) (hn : n ≤ 6) (c : LC) (F held : Int32) : ag n (sp_week n c F held g) (sp_week n c F held h) := by
  have hd : ∀ j, j < n → sp_does n c h j = sp_does n c g j := fun j hj => ag_does a hj hw hwl hn c
  have hm : sp_mean n c h = sp_mean n c g := by
    unfold sp_mean
    rw [ag_cnt a, n_sum_congr hd]
  refine ⟨by rw [sp_week_size, sp_week_size, a.1], by rw [sp_week_week, sp_week_week, a.2.1], ?_, fun k hk => ⟨⟨by rw [wk_kinds, wk_kinds, ag_kinds a hk], by rw [wk_vs, wk_vs, ag_vs a hk], by rw [wk_skills, wk_skills, ag_skills a hk], ?_, ?_, by rw [wk_outs, wk_outs, ag_outs a hk]⟩, fun i hi => by rw [wk_rows, wk_rows, ag_rows a hk hi]⟩⟩
  · rw [wk_work, wk_work, a.2.2.1, n_sum_congr (fun j hj => by rw [hd j hj, ag_skills a hj])]
  · rw [wk_wills hk hn, wk_wills hk hn]
    unfold wk_w wk_w1
    rw [hm, hd k hk, ag_wills a hk, ag_outs a hk]
  · rw [wk_hours hk, wk_hours hk]
    unfold wk_h
    rw [hd k hk, ag_hours a hk]
theorem ag_weeks (a : ag n g h) {w : Nat} (hs : Group_size g = nI n) (hw : Group_week g = nI w) (hn : n ≤ 6) (c : LC) (F held : Int32) : ∀ N, w + N < 20000 → ag n (n_iter (sp_week n c F held) N g) (n_iter (sp_week n c F held) N h)
  | 0, _ => a
  | N + 1, hN => ag_week (ag_weeks a hs hw hn c F held N (by omega)) (n_iter_week hs hw N).2 (by omega) hn c F held
end AG
