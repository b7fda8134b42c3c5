/-! Sets of pupils: alone, team, split, throwOut. -/
/-- a loop by any index, its state under an invariant -/
theorem n_loopG {σ β : Type} (lp : Nat → Int32 → σ → Option β) (ix : Nat → Int32) (I : Nat → σ → Prop) (n : Nat) (Post : Option β → Prop) (hend : ∀ f s, I n s → Post (lp (f + 1) (ix n) s)) (hstep : ∀ f k s, k < n → I k s → ∃ s', I (k + 1) s' ∧ lp (f + 1) (ix k) s = lp f (ix (k + 1)) s') : ∀ f s, n < f → I 0 s → Post (lp f (ix 0) s) := by
  have main : ∀ d k f s, k + d = n → d < f → I k s → Post (lp f (ix k) s) := by
    intro d
    induction d with
    | zero =>
      intro k f s hk hf hi
      obtain ⟨f', rfl⟩ : ∃ f', f = f' + 1 := ⟨f - 1, by omega⟩
      have : k = n := by omega
      subst this
      exact hend f' s hi
    | succ d ih =>
      intro k f s hk hf hi
      obtain ⟨f', rfl⟩ : ∃ f', f = f' + 1 := ⟨f - 1, by omega⟩
      obtain ⟨s', h1, h2⟩ := hstep f' k s (by omega) hi
      rw [h2]
      exact ih (k + 1) f' s' (by omega) (by omega) h1
  intro f s hf hi
  exact main n 0 f s (by omega) hf hi
def pc (set : Nat) : Nat := (if set.testBit 0 = true then 1 else 0) + (if set.testBit 1 = true then 1 else 0) + (if set.testBit 2 = true then 1 else 0) + (if set.testBit 3 = true then 1 else 0) + (if set.testBit 4 = true then 1 else 0) + (if set.testBit 5 = true then 1 else 0)
theorem pc_both : ∀ set, set < 64 → fn_J6_bitCount_0f7a4 (nI set) = some (nI (pc set)) ∧ fn_X8_countOf (nI set) = some (nI (pc set)) ∧ pc set ≤ 6 := by decide +kernel
theorem pc_n : ∀ n, n ≤ 6 → ∀ set, set < 2 ^ n → pc set ≤ n := by decide +kernel
theorem pc_full : ∀ n, n ≤ 6 → pc (2 ^ n - 1) = n := by decide +kernel
theorem pc_0 : pc 0 = 0 := by decide
theorem sh_p : ∀ p, p ≤ 6 → ((1 : Int32) <<< (nI p &&& 31)) = nI (2 ^ p) := by decide +kernel
theorem two_n : ∀ n, n ≤ 6 → 2 ^ n ≤ 64 ∧ 1 ≤ 2 ^ n := by decide +kernel
theorem two_lt : ∀ n, n < 6 → 2 ^ n < 64 := by decide +kernel
section ST
variable {n : Nat} {g : GroupV} {c : LC} {f : Nat}
theorem ag_wb {h : GroupV} (a : ag n g h) {w : Nat} (hs : Group_size g = nI n) (hw : Group_week g = nI w) (hn : n ≤ 6) (c : LC) (F : Int32) (set N : Nat) (hN : w + N < 20000) : sp_wb n c F h set N = sp_wb n c F g set N := by
  unfold sp_wb
  rw [(ag_weeks (ag_in a set) (show Group_size (sp_in set g) = nI n from hs) (show Group_week (sp_in set g) = nI w from hw) hn c F 0 N hN).2.2.1, a.2.2.1]
theorem weeks_work (h : gk n g) (hs : sk n g) (hf : f < 100) : ∀ N, ∃ S, S ≤ N * 5346 ∧ Group_work (n_iter (sp_week n c (nI f) 0) N g) = Group_work g + nI S ∧ sk n (n_iter (sp_week n c (nI f) 0) N g)
  | 0 => ⟨0, by omega, (Int32.add_zero _).symm, hs⟩
  | N + 1 => by
    obtain ⟨S, h1, h2, h3⟩ := weeks_work h hs hf N
    obtain ⟨T, t1, t2⟩ := sum_b (c := c) (gk_weeks (c := c) (held := 0) h hf N) h3
    refine ⟨S + T, by omega, ?_, sk_week h3⟩
    show Group_work (sp_week n c (nI f) 0 (n_iter (sp_week n c (nI f) 0) N g)) = _
    rw [wk_work, if_pos rfl, h2, t2, Int32.add_assoc, nI_add]
theorem a_sub (a b : Int32) : a + b - a = b := by
  rw [Int32.add_comm, Int32.add_sub_cancel]
theorem wb_b (h : gk n g) (hs : sk n g) (hf : f < 100) (set N : Nat) : ∃ S, S ≤ N * 5346 ∧ sp_wb n c (nI f) g set N = nI S := by
  obtain ⟨S, h1, h2, _⟩ := weeks_work (c := c) (gk_in h set) (show sk n (sp_in set g) from hs) hf N
  refine ⟨S, h1, ?_⟩
  unfold sp_wb
  rw [h2]
  exact a_sub _ _
theorem wb_0 (N : Nat) : sp_wb n c (nI f) g 0 N = 0 := by
  have main : ∀ N, Group_work (n_iter (sp_week n c (nI f) 0) N (sp_in 0 g)) = Group_work g ∧ Group_outs (n_iter (sp_week n c (nI f) 0) N (sp_in 0 g)) = fun _ => 1 := by
    intro N
    induction N with
    | zero => exact ⟨rfl, funext fun p => by show (if (0 : Nat).testBit p = true then (0 : Int32) else 1) = 1; simp⟩
    | succ N ih =>
      refine ⟨?_, ?_⟩
      · show Group_work (sp_week n c (nI f) 0 (n_iter (sp_week n c (nI f) 0) N (sp_in 0 g))) = _
        rw [wk_work, if_pos rfl, ih.1]
        have e : ∀ m, n_sum m (fun j => sp_does n c (n_iter (sp_week n c (nI f) 0) N (sp_in 0 g)) j * Group_skills (n_iter (sp_week n c (nI f) 0) N (sp_in 0 g)) j) = 0 := by
          intro m
          induction m with
          | zero => rfl
          | succ m im =>
            rw [n_sum, im]
            have : sp_does n c (n_iter (sp_week n c (nI f) 0) N (sp_in 0 g)) m = 0 := by
              unfold sp_does
              rw [ih.2, if_neg (show ¬ (fun _ : Nat => (1 : Int32)) m = 0 from n10)]
            rw [this, Int32.zero_mul, Int32.add_zero]
        rw [e, Int32.add_zero]
      · show Group_outs (sp_week n c (nI f) 0 _) = _
        rw [wk_outs]
        exact ih.2
  unfold sp_wb
  rw [(main N).1, Int32.sub_self]
end ST
/-- what the sets' calls use of both sides -/
def WBC (Q : Nat → Option LessonV) (le : LessonV) (ea : Nat) (v : OneV) (m : ModelV) (N : Nat) (W : Nat → Int32) : Prop := (∀ (fc : ForecastV) set, set < 64 → ∃ fc', fn_X1_workOf fc (One_now v) le ea (nI set) (nI N) = some (W set, fc')) ∧ ∀ (m' : ModelV) set, set < 64 → mk0 m m' → ∃ m2, fn_X8_workBy m' (nI set) (nI N) = some (W set, m2) ∧ mk0 m m2
section SS
variable {Q : Nat → Option LessonV} {v : OneV} {m : ModelV} {ea : Nat} {le : LessonV}
theorem wbc {n : Nat} {z : LZ} {γ f w : Nat} (hx : CX v m ea le n z γ f w) {N : Nat} (hN : N ≤ 60) : WBC Q le ea v m N (fun set => sp_wb n (lz_c z) (nI f) (Room_group (One_now v)) set N) := by
  obtain ⟨hg, hh, hl, h1, hw, hwl, hγ, hn⟩ := hx
  have g8 := gk_ag hg.1 hg.2.1
  refine ⟨fun fc set hset => x1_workOf fc hset h1 hg.2.1 hl hw hN (by omega), fun m' set hset hk => ?_⟩
  have e0 : Model_s m' 0 = nI w := by rw [hk.1]; exact hg.1.2.1.trans hw
  obtain ⟨m2, a1, a2⟩ := x8_workBy (m := m') (n := n) (z := z) (G := nI γ) (f := f) (w := w) hset (by rw [hk.1]; exact hh) (by rw [hk.1]; exact g8) e0 hN (by omega)
  refine ⟨m2, ?_, mk0_trans hk a2⟩
  rw [a1, hk.1, ag_wb hg.1 hg.2.1.2.1 hw hn _ _ set N (by omega)]
theorem sim_alone (h : R Q v m) (hH : HL Q (One_now v) (Model_s m) ea le) (x : Int32) : SIM Q (fn_X7_alone v le ea x) (fn_X8_alone m x) := by
  obtain ⟨n, z, γ, f, w, hx⟩ := cx h hH
  have hW := wbc (Q := Q) hx (N := 20) (by omega)
  have hn := hx.2.2.2.2.2.2.2
  unfold fn_X7_alone fn_X8_alone
  rcases pupil_c hx.1 x with ⟨p, p1, rfl, p3, p4⟩ | ⟨p3, p4⟩
  · obtain ⟨fc, a1⟩ := hW.1 (One_forecast v) (2 ^ p) (two_lt p (by omega))
    obtain ⟨m2, b1, b2⟩ := hW.2 m (2 ^ p) (two_lt p (by omega)) (mk0_refl m)
    rw [p3, p4, m_bind_some, m_bind_some, if_pos n10, if_neg n10, sh_p p (by omega), show (20 : Int32) = nI 20 from rfl, a1, b1, m_bind_some, m_bind_some]
    exact ⟨_, _, _, rfl, rfl, R_mk h b2 rfl rfl rfl rfl⟩
  · rw [p3, p4, m_bind_some, m_bind_some, if_neg n00, if_pos n0]
    exact ⟨_, v, m, rfl, rfl, h⟩
theorem x8_every {m' : ModelV} {n : Nat} (hn : n ≤ 6) (e : Model_s m' 20 = nI n) : fn_X8_everybody m' = some (nI (2 ^ n - 1)) := by
  unfold fn_X8_everybody
  rw [if_pos q_j20, q_c20, e, sh_p n hn, show (1 : Int32) = nI 1 from rfl, pk_sub (two_n n hn).2]
end SS
theorem in01_y {y : Int32} (h : y = 0 ∨ y = 1) : fn_X8_in y 0 1 = some 1 := by
  rcases h with rfl | rfl <;> rfl
theorem in01_n {y : Int32} (h0 : ¬ y = 0) (h1 : ¬ y = 1) : fn_X8_in y 0 1 = some 0 := by
  rcases c_cases y with hy | ⟨j, hj, rfl⟩
  · exact in_neg hy
  · refine in_no (hi := 1) ?_ hj
    rcases Nat.lt_or_ge 1 j with q | q
    · exact q
    · exfalso
      have : j = 0 ∨ j = 1 := by omega
      rcases this with rfl | rfl
      · exact h0 rfl
      · exact h1 rfl
/-- a class's cells are those of v but for the forecast -/
def vk (v v' : OneV) : Prop := One_now v' = One_now v ∧ One_image v' = One_image v ∧ One_imageIsTaken v' = One_imageIsTaken v ∧ One_acts v' = One_acts v
theorem vk_refl (v : OneV) : vk v v := ⟨rfl, rfl, rfl, rfl⟩
theorem vk_f {v v' : OneV} (h : vk v v') (f : ForecastV) : vk v (One_forecast_s v' f) := h
theorem R_vk {Q : Nat → Option LessonV} {v v' : OneV} {m m' : ModelV} (h : R Q v m) (k : mk0 m m') (e : vk v v') : R Q v' m' := R_mk h k e.1 e.2.1 e.2.2.1 e.2.2.2
/-- the best set of k among the first j -/
def tb (k : Nat) (W : Nat → Nat) : Nat → Option (Nat × Nat)
  | 0 => none
  | j + 1 => if pc j = k then (match tb k W j with
    | none => some (W j, j)
    | some (a, b) => if W j ≤ a then some (a, b) else some (W j, j)) else tb k W j
def tbC : Option (Nat × Nat) → Int32 × Int32
  | none => (-1, 0)
  | some (a, b) => (nI a, nI b)
def tbM : Option (Nat × Nat) → Int32 × Int32
  | none => (-5, -5)
  | some (a, b) => (nI b, nI a)
theorem tb_none {k : Nat} {W : Nat → Nat} : ∀ j, tb k W j = none → ∀ set, set < j → pc set ≠ k
  | 0, _ => fun set h => absurd h (by omega)
  | j + 1, h => fun set hs he => by
    unfold tb at h
    by_cases q : pc j = k
    · rw [if_pos q] at h
      cases h2 : tb k W j with
      | none => rw [h2] at h; cases h
      | some ab =>
        rw [h2] at h
        obtain ⟨a, b⟩ := ab
        dsimp only at h
        split at h <;> cases h
    · rw [if_neg q] at h
      rcases Nat.lt_succ_iff_lt_or_eq.mp hs with h3 | h3
      · exact tb_none j h set h3 he
      · subst h3; exact q he
theorem tb_some {k : Nat} {W : Nat → Nat} : ∀ j, (∀ set, set < j → pc set ≠ k) → tb k W j = none
  | 0, _ => rfl
  | j + 1, h => by
    unfold tb
    rw [if_neg (h j (by omega))]
    exact tb_some j (fun set hs => h set (by omega))
theorem tb_b {k B : Nat} {W : Nat → Nat} (hW : ∀ j, W j ≤ B) : ∀ j a b, tb k W j = some (a, b) → a ≤ B ∧ b < j
  | 0, _, _, h => by cases h
  | j + 1, a, b, h => by
    unfold tb at h
    by_cases q : pc j = k
    · rw [if_pos q] at h
      cases h2 : tb k W j with
      | none =>
        rw [h2] at h
        simp only [Option.some.injEq, Prod.mk.injEq] at h
        obtain ⟨rfl, rfl⟩ := h
        exact ⟨hW _, by omega⟩
      | some ab =>
        rw [h2] at h
        obtain ⟨a', b'⟩ := ab
        obtain ⟨i1, i2⟩ := tb_b hW j a' b' h2
        dsimp only at h
        split at h
        · simp only [Option.some.injEq, Prod.mk.injEq] at h
          obtain ⟨rfl, rfl⟩ := h
          exact ⟨i1, by omega⟩
        · simp only [Option.some.injEq, Prod.mk.injEq] at h
          obtain ⟨rfl, rfl⟩ := h
          exact ⟨hW _, by omega⟩
    · rw [if_neg q] at h
      obtain ⟨i1, i2⟩ := tb_b hW j a b h
      exact ⟨i1, by omega⟩
section SS
variable {Q : Nat → Option LessonV} {v : OneV} {m : ModelV} {ea : Nat} {le : LessonV}
theorem team_C {n k : Nat} (hn : n ≤ 6) (eg : Group_size (Room_group (One_now v)) = nI n) (hk : k ≤ 6) {Wn : Nat → Nat} (hb : ∀ s, Wn s ≤ 53460) (hW : ∀ (fc : ForecastV) set, set < 64 → ∃ fc', fn_X1_workOf fc (One_now v) le ea (nI set) (nI 10) = some (nI (Wn set), fc')) (J : Int32 → Int32 → OneV → Option (Int32 × OneV)) :
    ∃ v', lp_X7_team_50 le ea (nI k) J m_N (-1) 0 0 v = J (tbC (tb k Wn (2 ^ n))).1 (tbC (tb k Wn (2 ^ n))).2 v' ∧ vk v v' := by
  have h2 := two_n n hn
  refine n_loopI (fun f y (s : Int32 × Int32 × OneV) => lp_X7_team_50 le ea (nI k) J f s.1 s.2.1 y s.2.2) (fun j s => s.1 = (tbC (tb k Wn j)).1 ∧ s.2.1 = (tbC (tb k Wn j)).2 ∧ vk v s.2.2) (2 ^ n) (fun r => ∃ v', r = J (tbC (tb k Wn (2 ^ n))).1 (tbC (tb k Wn (2 ^ n))).2 v' ∧ vk v v') (fun f s hi => ?_) (fun f j s hj hi => ?_) m_N (-1, 0, v) (by rw [m_N_val]; omega) ⟨rfl, rfl, vk_refl v⟩
  · obtain ⟨i1, i2, i3⟩ := hi
    refine ⟨s.2.2, ?_, i3⟩
    show st_X7_team_50 le ea (nI k) J _ _ _ _ _ = _
    unfold st_X7_team_50
    rw [i3.1, eg, sh_p n hn, if_pos (nI_le (Nat.le_refl _) (by omega)), i1, i2]
  · obtain ⟨i1, i2, i3⟩ := hi
    obtain ⟨p1, p2, p3⟩ := pc_both j (by omega)
    have hst : lp_X7_team_50 le ea (nI k) J (f + 1) s.1 s.2.1 (nI j) s.2.2 = st_X7_team_50 le ea (nI k) J (lp_X7_team_50 le ea (nI k) J f) s.1 s.2.1 (nI j) s.2.2 := rfl
    have e1 : One_now s.2.2 = One_now v := i3.1
    have htb : tb k Wn (j + 1) = if pc j = k then (match tb k Wn j with
      | none => some (Wn j, j)
      | some (a, b) => if Wn j ≤ a then some (a, b) else some (Wn j, j)) else tb k Wn j := rfl
    unfold st_X7_team_50 at hst
    rw [e1, eg, sh_p n hn, if_neg (nI_ge hj (by omega)), p1, m_bind_some, m_jp_eq, ← nI_succ] at hst
    by_cases q : pc j = k
    · obtain ⟨fc', a1⟩ := hW (One_forecast s.2.2) j (by omega)
      rw [if_pos (by rw [q]), show (10 : Int32) = nI 10 from rfl, a1, m_bind_some] at hst
      rw [if_pos q] at htb
      cases h3 : tb k Wn j with
      | none =>
        rw [h3] at htb i1 i2
        refine ⟨(nI (Wn j), nI j, One_forecast_s s.2.2 fc'), ⟨by rw [htb]; rfl, by rw [htb]; rfl, vk_f i3 fc'⟩, ?_⟩
        refine hst.trans ?_
        show (if nI (Wn j) ≤ s.1 then _ else _) = _
        rw [i1]
        show (if nI (Wn j) ≤ (-1 : Int32) then _ else _) = _
        rw [if_neg (show ¬ nI (Wn j) ≤ (-1 : Int32) from Int32.not_le.mpr (neg_case (by decide) (Nat.lt_of_le_of_lt (hb j) (by omega))))]
      | some ab =>
        obtain ⟨a, b⟩ := ab
        obtain ⟨b1, b2⟩ := tb_b hb j a b h3
        have hbj := hb j
        rw [h3] at htb i1 i2
        dsimp only at htb
        by_cases q2 : Wn j ≤ a
        · rw [if_pos q2] at htb
          refine ⟨(nI a, nI b, One_forecast_s s.2.2 fc'), ⟨by rw [htb]; rfl, by rw [htb]; rfl, vk_f i3 fc'⟩, ?_⟩
          refine hst.trans ?_
          show (if nI (Wn j) ≤ s.1 then _ else _) = _
          rw [i1, i2]
          show (if nI (Wn j) ≤ nI a then _ else _) = _
          rw [if_pos (nI_le q2 (by omega))]
          rfl
        · rw [if_neg q2] at htb
          refine ⟨(nI (Wn j), nI j, One_forecast_s s.2.2 fc'), ⟨by rw [htb]; rfl, by rw [htb]; rfl, vk_f i3 fc'⟩, ?_⟩
          refine hst.trans ?_
          show (if nI (Wn j) ≤ s.1 then _ else _) = _
          rw [i1]
          show (if nI (Wn j) ≤ nI a then _ else _) = _
          rw [if_neg (nI_ge (by omega) (by omega))]
    · rw [if_neg (fun z => q ((nI_eq (by omega) (by omega)).mp z))] at hst
      rw [if_neg q] at htb
      exact ⟨s, ⟨by rw [htb]; exact i1, by rw [htb]; exact i2, i3⟩, hst⟩
theorem team_M {n k : Nat} (hn : n ≤ 6) (e20 : Model_s m 20 = nI n) (hk1 : 1 ≤ k) (hk : k ≤ 6) {Wn : Nat → Nat} (hb : ∀ s, Wn s ≤ 53460) (hW : ∀ (m' : ModelV) set, set < 64 → mk0 m m' → ∃ m2, fn_X8_workBy m' (nI set) (nI 10) = some (nI (Wn set), m2) ∧ mk0 m m2) (J : Int32 → Int32 → ModelV → Option (Int32 × ModelV)) :
    ∃ m', lp_X8_team_34 (nI k) J m_N (-5) (-5) 1 m = J (tbM (tb k Wn (2 ^ n))).1 (tbM (tb k Wn (2 ^ n))).2 m' ∧ mk0 m m' := by
  have h2 := two_n n hn
  have htb1 : tb k Wn (0 + 1) = none := by
    show (if pc 0 = k then _ else none) = none
    rw [if_neg (by rw [pc_0]; omega)]
  refine n_loopG (fun f y (s : Int32 × Int32 × ModelV) => lp_X8_team_34 (nI k) J f s.1 s.2.1 y s.2.2) (fun i => nI (i + 1)) (fun j s => s.1 = (tbM (tb k Wn (j + 1))).1 ∧ s.2.1 = (tbM (tb k Wn (j + 1))).2 ∧ mk0 m s.2.2) (2 ^ n - 1) (fun r => ∃ m', r = J (tbM (tb k Wn (2 ^ n))).1 (tbM (tb k Wn (2 ^ n))).2 m' ∧ mk0 m m') (fun f s hi => ?_) (fun f i s hj hi => ?_) m_N (-5, -5, m) (by rw [m_N_val]; omega) ⟨by rw [htb1]; rfl, by rw [htb1]; rfl, mk0_refl m⟩
  · obtain ⟨i1, i2, i3⟩ := hi
    rw [show 2 ^ n - 1 + 1 = 2 ^ n by omega] at i1 i2
    refine ⟨s.2.2, ?_, i3⟩
    show st_X8_team_34 (nI k) J _ _ _ _ _ = _
    unfold st_X8_team_34
    rw [x8_every hn (by rw [i3.1]; exact e20), m_bind_some, if_pos (nI_lt (by omega) (by omega)), i1, i2]
  · obtain ⟨i1, i2, i3⟩ := hi
    obtain ⟨p1, p2, p3⟩ := pc_both (i + 1) (by omega)
    have hst : lp_X8_team_34 (nI k) J (f + 1) s.1 s.2.1 (nI (i + 1)) s.2.2 = st_X8_team_34 (nI k) J (lp_X8_team_34 (nI k) J f) s.1 s.2.1 (nI (i + 1)) s.2.2 := rfl
    have htb : tb k Wn (i + 1 + 1) = if pc (i + 1) = k then (match tb k Wn (i + 1) with
      | none => some (Wn (i + 1), i + 1)
      | some (a, b) => if Wn (i + 1) ≤ a then some (a, b) else some (Wn (i + 1), i + 1)) else tb k Wn (i + 1) := rfl
    have hbj := hb (i + 1)
    unfold st_X8_team_34 at hst
    rw [x8_every hn (by rw [i3.1]; exact e20), m_bind_some, if_neg (nI_nlt (by omega) (by omega)), p2, m_bind_some, m_jp_eq, ← nI_succ] at hst
    simp only [m_jp_eq] at hst
    by_cases q : pc (i + 1) = k
    · obtain ⟨m2, a1, a2⟩ := hW s.2.2 (i + 1) (by omega) i3
      rw [if_neg (fun z => z (by rw [q])), show (10 : Int32) = nI 10 from rfl, a1, m_bind_some] at hst
      rw [if_pos q] at htb
      cases h3 : tb k Wn (i + 1) with
      | none =>
        rw [h3] at htb i1 i2
        refine ⟨(nI (i + 1), nI (Wn (i + 1)), m2), ⟨by rw [htb]; rfl, by rw [htb]; rfl, a2⟩, ?_⟩
        refine hst.trans ?_
        have hneg : ¬ nI (Wn (i + 1)) ≤ s.2.1 := by
          rw [i2]
          exact Int32.not_le.mpr (neg_case (x := -5) (by decide) (by omega))
        rw [if_neg hneg, if_neg hneg]
      | some ab =>
        obtain ⟨a, b⟩ := ab
        obtain ⟨b1, b2⟩ := tb_b hb (i + 1) a b h3
        rw [h3] at htb i1 i2
        dsimp only at htb
        have i1' : s.1 = nI b := i1
        have i2' : s.2.1 = nI a := i2
        by_cases q2 : Wn (i + 1) ≤ a
        · rw [if_pos q2] at htb
          refine ⟨(nI b, nI a, m2), ⟨by rw [htb]; rfl, by rw [htb]; rfl, a2⟩, ?_⟩
          refine hst.trans ?_
          have hle : nI (Wn (i + 1)) ≤ s.2.1 := by rw [i2']; exact nI_le q2 (by omega)
          rw [if_pos hle, if_pos hle, i1', i2']
        · rw [if_neg q2] at htb
          refine ⟨(nI (i + 1), nI (Wn (i + 1)), m2), ⟨by rw [htb]; rfl, by rw [htb]; rfl, a2⟩, ?_⟩
          refine hst.trans ?_
          have hle : ¬ nI (Wn (i + 1)) ≤ s.2.1 := by rw [i2']; exact nI_ge (by omega) (by omega)
          rw [if_neg hle, if_neg hle]
    · rw [if_pos (show ¬ nI (pc (i + 1)) = nI k from fun z => q ((nI_eq (by omega) (by omega)).mp z))] at hst
      rw [if_neg q] at htb
      have hle : (-5 : Int32) ≤ s.2.1 := by
        rw [i2]
        cases h3 : tb k Wn (i + 1) with
        | none => exact Int32.le_refl _
        | some ab => exact Int32.le_of_lt (neg_case (x := -5) (by decide) (by have := (tb_b hb (i + 1) ab.1 ab.2 h3).1; omega))
      rw [if_pos hle, if_pos hle] at hst
      exact ⟨s, ⟨by rw [htb]; exact i1, by rw [htb]; exact i2, i3⟩, hst⟩
/-- what a set brings, as counted numbers -/
theorem wbn {n : Nat} {z : LZ} {γ f w : Nat} (hx : CX v m ea le n z γ f w) {N : Nat} (hN : N ≤ 20) : ∃ Wn : Nat → Nat, (∀ s, Wn s ≤ N * 5346) ∧ Wn 0 = 0 ∧ (∀ (fc : ForecastV) set, set < 64 → ∃ fc', fn_X1_workOf fc (One_now v) le ea (nI set) (nI N) = some (nI (Wn set), fc')) ∧ ∀ (m' : ModelV) set, set < 64 → mk0 m m' → ∃ m2, fn_X8_workBy m' (nI set) (nI N) = some (nI (Wn set), m2) ∧ mk0 m m2 := by
  have hW := wbc (Q := fun _ => none) hx (N := N) (by omega)
  have hB : ∀ set, ∃ S, S ≤ N * 5346 ∧ sp_wb n (lz_c z) (nI f) (Room_group (One_now v)) set N = nI S := fun set => wb_b hx.1.2.1 (sk_gr hx.1.2) hx.2.1.2.1 set N
  obtain ⟨Wn, hWn⟩ : ∃ Wn : Nat → Nat, ∀ set, Wn set ≤ N * 5346 ∧ sp_wb n (lz_c z) (nI f) (Room_group (One_now v)) set N = nI (Wn set) := ⟨fun set => (hB set).choose, fun set => (hB set).choose_spec⟩
  refine ⟨Wn, fun s => (hWn s).1, ?_, fun fc set hs => ?_, fun m' set hs hk => ?_⟩
  · have h0 := (hWn 0).2
    rw [wb_0] at h0
    have hb := (hWn 0).1
    exact ((nI_eq (a := 0) (by omega) (by omega)).mp h0).symm
  · have := hW.1 fc set hs
    rw [show (fun set => sp_wb n (lz_c z) (nI f) (Room_group (One_now v)) set N) set = nI (Wn set) from (hWn set).2] at this
    exact this
  · have := hW.2 m' set hs hk
    rw [show (fun set => sp_wb n (lz_c z) (nI f) (Room_group (One_now v)) set N) set = nI (Wn set) from (hWn set).2] at this
    exact this
theorem pow_le : ∀ n, n ≤ 6 → ∀ k, k ≤ n → 2 ^ k - 1 < 2 ^ n := by decide +kernel
theorem sim_team (h : R Q v m) (hH : HL Q (One_now v) (Model_s m) ea le) (x y : Int32) : SIM Q (fn_X7_team v le ea x y) (fn_X8_team m x y) := by
  obtain ⟨n, z, γ, f, w, hx⟩ := cx h hH
  obtain ⟨Wn, hWb, hW0, hC, hM⟩ := wbn hx (N := 10) (by omega)
  obtain ⟨hg, hh, hl, h1, hw, hwl, hγ, hn⟩ := hx
  have eg : Group_size (Room_group (One_now v)) = nI n := hg.2.1.2.1
  have e20 : Model_s m 20 = nI n := hg.1.1.trans eg
  unfold fn_X7_team fn_X8_team
  rw [m_jp_eq]
  by_cases q0 : y = 0 ∨ y = 1
  case neg =>
    rw [if_neg (fun z => q0 (Or.inl z)), if_neg (fun z => q0 (Or.inr z)), in01_n (fun z => q0 (Or.inl z)) (fun z => q0 (Or.inr z)), m_bind_some, if_neg n00]
    exact ⟨_, v, m, rfl, rfl, h⟩
  rw [in01_y q0, m_bind_some, if_pos n10]
  have hred : ∀ (A B : Option (Int32 × OneV)), (if y = 0 then A else if y = 1 then A else B) = A := fun A B => by
    rcases q0 with q | q
    · rw [if_pos q]
    · rw [if_neg (by rw [q]; decide), if_pos q]
  rw [hred, x8_in x]
  rcases c_cases x with hx0 | ⟨k, hk0, rfl⟩
  · rw [if_pos (show x < 1 from neg_case (n := 1) hx0 (by omega)), if_neg (show ¬ (1 ≤ x ∧ x ≤ 6) from fun z => absurd z.1 (Int32.not_le.mpr (neg_case (n := 1) hx0 (by omega)))), m_bind_some, if_neg n00]
    exact ⟨_, v, m, rfl, rfl, h⟩
  by_cases qk : 1 ≤ k ∧ k ≤ 6
  case neg =>
    rw [if_neg (show ¬ (1 ≤ nI k ∧ nI k ≤ 6) from fun z => qk ⟨(nI_leI (a := 1) (by omega) hk0).mp z.1, (nI_leI (b := 6) hk0 (by omega)).mp z.2⟩), m_bind_some, if_neg n00]
    by_cases q1 : k < 1
    · rw [if_pos (show nI k < 1 from nI_lt (b := 1) q1 (by omega))]
      exact ⟨_, v, m, rfl, rfl, h⟩
    · rw [if_neg (show ¬ nI k < 1 from nI_nlt (b := 1) (by omega) hk0), if_neg (show ¬ nI k ≤ 6 from nI_ge (a := 6) (by omega) hk0)]
      exact ⟨_, v, m, rfl, rfl, h⟩
  rw [if_neg (show ¬ nI k < 1 from nI_nlt (b := 1) qk.1 hk0), if_pos (show nI k ≤ 6 from nI_le (b := 6) qk.2 (by omega)), if_pos (show 1 ≤ nI k ∧ nI k ≤ 6 from ⟨nI_le (a := 1) qk.1 hk0, nI_le (b := 6) qk.2 (by omega)⟩), m_bind_some, if_pos n10, eg, m_jp_eq, m_jp_eq]
  obtain ⟨m', b1, b2⟩ := team_M hn e20 qk.1 qk.2 (fun s => by have := hWb s; omega) hM (fun (x3_103 : Int32) (x4_103 : Int32) (wx_103 : ModelV) => (if ¬ y = 0 then some (x4_103, wx_103) else some (x3_103, wx_103)))
  rw [b1]
  by_cases qn : k ≤ n
  · obtain ⟨v', a1, a2⟩ := team_C (v := v) (le := le) (ea := ea) hn eg qk.2 (fun s => by have := hWb s; omega) hC (fun (x3_115 : Int32) (x4_115 : Int32) (wx_115 : OneV) => (if ¬ y = 0 then some (x3_115, wx_115) else some (x4_115, wx_115)))
    rw [if_pos (nI_le qn (by omega)), a1]
    cases h3 : tb k Wn (2 ^ n) with
    | none => exact absurd (pc_full k (by omega)) (tb_none _ h3 _ (pow_le n hn k qn))
    | some ab =>
      show SIM Q (if ¬ y = 0 then some (nI ab.1, v') else some (nI ab.2, v')) (if ¬ y = 0 then some (nI ab.1, m') else some (nI ab.2, m'))
      split
      · exact ⟨_, v', m', rfl, rfl, R_vk h b2 a2⟩
      · exact ⟨_, v', m', rfl, rfl, R_vk h b2 a2⟩
  · rw [if_neg (nI_ge (by omega) (by omega)), tb_some (2 ^ n) (fun set hs he => by
      have := pc_n n hn set hs
      omega)]
    show SIM Q _ (if ¬ y = 0 then some ((-5 : Int32), m') else some ((-5 : Int32), m'))
    split
    · exact ⟨_, v, m', rfl, rfl, R_mk h b2 rfl rfl rfl rfl⟩
    · exact ⟨_, v, m', rfl, rfl, R_mk h b2 rfl rfl rfl rfl⟩
end SS
