/-! A week of the reference. -/
/-- what a forecast of the reference keeps, besides s -/
def mc (m : ModelV) : (Nat → Int32) × Int32 × (Nat → Int32) × Int32 × (Nat → Int32) × Int32 × Int32 := (Model_image m, Model_hasImage m, Model_bodies m, Model_ran m, Model_frame m, Model_fitting m, Model_firstFitting m)
theorem ms_mc {m m' : ModelV} (h : ms m m') : mc m' = mc m := by obtain ⟨b, t, rfl⟩ := h; rfl
theorem ms_s {m m' : ModelV} (h : ms m m') : Model_s m' = Model_s m := by obtain ⟨b, t, rfl⟩ := h; rfl
theorem ms_does {m m' : ModelV} (h : ms m m') : Model_does m' = Model_does m := by obtain ⟨b, t, rfl⟩ := h; rfl
/-- bounds that a forecast wants -/
def gk (n : Nat) (g : GroupV) : Prop := n ≤ 6 ∧ Group_size g = nI n ∧ ∀ k, k < n → (Group_outs g k = 0 ∨ Group_outs g k = 1) ∧ ∃ x, x < 100 ∧ Group_wills g k = nI x
theorem w_down : ∀ x, x < 100 → ∀ f, f < 100 → mMax 0 (nI x - nI f) = nI (x - f) ∧ w_in (nI x - nI f) 0 99 = nI (x - f) := by decide +kernel
theorem w_up : ∀ x, x < 100 → mMin 99 (nI x + 1) = nI (min 99 (x + 1)) ∧ w_in (nI x + 1) 0 99 = nI (min 99 (x + 1)) := by decide +kernel
theorem gk_week {n : Nat} {g : GroupV} {c : LC} {f : Nat} {held : Int32} (h : gk n g) (hf : f < 100) : gk n (sp_week n c (nI f) held g) := by
  refine ⟨h.1, by rw [sp_week_size]; exact h.2.1, fun k hk => ⟨by rw [wk_outs]; exact (h.2.2 k hk).1, ?_⟩⟩
  rw [wk_wills hk h.1]
  obtain ⟨x, hx, he⟩ := (h.2.2 k hk).2
  have h1 : ∃ y, y < 100 ∧ wk_w1 n c (nI f) g k = nI y := by
    unfold wk_w1
    split
    · exact ⟨x, hx, he⟩
    · exact ⟨x - f, by omega, by rw [he]; exact (w_down x hx f hf).1⟩
  obtain ⟨y, hy, hy2⟩ := h1
  unfold wk_w
  split
  · split
    · exact ⟨y, hy, hy2⟩
    · exact ⟨min 99 (y + 1), by omega, by rw [hy2]; exact (w_up y hy).1⟩
  · exact ⟨x, hx, he⟩
theorem gk_ag {n : Nat} {g h : GroupV} (a : ag n g h) (k : gk n g) : gk n h := ⟨k.1, by rw [a.1]; exact k.2.1, fun j hj => by rw [ag_outs a hj, ag_wills a hj]; exact k.2.2 j hj⟩
theorem gk_weeks {n : Nat} {g : GroupV} {c : LC} {f : Nat} {held : Int32} (h : gk n g) (hf : f < 100) : ∀ N, gk n (n_iter (sp_week n c (nI f) held) N g)
  | 0 => h
  | N + 1 => gk_week (gk_weeks h hf N) hf
theorem nI_pos0 {x : Nat} (h : x < 2 ^ 31) : (0 : Int32) ≤ nI x := Int32.not_lt.mp (nI_pos h)
section GS
variable {m : ModelV} {z : LZ} {G : Int32} {n w f : Nat}
theorem x8_goes1 (K : Int32 → ModelV → Option ModelV) (hg : gk n (sv (Model_s m))) (hw : Model_s m 0 = nI w) (hwl : w < 20000) {F : Int32} (hl : lh (Model_s m) z G F) (hz : lz_ok z) :
    ∃ m', lp_X8_goes_4 K m_N 0 0 m = K (n_sum n (sp_does n (lz_c z) (sv (Model_s m)))) m' ∧ Model_s m' = Model_s m ∧ mc m' = mc m ∧ ∀ j, j < n → Model_does m' j = sp_does n (lz_c z) (sv (Model_s m)) j := by
  obtain ⟨hn, hs, hk0⟩ := hg
  refine n_loopI (fun f y (s : Int32 × ModelV) => lp_X8_goes_4 K f s.1 y s.2) (fun k s => s.1 = n_sum k (sp_does n (lz_c z) (sv (Model_s m))) ∧ Model_s s.2 = Model_s m ∧ mc s.2 = mc m ∧ ∀ j, j < k → Model_does s.2 j = sp_does n (lz_c z) (sv (Model_s m)) j) n (fun r => ∃ m', r = K (n_sum n (sp_does n (lz_c z) (sv (Model_s m)))) m' ∧ Model_s m' = Model_s m ∧ mc m' = mc m ∧ ∀ j, j < n → Model_does m' j = sp_does n (lz_c z) (sv (Model_s m)) j) (fun f s hi => ?_) (fun f k s hk hi => ?_) m_N (0, m) (by rw [m_N_val]; omega) ⟨rfl, rfl, rfl, fun j hj => absurd hj (Nat.not_lt_zero j)⟩
  · obtain ⟨i1, i2, i3, i4⟩ := hi
    refine ⟨s.2, ?_, i2, i3, i4⟩
    show st_X8_goes_4 K _ _ _ _ = _
    unfold st_X8_goes_4
    rw [if_pos q_j20, q_c20, i2, show Model_s m 20 = nI n from hs, if_pos (nI_le (Nat.le_refl n) (by omega)), i1]
  · obtain ⟨i1, i2, i3, i4⟩ := hi
    obtain ⟨x, hx, he⟩ := (hk0 k hk).2
    have hwl2 : (0 : Int32) ≤ Model_s m (8 + k) := by rw [show Model_s m (8 + k) = nI x from he]; exact nI_pos0 (by omega)
    obtain ⟨m1, h1, h2⟩ := x8_doesOf (m := s.2) (z := z) (G := G) (F := F) (p := k) (n := n) (by rw [i2]; exact hs) hn hk ⟨w, by rw [i2]; exact hw, hwl⟩ (by rw [i2]; exact hl) hz (by rw [i2]; exact (hk0 k hk).1) (by rw [i2]; exact hwl2)
    rw [i2] at h1
    refine ⟨(n_sum (k + 1) (sp_does n (lz_c z) (sv (Model_s m))), Model_does_s m1 (upd (Model_does m1) k (sp_does n (lz_c z) (sv (Model_s m)) k))), ⟨rfl, (ms_s h2).trans i2, (ms_mc h2).trans i3, fun j hj => ?_⟩, ?_⟩
    · show upd (Model_does m1) k _ j = _
      by_cases q : j = k
      · subst q; exact pk_us
      · rw [pk_un q, ms_does h2]
        exact i4 j (by omega)
    · show st_X8_goes_4 K _ _ _ _ = _
      unfold st_X8_goes_4
      rw [if_pos q_j20, q_c20, i2, show Model_s m 20 = nI n from hs, if_neg (nI_ge hk (by omega)), h1, m_bind_some, if_pos (q_6 (by omega)), if_pos (q_6 (by omega)), q_n (by omega), pk_us, i1, ← nI_succ]
      rfl
/-- the row behind k of the second round -/
def sw (n : Nat) (c : LC) (F : Int32) (s : Nat → Int32) (k : Nat) : Nat → Int32 := fun j => if j = 1 then s 1 + n_sum k (fun j => sp_does n c (sv s) j * s (39 + j)) else if 2 ≤ j ∧ j < 2 + k then s j + sp_does n c (sv s) (j - 2) else if 8 ≤ j ∧ j < 8 + k then wk_w n c F (sv s) (j - 8) else s j
theorem sw_0 (n : Nat) (c : LC) (F : Int32) (s : Nat → Int32) : sw n c F s 0 = s := by
  funext j
  unfold sw
  by_cases h : j = 1
  · rw [if_pos h, h]; exact Int32.add_zero _
  · rw [if_neg h, if_neg (by omega), if_neg (by omega)]
theorem sw_o {c : LC} {F : Int32} {s : Nat → Int32} {k j : Nat} (h1 : j ≠ 1) (h2 : j < 2 ∨ 2 + k ≤ j) (h3 : j < 8 ∨ 8 + k ≤ j) : sw n c F s k j = s j := by
  unfold sw
  rw [if_neg h1, if_neg (by omega), if_neg (by omega)]
theorem sw_1 {c : LC} {F : Int32} {s : Nat → Int32} {k : Nat} : sw n c F s k 1 = s 1 + n_sum k (fun j => sp_does n c (sv s) j * s (39 + j)) := if_pos rfl
theorem sw_X {c : LC} {F : Int32} {s : Nat → Int32} {k : Nat} (hk : k < 6) : upd (upd (upd (sw n c F s k) (2 + k) (s (2 + k) + sp_does n c (sv s) k)) 1 (sw n c F s k 1 + sp_does n c (sv s) k * s (39 + k))) (8 + k) (wk_w n c F (sv s) k) = sw n c F s (k + 1) := by
  funext j
  by_cases h8 : j = 8 + k
  · subst h8
    rw [pk_us]
    unfold sw
    rw [if_neg (by omega), if_neg (by omega), if_pos (by omega), Nat.add_sub_cancel_left]
  rw [pk_un h8]
  by_cases h1 : j = 1
  · subst h1
    rw [pk_us, sw_1, sw_1, Int32.add_assoc]
    rfl
  rw [pk_un h1]
  by_cases h2 : j = 2 + k
  · subst h2
    rw [pk_us]
    unfold sw
    rw [if_neg (by omega), if_pos (by omega), Nat.add_sub_cancel_left]
  rw [pk_un h2]
  unfold sw
  rw [if_neg h1, if_neg h1]
  by_cases h3 : 2 ≤ j ∧ j < 2 + k
  · rw [if_pos h3, if_pos (by omega)]
  · rw [if_neg h3, if_neg (show ¬ (2 ≤ j ∧ j < 2 + (k + 1)) by omega)]
    by_cases h4 : 8 ≤ j ∧ j < 8 + k
    · rw [if_pos h4, if_pos (by omega)]
    · rw [if_neg h4, if_neg (show ¬ (8 ≤ j ∧ j < 8 + (k + 1)) by omega)]
theorem sw_K {c : LC} {F : Int32} {s : Nat → Int32} {k : Nat} (hk : k < 6) (h : wk_w n c F (sv s) k = s (8 + k)) : upd (upd (sw n c F s k) (2 + k) (s (2 + k) + sp_does n c (sv s) k)) 1 (sw n c F s k 1 + sp_does n c (sv s) k * s (39 + k)) = sw n c F s (k + 1) := by
  rw [← sw_X hk, h]
  have e : upd (upd (sw n c F s k) (2 + k) (s (2 + k) + sp_does n c (sv s) k)) 1 (sw n c F s k 1 + sp_does n c (sv s) k * s (39 + k)) (8 + k) = s (8 + k) := by
    rw [pk_un (by omega), pk_un (by omega), sw_o (by omega) (by omega) (by omega)]
  rw [← e]
  exact (f_same _ _).symm
theorem x8_goes2 (K : ModelV → Option ModelV) {s : Nat → Int32} (hms : Model_s m = s) (hg : gk n (sv s)) (hl : lh s z G (nI f)) (hf : f < 100) (hd : ∀ j, j < n → Model_does m j = sp_does n (lz_c z) (sv s) j) {A : Int32} (hA : (∃ k, k < n ∧ s (14 + k) = 0) → A = sp_mean n (lz_c z) (sv s)) :
    ∃ m', lp_X8_goes_61 A K m_N 0 m = K m' ∧ Model_s m' = sw n (lz_c z) (nI f) s n ∧ mc m' = mc m := by
  obtain ⟨hn, hs, hk0⟩ := hg
  refine n_loopI (fun g y (s : ModelV) => lp_X8_goes_61 A K g y s) (fun k m1 => Model_s m1 = sw n (lz_c z) (nI f) s k ∧ mc m1 = mc m ∧ Model_does m1 = Model_does m) n (fun r => ∃ m', r = K m' ∧ Model_s m' = sw n (lz_c z) (nI f) s n ∧ mc m' = mc m) (fun f m1 hi => ?_) (fun g k m1 hk hi => ?_) m_N m (by rw [m_N_val]; omega) ⟨by rw [sw_0]; exact hms, rfl, rfl⟩
  · obtain ⟨i1, i2, i3⟩ := hi
    refine ⟨m1, ?_, i1, i2⟩
    show st_X8_goes_61 A K _ _ _ = _
    unfold st_X8_goes_61
    rw [if_pos q_j20, q_c20, i1, sw_o (by omega) (by omega) (by omega), show s 20 = nI n from hs, if_pos (nI_le (Nat.le_refl n) (by omega))]
  · obtain ⟨i1, i2, i3⟩ := hi
    obtain ⟨x, hx, he⟩ := (hk0 k hk).2
    have he : s (8 + k) = nI x := he
    have hX : upd (upd (Model_s m1) (2 + k) (Model_s m1 (2 + k) + Model_does m1 k)) 1 (upd (Model_s m1) (2 + k) (Model_s m1 (2 + k) + Model_does m1 k) 1 + Model_does m1 k * upd (Model_s m1) (2 + k) (Model_s m1 (2 + k) + Model_does m1 k) (39 + k)) = upd (upd (sw n (lz_c z) (nI f) s k) (2 + k) (s (2 + k) + sp_does n (lz_c z) (sv s) k)) 1 (sw n (lz_c z) (nI f) s k 1 + sp_does n (lz_c z) (sv s) k * s (39 + k)) := by
      rw [pk_un (show 1 ≠ 2 + k by omega), pk_un (show 39 + k ≠ 2 + k by omega), i1, i3, hd k hk, sw_o (j := 2 + k) (by omega) (by omega) (by omega), sw_o (j := 39 + k) (by omega) (by omega) (by omega)]
    have hx14 : (upd (upd (sw n (lz_c z) (nI f) s k) (2 + k) (s (2 + k) + sp_does n (lz_c z) (sv s) k)) 1 (sw n (lz_c z) (nI f) s k 1 + sp_does n (lz_c z) (sv s) k * s (39 + k))) (14 + k) = s (14 + k) := by
      rw [pk_un (by omega), pk_un (by omega), sw_o (by omega) (by omega) (by omega)]
    have hx8 : (upd (upd (sw n (lz_c z) (nI f) s k) (2 + k) (s (2 + k) + sp_does n (lz_c z) (sv s) k)) 1 (sw n (lz_c z) (nI f) s k 1 + sp_does n (lz_c z) (sv s) k * s (39 + k))) (8 + k) = nI x := by
      rw [pk_un (by omega), pk_un (by omega), sw_o (by omega) (by omega) (by omega), he]
    have hxK := sw_K (n := n) (c := lz_c z) (F := nI f) (s := s) (k := k) (by omega)
    have hxX := sw_X (n := n) (c := lz_c z) (F := nI f) (s := s) (k := k) (by omega)
    have hxo : ∀ j, 20 ≤ j → (upd (upd (sw n (lz_c z) (nI f) s k) (2 + k) (s (2 + k) + sp_does n (lz_c z) (sv s) k)) 1 (sw n (lz_c z) (nI f) s k 1 + sp_does n (lz_c z) (sv s) k * s (39 + k))) j = s j := fun j hj => by
      rw [pk_un (by omega), pk_un (by omega), sw_o (by omega) (by omega) (by omega)]
    generalize upd (upd (sw n (lz_c z) (nI f) s k) (2 + k) (s (2 + k) + sp_does n (lz_c z) (sv s) k)) 1 (sw n (lz_c z) (nI f) s k 1 + sp_does n (lz_c z) (sv s) k * s (39 + k)) = X at hX hx14 hx8 hxK hxX hxo
    have hfair : fn_X8_tellsOf (Model_s_s m1 X) 216 2 = some (nI f) := x8_fair (m := Model_s_s m1 X) (lh_same hl hxo)
    have hD : Model_does m1 k = sp_does n (lz_c z) (sv s) k := by rw [i3]; exact hd k hk
    refine ⟨Model_s_s m1 (sw n (lz_c z) (nI f) s (k + 1)), ⟨rfl, i2, i3⟩, ?_⟩
    show st_X8_goes_61 A K _ _ _ = _
    unfold st_X8_goes_61
    rw [if_pos q_j20, q_c20, show Model_s m1 20 = nI n by rw [i1, sw_o (by omega) (by omega) (by omega)]; exact hs, if_neg (nI_ge hk (by omega))]
    simp (disch := omega) only [q_i2, q_a2, q_6, q_n, q_j1, q_c1, q_i39, q_a39, q_i14, q_a14, q_i8, q_a8, q_tt, if_true, m_jp_eq, ← nI_succ]
    simp only [hX, hx14, hx8, hfair, m_bind_some, x8_within]
    simp only [hD]
    have hW : wk_w n (lz_c z) (nI f) (sv s) k = if s (14 + k) = 0 then (if sp_mean n (lz_c z) (sv s) ≤ sp_does n (lz_c z) (sv s) k then wk_w1 n (lz_c z) (nI f) (sv s) k else mMin 99 (wk_w1 n (lz_c z) (nI f) (sv s) k + 1)) else s (8 + k) := rfl
    have hW1 : wk_w1 n (lz_c z) (nI f) (sv s) k = if sp_does n (lz_c z) (sv s) k ≤ sp_mean n (lz_c z) (sv s) then nI x else mMax 0 (nI x - nI f) := by rw [← he]; rfl
    by_cases ho : s (14 + k) = 0
    · have hA2 := hA ⟨k, hk, ho⟩
      have hno : ¬ ¬ s (14 + k) = 0 := fun q => q ho
      rw [if_neg hno, if_neg hno, hA2]
      rw [if_pos ho] at hW
      by_cases c2 : sp_does n (lz_c z) (sv s) k ≤ sp_mean n (lz_c z) (sv s)
      · rw [if_pos c2]
        rw [if_pos c2] at hW1
        by_cases c3 : sp_mean n (lz_c z) (sv s) ≤ sp_does n (lz_c z) (sv s) k
        · rw [if_pos c3]
          rw [if_pos c3, hW1, ← he] at hW
          rw [hxK hW]
        · rw [if_neg c3]
          rw [if_neg c3, hW1, (w_up x hx).1] at hW
          rw [(w_up x hx).2, ← hW, hxX]
      · rw [if_neg c2]
        rw [if_neg c2, (w_down x hx f hf).1] at hW1
        rw [if_pos (Int32.le_of_lt (Int32.not_le.mp c2)), hW1] at hW
        rw [(w_down x hx f hf).2, ← hW, hxX]
    · rw [if_pos ho, if_pos ho]
      rw [if_neg ho] at hW
      rw [hxK hW]
theorem x8_goes (hg : gk n (sv (Model_s m))) (hw : Model_s m 0 = nI w) (hwl : w < 20000) (hl : lh (Model_s m) z G (nI f)) (hf : f < 100) (hz : lz_ok z) :
    ∃ m', fn_X8_goes m = some m' ∧ mc m' = mc m ∧ (∀ j, 20 ≤ j → Model_s m' j = Model_s m j) ∧ ag n (sp_week n (lz_c z) (nI f) 0 (sv (Model_s m))) (sv (Model_s m')) := by
  have hn := hg.1
  have hs : Model_s m 20 = nI n := hg.2.1
  unfold fn_X8_goes
  rw [m_jp_eq]
  obtain ⟨m1, h1, h2, h3, h4⟩ := x8_goes1 (fun (x1_41 : Int32) (wx_41 : ModelV) => (Option.bind (fn_X8_manyIn wx_41) (fun t1 => jp (fun (z0_58 : Int32) => jp (fun (wx_226 : ModelV) => (if mIn 0 926 = true then (if mIn 0 926 = true then some (Model_s_s wx_226 (upd (Model_s wx_226) (0 : Int32).toNatClampNeg (((Model_s wx_226) (0 : Int32).toNatClampNeg) + 1))) else none) else none)) (fun j226 => lp_X8_goes_61 z0_58 j226 m_N 0 wx_41)) (fun j58 => (if ¬ t1 = 0 then (Option.bind (fn_X8_manyIn wx_41) (fun t29 => (if ¬ t29 = 0 then j58 (x1_41 / t29) else none))) else j58 0))))) hg hw hwl hl hz
  have hc : fn_X8_manyIn m1 = some (sp_cnt n (sv (Model_s m))) := by
    have := x8_manyIn (m := m1) (n := n) (by rw [h2]; exact hs) hn
    rw [h2] at this
    exact this
  have main : ∀ A : Int32, ((∃ k, k < n ∧ Model_s m (14 + k) = 0) → A = sp_mean n (lz_c z) (sv (Model_s m))) → ∃ m', lp_X8_goes_61 A (fun (wx_226 : ModelV) => (if mIn 0 926 = true then (if mIn 0 926 = true then some (Model_s_s wx_226 (upd (Model_s wx_226) (0 : Int32).toNatClampNeg (((Model_s wx_226) (0 : Int32).toNatClampNeg) + 1))) else none) else none)) m_N 0 m1 = some m' ∧ mc m' = mc m ∧ (∀ j, 20 ≤ j → Model_s m' j = Model_s m j) ∧ ag n (sp_week n (lz_c z) (nI f) 0 (sv (Model_s m))) (sv (Model_s m')) := by
    intro A hA
    obtain ⟨m2, g1, g2, g3⟩ := x8_goes2 (A := A) (m := m1) (s := Model_s m) (fun (wx_226 : ModelV) => (if mIn 0 926 = true then (if mIn 0 926 = true then some (Model_s_s wx_226 (upd (Model_s wx_226) (0 : Int32).toNatClampNeg (((Model_s wx_226) (0 : Int32).toNatClampNeg) + 1))) else none) else none)) h2 hg hl hf h4 hA
    rw [if_pos q_j0, if_pos q_j0, q_c0] at g1
    refine ⟨_, g1, g3.trans h3, fun j hj => ?_, ?_⟩
    · show upd (Model_s m2) 0 _ j = _
      rw [pk_un (by omega), g2, sw_o (by omega) (by omega) (by omega)]
    · have ho : ∀ j, 14 ≤ j → upd (Model_s m2) 0 (Model_s m2 0 + 1) j = Model_s m j := fun j hj => by
        rw [pk_un (by omega), g2, sw_o (by omega) (by omega) (by omega)]
      refine ⟨?_, ?_, ?_, fun k hk => ⟨⟨?_, ?_, ?_, ?_, ?_, ?_⟩, fun i hi => ?_⟩⟩
      · rw [sp_week_size]; exact ho 20 (by omega)
      · rw [sp_week_week]
        show upd (Model_s m2) 0 (Model_s m2 0 + 1) 0 = Model_s m 0 + 1
        rw [pk_us, g2, sw_o (by omega) (by omega) (by omega)]
      · rw [wk_work, if_pos rfl]
        show upd (Model_s m2) 0 (Model_s m2 0 + 1) 1 = _
        rw [pk_un (by omega), g2, sw_1]
        rfl
      · rw [wk_kinds]; exact ho (27 + k) (by omega)
      · rw [wk_vs]; exact ho (33 + k) (by omega)
      · rw [wk_skills]; exact ho (39 + k) (by omega)
      · rw [wk_wills hk hn]
        show upd (Model_s m2) 0 (Model_s m2 0 + 1) (8 + k) = _
        rw [pk_un (by omega), g2]
        unfold sw
        rw [if_neg (by omega), if_neg (by omega), if_pos (by omega), Nat.add_sub_cancel_left]
      · rw [wk_hours hk]
        show upd (Model_s m2) 0 (Model_s m2 0 + 1) (2 + k) = _
        rw [pk_un (by omega), g2]
        unfold sw wk_h
        rw [if_neg (by omega), if_pos (by omega), Nat.add_sub_cancel_left, if_pos rfl]
        rfl
      · rw [wk_outs]; exact ho (14 + k) (by omega)
      · rw [wk_rows]; exact ho (45 + (4 * k + i)) (by omega)
  rw [h1, hc, m_bind_some, m_jp_eq]
  by_cases q : sp_cnt n (sv (Model_s m)) = 0
  · rw [if_neg (fun z => z q)]
    exact main 0 (fun ⟨k, hk, hk2⟩ => absurd q (cnt_0 hk hn hk2))
  · rw [if_pos q, m_bind_some, if_pos q]
    exact main _ (fun _ => rfl)
end GS
