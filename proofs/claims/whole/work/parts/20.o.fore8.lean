/-! The reference's forecasts: kept, gone on, gone back. -/
/-- what the law's later calls can see of the reference, besides s -/
def core (m : ModelV) : (Nat → Int32) × Int32 × (Nat → Int32) × Int32 × Int32 × Int32 := (Model_image m, Model_hasImage m, Model_bodies m, Model_ran m, Model_fitting m, Model_firstFitting m)
theorem mc_core {m m' : ModelV} (h : mc m' = mc m) : core m' = core m ∧ Model_frame m' = Model_frame m := by
  unfold mc at h
  simp only [Prod.mk.injEq] at h
  obtain ⟨h1, h2, h3, h4, h5, h6, h7⟩ := h
  exact ⟨by unfold core; rw [h1, h2, h3, h4, h6, h7], h5⟩
/-- the same but for scratch -/
def mk0 (m m' : ModelV) : Prop := Model_s m' = Model_s m ∧ core m' = core m
theorem mk0_refl (m : ModelV) : mk0 m m := ⟨rfl, rfl⟩
theorem mk0_trans {a b c : ModelV} (h : mk0 a b) (k : mk0 b c) : mk0 a c := ⟨k.1.trans h.1, k.2.trans h.2⟩
theorem ms_mk {m m' : ModelV} (h : ms m m') : mk0 m m' := ⟨ms_s h, (mc_core (ms_mc h)).1⟩
theorem x8_keeps (m : ModelV) : ∃ m', fn_X8_keeps m = some m' ∧ mk0 m m' ∧ ∀ j, j < 20 → Model_frame m' j = Model_s m j := by
  refine n_loopI (fun f y (s : ModelV) => lp_X8_keeps_2 f y s) (fun k s => mk0 m s ∧ ∀ j, j < k → Model_frame s j = Model_s m j) 20 (fun r => ∃ m', r = some m' ∧ mk0 m m' ∧ ∀ j, j < 20 → Model_frame m' j = Model_s m j) (fun f s hi => ⟨s, ?_, hi⟩) (fun f k s hk hi => ?_) m_N m (by rw [m_N_val]; omega) ⟨mk0_refl m, fun j hj => absurd hj (Nat.not_lt_zero j)⟩
  · show st_X8_keeps_2 _ _ _ = _
    unfold st_X8_keeps_2
    rw [if_pos (by decide)]
  · refine ⟨Model_frame_s s (upd (Model_frame s) k (Model_s s k)), ⟨hi.1, fun j hj => ?_⟩, ?_⟩
    · show upd (Model_frame s) k (Model_s s k) j = _
      by_cases q : j = k
      · subst q; rw [pk_us, hi.1.1]
      · rw [pk_un q]; exact hi.2 j (by omega)
    · show st_X8_keeps_2 _ _ _ = _
      unfold st_X8_keeps_2
      have : ¬ (20 : Int32) ≤ nI k := nI_ge (b := 20) hk (by omega)
      rw [if_neg this, if_pos (mIn_nI (by omega) (by omega)), if_pos (mIn_nI (by omega) (by omega)), q_n (by omega), ← nI_succ]
theorem x8_goesBack (m : ModelV) : ∃ m', fn_X8_goesBack m = some m' ∧ core m' = core m ∧ ∀ j, Model_s m' j = if j < 20 then Model_frame m j else Model_s m j := by
  refine n_loopI (fun f y (s : ModelV) => lp_X8_goesBack_2 f y s) (fun k s => core s = core m ∧ Model_frame s = Model_frame m ∧ ∀ j, Model_s s j = if j < k then Model_frame m j else Model_s m j) 20 (fun r => ∃ m', r = some m' ∧ core m' = core m ∧ ∀ j, Model_s m' j = if j < 20 then Model_frame m j else Model_s m j) (fun f s hi => ⟨s, ?_, hi.1, hi.2.2⟩) (fun f k s hk hi => ?_) m_N m (by rw [m_N_val]; omega) ⟨rfl, rfl, fun j => (if_neg (Nat.not_lt_zero j)).symm⟩
  · show st_X8_goesBack_2 _ _ _ = _
    unfold st_X8_goesBack_2
    rw [if_pos (by decide)]
  · refine ⟨Model_s_s s (upd (Model_s s) k (Model_frame s k)), ⟨hi.1, hi.2.1, fun j => ?_⟩, ?_⟩
    · show upd (Model_s s) k (Model_frame s k) j = _
      by_cases q : j = k
      · subst q; rw [pk_us, hi.2.1, if_pos (by omega)]
      · rw [pk_un q, hi.2.2 j]
        by_cases q2 : j < k
        · rw [if_pos q2, if_pos (by omega)]
        · rw [if_neg q2, if_neg (by omega)]
    · show st_X8_goesBack_2 _ _ _ = _
      unfold st_X8_goesBack_2
      have : ¬ (20 : Int32) ≤ nI k := nI_ge (b := 20) hk (by omega)
      rw [if_neg this, if_pos (mIn_nI (by omega) (by omega)), if_pos (mIn_nI (by omega) (by omega)), q_n (by omega), ← nI_succ]
/-- in a forecast over the row s0 stands the group g -/
def FS (n : Nat) (m0 : ModelV) (g : GroupV) (m : ModelV) : Prop := core m = core m0 ∧ (∀ j, j < 20 → Model_frame m j = Model_s m0 j) ∧ (∀ j, 20 ≤ j → Model_s m j = Model_s m0 j) ∧ ag n g (sv (Model_s m))
theorem fs_keeps (n : Nat) (m : ModelV) : ∃ m', fn_X8_keeps m = some m' ∧ FS n m (sv (Model_s m)) m' := by
  obtain ⟨m', h1, h2, h3⟩ := x8_keeps m
  exact ⟨m', h1, h2.2, h3, fun j _ => by rw [h2.1], by rw [h2.1]; exact ag_refl n _⟩
theorem x8_keeps_s {m m1 : ModelV} (h : fn_X8_keeps m = some m1) : Model_s m1 = Model_s m := by
  obtain ⟨m', h1, h2, _⟩ := x8_keeps m
  rw [h1] at h
  exact (Option.some.inj h) ▸ h2.1
theorem fs_back {n : Nat} {m0 m : ModelV} {g : GroupV} (h : FS n m0 g m) : ∃ m', fn_X8_goesBack m = some m' ∧ mk0 m0 m' := by
  obtain ⟨m', h1, h2, h3⟩ := x8_goesBack m
  refine ⟨m', h1, ?_, h2.trans h.1⟩
  funext j
  rw [h3 j]
  by_cases q : j < 20
  · rw [if_pos q, h.2.1 j q]
  · rw [if_neg q, h.2.2.1 j (by omega)]
/-- the class that holds, with its bounds -/
def hc (s : Nat → Int32) (z : LZ) (G : Int32) (f : Nat) : Prop := lh s z G (nI f) ∧ f < 100 ∧ lz_ok z
section FO
variable {m0 m : ModelV} {z : LZ} {G : Int32} {n w f : Nat} {g : GroupV}
theorem fs_goes (h : FS n m0 g m) (hh : hc (Model_s m0) z G f) (hg : gk n g) (hw : Group_week g = nI w) (hwl : w < 20000) : ∃ m', fn_X8_goes m = some m' ∧ FS n m0 (sp_week n (lz_c z) (nI f) 0 g) m' := by
  obtain ⟨h1, h2, h3, h4⟩ := h
  obtain ⟨m', a1, a2, a3, a4⟩ := x8_goes (m := m) (gk_ag h4 hg) (show Model_s m 0 = nI w from h4.2.1.trans hw) hwl (lh_same hh.1 h3) hh.2.1 hh.2.2
  have b := mc_core a2
  exact ⟨m', a1, b.1.trans h1, fun j hj => by rw [b.2]; exact h2 j hj, fun j hj => (a3 j hj).trans (h3 j hj), ag_trans (ag_week h4 hw hwl hg.1 (lz_c z) (nI f) 0) a4⟩
theorem fs_goesOn (h : FS n m0 g m) (hh : hc (Model_s m0) z G f) (hg : gk n g) (hw : Group_week g = nI w) {N : Nat} (hN : N ≤ 60) (hwl : w + N < 20000) : ∃ m', fn_X8_goesOn m (nI N) = some m' ∧ FS n m0 (n_iter (sp_week n (lz_c z) (nI f) 0) N g) m' := by
  refine n_loopI (fun f y (s : ModelV) => lp_X8_goesOn_2 (nI N) f y s) (fun k s => FS n m0 (n_iter (sp_week n (lz_c z) (nI f) 0) k g) s) N (fun r => ∃ m', r = some m' ∧ FS n m0 (n_iter (sp_week n (lz_c z) (nI f) 0) N g) m') (fun f s hi => ⟨s, ?_, hi⟩) (fun f k s hk hi => ?_) m_N m (by rw [m_N_val]; omega) h
  · show st_X8_goesOn_2 _ _ _ _ = _
    unfold st_X8_goesOn_2
    rw [if_pos (nI_le (Nat.le_refl _) (by omega))]
  · obtain ⟨s', a1, a2⟩ := fs_goes hi hh (gk_weeks hg hh.2.1 k) (n_iter_week hg.2.1 hw k).2 (by omega)
    refine ⟨s', a2, ?_⟩
    show st_X8_goesOn_2 _ _ _ _ = _
    unfold st_X8_goesOn_2
    rw [if_neg (nI_ge hk (by omega)), a1, m_bind_some, ← nI_succ]
theorem fs_workMore (h : FS n m0 g m) : fn_X8_workMore m = some (Group_work g - Model_s m0 1) := by
  unfold fn_X8_workMore
  rw [if_pos q_j1, if_pos q_f1, q_c1, h.2.1 1 (by omega)]
  rw [show Model_s m 1 = Group_work g from h.2.2.2.2.2.1]
theorem fs_hoursMore (h : FS n m0 g m) {p : Nat} (hp : p < n) (hn : n ≤ 6) : fn_X8_hoursMore m (nI p) = some (Group_hours g p - Model_s m0 (2 + p)) := by
  unfold fn_X8_hoursMore
  rw [if_pos (q_i2 (by omega)), if_pos (q_f2 (by omega)), q_a2 (by omega), h.2.1 (2 + p) (by omega)]
  rw [show Model_s m (2 + p) = Group_hours g p from ag_hours h.2.2.2 hp]
theorem fs_allMore (h : FS n m0 g m) (hs : Group_size g = nI n) (hn : n ≤ 6) : fn_X8_allMore m = some (n_sum n (fun p => Group_hours g p - Model_s m0 (2 + p))) := by
  have e20 : Model_s m 20 = nI n := h.2.2.2.1.trans hs
  refine n_loop (fun f y (a : Int32) => lp_X8_allMore_4 m f a y) (fun k => n_sum k (fun p => Group_hours g p - Model_s m0 (2 + p))) n _ (fun f => ?_) (fun f k hk => ?_) m_N (by rw [m_N_val]; omega)
  · show st_X8_allMore_4 m _ _ _ = _
    unfold st_X8_allMore_4
    rw [if_pos q_j20, q_c20, e20, if_pos (nI_le (Nat.le_refl n) (by omega))]
  · show st_X8_allMore_4 m _ _ _ = _
    unfold st_X8_allMore_4
    rw [if_pos q_j20, q_c20, e20, if_neg (nI_ge hk (by omega)), fs_hoursMore h hk hn, m_bind_some, ← nI_succ]
    rfl
end FO
/-- only those of a set are in -/
def sp_in (set : Nat) (g : GroupV) : GroupV := Group_outs_s g (fun p => if set.testBit p = true then 0 else 1)
/-- WORK more by those of a set -/
def sp_wb (n : Nat) (c : LC) (F : Int32) (g : GroupV) (set N : Nat) : Int32 := Group_work (n_iter (sp_week n c F 0) N (sp_in set g)) - Group_work g
theorem bit_if : ∀ set, set < 64 → ∀ k, k < 6 → ((nI set >>> (nI k &&& 31)) &&& 1) = if set.testBit k = true then 1 else 0 := by decide +kernel
theorem gk_in {n : Nat} {g : GroupV} (h : gk n g) (set : Nat) : gk n (sp_in set g) := ⟨h.1, h.2.1, fun k hk => ⟨by
  show (if set.testBit k = true then (0 : Int32) else 1) = 0 ∨ (if set.testBit k = true then (0 : Int32) else 1) = 1
  split
  · exact Or.inl rfl
  · exact Or.inr rfl, (h.2.2 k hk).2⟩⟩
theorem ag_in {n : Nat} {g h : GroupV} (a : ag n g h) (set : Nat) : ag n (sp_in set g) (sp_in set h) := ⟨a.1, a.2.1, a.2.2.1, fun k hk => by
  obtain ⟨⟨a1, a2, a3, a4, a5, a6⟩, a7⟩ := a.2.2.2 k hk
  exact ⟨⟨a1, a2, a3, a4, a5, rfl⟩, a7⟩⟩
section WB
variable {m : ModelV} {z : LZ} {G : Int32} {n w f : Nat}
theorem x8_workBy {set N : Nat} (hset : set < 64) (hh : hc (Model_s m) z G f) (hg : gk n (sv (Model_s m))) (hw : Model_s m 0 = nI w) (hN : N ≤ 60) (hwl : w + N < 20000) : ∃ m', fn_X8_workBy m (nI set) (nI N) = some (sp_wb n (lz_c z) (nI f) (sv (Model_s m)) set N, m') ∧ mk0 m m' := by
  have hn := hg.1
  obtain ⟨m1, a1, a2⟩ := fs_keeps n m
  unfold fn_X8_workBy
  rw [a1, m_bind_some, m_jp_eq]
  refine n_loopI (fun f y (s : ModelV) => lp_X8_workBy_6 (nI set) _ f y s) (fun k s => core s = core m ∧ (∀ j, j < 20 → Model_frame s j = Model_s m j) ∧ ∀ j, Model_s s j = if 14 ≤ j ∧ j < 14 + k then (if set.testBit (j - 14) = true then 0 else 1) else Model_s m j) n (fun r => ∃ m', r = some (sp_wb n (lz_c z) (nI f) (sv (Model_s m)) set N, m') ∧ mk0 m m') (fun f s hi => ?_) (fun f k s hk hi => ?_) m_N m1 (by rw [m_N_val]; omega) ⟨a2.1, a2.2.1, fun j => ?_⟩
  · obtain ⟨i1, i2, i3⟩ := hi
    show ∃ m', st_X8_workBy_6 (nI set) _ _ _ _ = _ ∧ _
    unfold st_X8_workBy_6
    have e : Model_s s 20 = nI n := by rw [i3, if_neg (by omega)]; exact hg.2.1
    rw [if_pos q_j20, q_c20, e, if_pos (nI_le (Nat.le_refl n) (by omega))]
    have hF : FS n m (sp_in set (sv (Model_s m))) s := ⟨i1, i2, fun j hj => by rw [i3, if_neg (by omega)], by
      refine ⟨?_, ?_, ?_, fun k hk => ⟨⟨?_, ?_, ?_, ?_, ?_, ?_⟩, fun i hi => ?_⟩⟩
      · show Model_s s 20 = Model_s m 20; rw [i3, if_neg (by omega)]
      · show Model_s s 0 = Model_s m 0; rw [i3, if_neg (by omega)]
      · show Model_s s 1 = Model_s m 1; rw [i3, if_neg (by omega)]
      · show Model_s s (27 + k) = Model_s m (27 + k); rw [i3, if_neg (by omega)]
      · show Model_s s (33 + k) = Model_s m (33 + k); rw [i3, if_neg (by omega)]
      · show Model_s s (39 + k) = Model_s m (39 + k); rw [i3, if_neg (by omega)]
      · show Model_s s (8 + k) = Model_s m (8 + k); rw [i3, if_neg (by omega)]
      · show Model_s s (2 + k) = Model_s m (2 + k); rw [i3, if_neg (by omega)]
      · show Model_s s (14 + k) = if set.testBit k = true then 0 else 1
        rw [i3, if_pos (by omega), Nat.add_sub_cancel_left]
      · show Model_s s (45 + (4 * k + i)) = Model_s m (45 + (4 * k + i)); rw [i3, if_neg (by omega)]⟩
    obtain ⟨m2, b1, b2⟩ := fs_goesOn hF hh (gk_in hg set) hw hN hwl
    obtain ⟨m3, c1, c2⟩ := fs_back b2
    show ∃ m', Option.bind (fn_X8_goesOn s (nI N)) _ = _ ∧ _
    rw [b1, m_bind_some, fs_workMore b2, m_bind_some, c1, m_bind_some]
    exact ⟨m3, rfl, c2⟩
  · obtain ⟨i1, i2, i3⟩ := hi
    have e : Model_s s 20 = nI n := by rw [i3, if_neg (by omega)]; exact hg.2.1
    refine ⟨Model_s_s s (upd (Model_s s) (14 + k) (if set.testBit k = true then 0 else 1)), ⟨i1, i2, fun j => ?_⟩, ?_⟩
    · show upd (Model_s s) (14 + k) _ j = _
      by_cases q : j = 14 + k
      · subst q; rw [pk_us, if_pos (show 14 ≤ 14 + k ∧ 14 + k < 14 + (k + 1) by omega), Nat.add_sub_cancel_left]
      · rw [pk_un q, i3]
        by_cases q2 : 14 ≤ j ∧ j < 14 + k
        · rw [if_pos q2, if_pos (show 14 ≤ j ∧ j < 14 + (k + 1) by omega)]
        · rw [if_neg q2, if_neg (show ¬ (14 ≤ j ∧ j < 14 + (k + 1)) by omega)]
    · show st_X8_workBy_6 (nI set) _ _ _ _ = _
      unfold st_X8_workBy_6
      rw [if_pos q_j20, q_c20, e, if_neg (nI_ge hk (by omega)), m_jp_eq, bit_if set hset k (by omega), ← nI_succ]
      have i14 : mIn (14 + nI k) 926 = true := q_i14 (by omega)
      simp only [i14, if_true, q_a14 (show 14 + k < 926 by omega)]
      cases set.testBit k with
      | true => rw [if_neg (by decide)]; rfl
      | false => rw [if_pos (by decide)]; rfl
  · rw [if_neg (by omega), x8_keeps_s a1]
end WB
