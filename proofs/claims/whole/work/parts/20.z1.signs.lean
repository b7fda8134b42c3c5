/-! Reading a class: signs, words, numbers, on both sides at once. -/
/-- outside of what belongs to the class act, the row is s0 -/
def out_of (a : Nat) (s0 s : Nat → Int32) : Prop := ∀ j, j ≠ 211 + a → j ≠ 216 + a → j ≠ 221 + a → (j < 226 + 140 * a ∨ 226 + 140 * a + 140 ≤ j) → s j = s0 j
/-- what stays all the while: the tape, its end, the place of the class, the rest -/
def ST (tp : Nat → Nat) (e a : Nat) (m0 : ModelV) (T0 : Nat → Int32) (r : ReaderV) (m : ModelV) : Prop := Reader_tape r = T0 ∧ Reader_size r = nI e ∧ Model_end m = nI e ∧ Model_act m = nI a ∧ out_of a (Model_s m0) (Model_s m) ∧ core m = core m0
/-- what the lesson holds by now: whole clauses z, tokens L behind them, GOAL, FAIR -/
def LSx (z : LZ) (L : List Nat) (γ f : Nat) (le : LessonV) : Prop := Lesson_codes le = nI (lc_len (lz_c z) + L.length) ∧ (∀ j, j < lc_len (lz_c z) + L.length → Lesson_code le j = tk_cls ((lc_flat (lz_c z) ++ L).getD j 0)) ∧ Lesson_spurs le = nI z.length ∧ (∀ i, i < z.length → Lesson_ends le i = nI (lc_len ((lz_c z).take (i + 1))) ∧ Lesson_worths le i = ((lz_c z).getD i ([], 0)).2) ∧ Lesson_toldGoal le = nI γ ∧ Lesson_fair le = nI f
/-- the same in the reference's row -/
def LM (a : Nat) (z : LZ) (L : List Nat) (γ f : Nat) (s : Nat → Int32) : Prop := s (221 + a) = nI (lz_steps z ++ L.map tk_ref).length ∧ (∀ j, j < (lz_steps z ++ L.map tk_ref).length → s (226 + 140 * a + j) = (lz_steps z ++ L.map tk_ref).getD j 0) ∧ s (211 + a) = nI γ ∧ s (216 + a) = nI f
/-- both have read pos signs well -/
def PR (tp : Nat → Nat) (e a : Nat) (m0 : ModelV) (T0 : Nat → Int32) (z : LZ) (γ f : Nat) (K pos : Nat) (L : List Nat) (r : ReaderV) (m : ModelV) : Prop := ST tp e a m0 T0 r m ∧ LSx z L γ f (Reader_lesson r) ∧ LM a z L γ f (Model_s m) ∧ Reader_place r = nI pos ∧ Model_spot m = nI pos ∧ pos ≤ e ∧ Model_isWrong m = 0 ∧ lc_len (lz_c z) + L.length + K ≤ pos
/-- the reference is wrong, at pos -/
def FL (e a : Nat) (m0 : ModelV) (pos : Nat) (m : ModelV) : Prop := Model_isWrong m = 1 ∧ Model_spot m = nI pos ∧ Model_end m = nI e ∧ Model_act m = nI a ∧ out_of a (Model_s m0) (Model_s m) ∧ core m = core m0
/-- both are -/
def FR (e a : Nat) (m0 : ModelV) (T0 : Nat → Int32) (r : ReaderV) (m : ModelV) : Prop := ∃ pos, pos ≤ e ∧ Reader_place r = nI pos ∧ Reader_tape r = T0 ∧ FL e a m0 pos m
/-- the data of a reading -/
def DT (tp : Nat → Nat) (e a : Nat) (m0 : ModelV) (T0 : Nat → Int32) : Prop := e ≤ 100 ∧ a < 5 ∧ (∀ j, j < 100 → tp j < 128 ∧ T0 j = nI (tp j)) ∧ ∀ j, j < e → Model_s m0 (111 + j) = nI (tp j)
/-- the sign at hand -/
def cur (tp : Nat → Nat) (e pos : Nat) : Int32 := if pos < e then nI (tp pos) else -1
section SG
variable {tp : Nat → Nat} {e a : Nat} {m0 : ModelV} {T0 : Nat → Int32} {z : LZ} {γ f : Nat} {K pos : Nat} {L : List Nat} {r : ReaderV} {m : ModelV}
theorem pr_here (d : DT tp e a m0 T0) (h : PR tp e a m0 T0 z γ f K pos L r m) : fn_X8_here m = some (cur tp e pos) := by
  obtain ⟨⟨s1, s2, s3, s4, s5, s6⟩, h2, h3, h4, h5, h6, h7, h8⟩ := h
  obtain ⟨d1, d2, d3, d4⟩ := d
  unfold fn_X8_here cur
  rw [s3, h5]
  by_cases q : pos < e
  · rw [if_neg (nI_ge q (by omega)), if_pos (q_i111 (by omega)), q_a111 (by omega), if_pos q, s5 _ (by omega) (by omega) (by omega) (by omega), d4 pos q]
  · rw [if_pos (nI_le (by omega) (by omega)), if_neg q]
theorem pr_step (h : PR tp e a m0 T0 z γ f K pos L r m) (hp : pos < e) : PR tp e a m0 T0 z γ f (K + 1) (pos + 1) L (Reader_place_s r (nI (pos + 1))) (Model_spot_s m (nI (pos + 1))) := by
  obtain ⟨hs, h2, h3, h4, h5, h6, h7, h8⟩ := h
  exact ⟨hs, h2, h3, rfl, rfl, by omega, h7, by omega⟩
theorem pr_less (h : PR tp e a m0 T0 z γ f (K + 1) pos L r m) : PR tp e a m0 T0 z γ f K pos L r m := by
  obtain ⟨hs, h2, h3, h4, h5, h6, h7, h8⟩ := h
  exact ⟨hs, h2, h3, h4, h5, h6, h7, by omega⟩
/-- one sign, in the class -/
theorem pr_take (d : DT tp e a m0 T0) (h : PR tp e a m0 T0 z γ f K pos L r m) (c : Nat) (hc : c < 128) : fn_X4_take r (nI c) = if cur tp e pos = nI c then some (1, Reader_place_s r (nI (pos + 1))) else some (0, r) := by
  obtain ⟨⟨s1, s2, s3, s4, s5, s6⟩, h2, h3, h4, h5, h6, h7, h8⟩ := h
  obtain ⟨d1, d2, d3, d4⟩ := d
  unfold fn_X4_take cur
  rw [s2, h4]
  by_cases q : pos < e
  · rw [if_neg (nI_ge q (by omega)), if_pos (mIn_nI (by omega) (by omega)), q_n (by omega), s1, (d3 pos (by omega)).2, if_pos q, nI_1]
  · rw [if_pos (nI_le (by omega) (by omega)), if_neg q, if_neg (fun w => nI_pos (n := c) (by omega) (by rw [← w]; decide))]
theorem cur_lt {c : Nat} (h : cur tp e pos = nI c) (hc : c < 128) : pos < e := by
  unfold cur at h
  by_cases q : pos < e
  · exact q
  · rw [if_neg q] at h
    exact absurd (show (-1 : Int32) < 0 by decide) (by rw [h]; exact nI_pos (by omega))
theorem fl_of (h : PR tp e a m0 T0 z γ f K pos L r m) {m' : ModelV} (h1 : Model_s m' = Model_s m) (h2 : core m' = core m) (h3 : Model_isWrong m' = 1) (h4 : Model_spot m' = nI pos) (h5 : Model_end m' = Model_end m) (h6 : Model_act m' = Model_act m) : FR e a m0 T0 r m' := by
  obtain ⟨⟨s1, s2, s3, s4, s5, s6⟩, p2, p3, p4, p5, p6, p7, p8⟩ := h
  exact ⟨pos, p6, p4, s1, h3, h4, h5.trans s3, h6.trans s4, by rw [h1]; exact s5, h2.trans s6⟩
/-- the reference's own must -/
theorem pr_must (d : DT tp e a m0 T0) (h : PR tp e a m0 T0 z γ f K pos L r m) (c : Nat) (hc : c < 128) : (cur tp e pos = nI c ∧ ∃ m', fn_X8_must m (nI c) = some m' ∧ PR tp e a m0 T0 z γ f (K + 1) (pos + 1) L (Reader_place_s r (nI (pos + 1))) m' ∧ Model_open m' = Model_open m) ∨ (¬ cur tp e pos = nI c ∧ ∃ m', fn_X8_must m (nI c) = some m' ∧ FR e a m0 T0 r m') := by
  have hh := pr_here d h
  have hw : Model_isWrong m = 0 := h.2.2.2.2.2.2.1
  have hsp : Model_spot m = nI pos := h.2.2.2.2.1
  have hm : fn_X8_must m (nI c) = if cur tp e pos = nI c then some (Model_isWrong_s (Model_spot_s m (Model_spot m + 1)) 0) else some (Model_isWrong_s (Model_spot_s m (Model_spot m + 0)) 1) := by
    unfold fn_X8_must
    rw [hh]
    simp only [m_jp_eq, m_bind_some, hw, not_true_eq_false, if_false]
    by_cases q : cur tp e pos = nI c
    · rw [if_pos q, if_pos q]
      rfl
    · rw [if_neg q, if_neg q]
      rfl
  rw [hm]
  by_cases q : cur tp e pos = nI c
  · rw [if_pos q]
    refine Or.inl ⟨q, _, rfl, ?_, rfl⟩
    have := pr_step h (cur_lt q hc)
    rw [hsp, nI_1]
    obtain ⟨hs, h2, h3, h4, h5, h6, h7, h8⟩ := this
    exact ⟨hs, h2, h3, h4, h5, h6, rfl, h8⟩
  · rw [if_neg q]
    refine Or.inr ⟨q, _, rfl, fl_of h rfl rfl rfl ?_ rfl rfl⟩
    show Model_spot m + 0 = _
    rw [hsp, Int32.add_zero]
/-! behind a fault the reference only waits -/
theorem fl_must (h : FL e a m0 pos m) (c : Int32) : ∃ m', fn_X8_must m c = some m' ∧ FL e a m0 pos m' := by
  obtain ⟨h1, h2, h3, h4, h5, h6⟩ := h
  refine ⟨Model_isWrong_s (Model_spot_s m (Model_spot m + 0)) 1, ?_, rfl, ?_, h3, h4, h5, h6⟩
  · unfold fn_X8_must
    simp only [m_jp_eq, h1, n10, not_false_eq_true, if_true]
    rfl
  · show Model_spot m + 0 = _
    rw [h2, Int32.add_zero]
theorem fl_emits (h : FL e a m0 pos m) (c : Int32) : fn_X8_emits m c = some m := by
  unfold fn_X8_emits
  rw [h.1, if_pos n10]
theorem fl_figures (h : FL e a m0 pos m) : ∃ v m', fn_X8_figures m = some (v, m') ∧ FL e a m0 pos m' := by
  obtain ⟨h1, h2, h3, h4, h5, h6⟩ := h
  refine ⟨0, Model_isWrong_s m 1, ?_, rfl, h2, h3, h4, h5, h6⟩
  unfold fn_X8_figures
  simp only [m_jp_eq, h1, n10, not_false_eq_true, if_true]
  rw [if_pos (by decide), m_N_val]
  show st_X8_figures_34 _ _ _ _ = _
  unfold st_X8_figures_34
  rw [if_neg (by decide), if_pos n10]
theorem len_ok : ∀ x, x < 10 → fn_J0_length_8abf5 x = some (nI (mSL.getD x 0)) := by decide +kernel
theorem char_ok : ∀ x, x < 10 → ∀ y, y < mSL.getD x 0 → fn_J0_charAt_5068e x (nI y) = some ((mSB.getD x []).getD y 0) := by decide +kernel
theorem bytes_ok : ∀ x, x < 10 → mSL.getD x 0 ≤ 10 ∧ (mSB.getD x []).length = mSL.getD x 0 ∧ ∀ y, y < mSL.getD x 0 → ∃ c, c < 128 ∧ (mSB.getD x []).getD y 0 = nI c := by
  have h : ∀ x, x < 10 → mSL.getD x 0 ≤ 10 ∧ (mSB.getD x []).length = mSL.getD x 0 ∧ ∀ y, y < 10 → y < mSL.getD x 0 → ((mSB.getD x []).getD y 0).toNatClampNeg < 128 ∧ (mSB.getD x []).getD y 0 = nI ((mSB.getD x []).getD y 0).toNatClampNeg := by decide +kernel
  intro x hx
  obtain ⟨h1, h2, h3⟩ := h x hx
  exact ⟨h1, h2, fun y hy => ⟨_, h3 y (by omega) hy⟩⟩
theorem fl_spells (h : FL e a m0 pos m) {x : Nat} (hx : x < 10) : ∀ d y f (m1 : ModelV), y + d = mSL.getD x 0 → d < f → FL e a m0 pos m1 → ∃ m', lp_X8_spells_2 x f (nI y) m1 = some m' ∧ FL e a m0 pos m' := by
  obtain ⟨b1, b2, b3⟩ := bytes_ok x hx
  intro d
  induction d with
  | zero =>
    intro y f m1 hy hf h1
    obtain ⟨f, rfl⟩ : ∃ f', f = f' + 1 := ⟨f - 1, by omega⟩
    refine ⟨m1, ?_, h1⟩
    show st_X8_spells_2 x _ _ _ = _
    unfold st_X8_spells_2
    rw [if_pos hx, len_ok x hx, m_bind_some, if_pos (nI_le (by omega) (by omega))]
  | succ d ih =>
    intro y f m1 hy hf h1
    obtain ⟨f, rfl⟩ : ∃ f', f = f' + 1 := ⟨f - 1, by omega⟩
    obtain ⟨m2, g1, g2⟩ := fl_must h1 ((mSB.getD x []).getD y 0)
    obtain ⟨m3, g3, g4⟩ := ih (y + 1) f m2 (by omega) (by omega) g2
    refine ⟨m3, ?_, g4⟩
    show st_X8_spells_2 x _ _ _ = _
    unfold st_X8_spells_2
    rw [if_pos hx, len_ok x hx, m_bind_some, if_neg (nI_ge (by omega) (by omega)), if_pos hx, char_ok x hx y (by omega), m_bind_some, g1, m_bind_some, ← nI_succ, g3]
/-- a word, from its y-th sign on, against the class's own word -/
theorem pr_word (d : DT tp e a m0 T0) {x x' : Nat} (hx : x < 10) (hx' : x' < 10) : ∀ n y y' fM fC K pos (r : ReaderV) (m : ModelV), y + n = mSL.getD x 0 → y' + n = mSL.getD x' 0 → (∀ i, i < n → (mSB.getD x []).getD (y + i) 0 = (mSB.getD x' []).getD (y' + i) 0) → n < fM → n < fC → PR tp e a m0 T0 z γ f K pos L r m →
    (∃ pos' r' m', lp_X4_readWord_2 x' fC (nI y') r = some (1, r') ∧ lp_X8_spells_2 x fM (nI y) m = some m' ∧ PR tp e a m0 T0 z γ f K pos' L r' m' ∧ Model_open m' = Model_open m ∧ pos ≤ pos') ∨ (∃ r' m', lp_X4_readWord_2 x' fC (nI y') r = some (0, r') ∧ lp_X8_spells_2 x fM (nI y) m = some m' ∧ FR e a m0 T0 r' m') := by
  obtain ⟨b1, b2, b3⟩ := bytes_ok x hx
  obtain ⟨b1', b2', b3'⟩ := bytes_ok x' hx'
  intro n
  induction n with
  | zero =>
    intro y y' fM fC K pos r m hy hy' hs hM hC h
    obtain ⟨fM, rfl⟩ : ∃ f', fM = f' + 1 := ⟨fM - 1, by omega⟩
    obtain ⟨fC, rfl⟩ : ∃ f', fC = f' + 1 := ⟨fC - 1, by omega⟩
    refine Or.inl ⟨pos, r, m, ?_, ?_, h, rfl, Nat.le_refl _⟩
    · show st_X4_readWord_2 x' _ _ _ = _
      unfold st_X4_readWord_2
      rw [if_pos hx', len_ok x' hx', m_bind_some, if_pos (nI_le (by omega) (by omega))]
    · show st_X8_spells_2 x _ _ _ = _
      unfold st_X8_spells_2
      rw [if_pos hx, len_ok x hx, m_bind_some, if_pos (nI_le (by omega) (by omega))]
  | succ n ih =>
    intro y y' fM fC K pos r m hy hy' hs hM hC h
    obtain ⟨fM, rfl⟩ : ∃ f', fM = f' + 1 := ⟨fM - 1, by omega⟩
    obtain ⟨fC, rfl⟩ : ∃ f', fC = f' + 1 := ⟨fC - 1, by omega⟩
    obtain ⟨c, c1, c2⟩ := b3 y (by omega)
    have c3 : (mSB.getD x' []).getD y' 0 = nI c := (hs 0 (by omega)).symm.trans c2
    have eC : lp_X4_readWord_2 x' (fC + 1) (nI y') r = if cur tp e pos = nI c then lp_X4_readWord_2 x' fC (nI (y' + 1)) (Reader_place_s r (nI (pos + 1))) else some (0, r) := by
      show st_X4_readWord_2 x' _ _ _ = _
      unfold st_X4_readWord_2
      rw [if_pos hx', len_ok x' hx', m_bind_some, if_neg (nI_ge (by omega) (by omega)), if_pos hx', char_ok x' hx' y' (by omega), m_bind_some, c3, pr_take d h c c1, ← nI_succ]
      by_cases q : cur tp e pos = nI c
      · rw [if_pos q, if_pos q, m_bind_some, if_pos n10]
      · rw [if_neg q, if_neg q, m_bind_some, if_neg n00]
    have eM : lp_X8_spells_2 x (fM + 1) (nI y) m = Option.bind (fn_X8_must m (nI c)) (fun t6 => lp_X8_spells_2 x fM (nI (y + 1)) t6) := by
      show st_X8_spells_2 x _ _ _ = _
      unfold st_X8_spells_2
      rw [if_pos hx, len_ok x hx, m_bind_some, if_neg (nI_ge (by omega) (by omega)), if_pos hx, char_ok x hx y (by omega), m_bind_some, c2, ← nI_succ]
    rw [eC, eM]
    rcases pr_must d h c c1 with ⟨q, m', g1, g2, g3⟩ | ⟨q, m', g1, g2⟩
    · rw [if_pos q, g1, m_bind_some]
      rcases ih (y + 1) (y' + 1) fM fC K (pos + 1) _ m' (by omega) (by omega) (fun i hi => by
        have := hs (i + 1) (by omega)
        rw [show y + 1 + i = y + (i + 1) by omega, show y' + 1 + i = y' + (i + 1) by omega]
        exact this) (by omega) (by omega) (pr_less g2) with ⟨pos', r', m'', k1, k2, k3, k4, k5⟩ | ⟨r', m'', k1, k2, k3⟩
      · exact Or.inl ⟨pos', r', m'', k1, k2, k3, k4.trans g3, by omega⟩
      · exact Or.inr ⟨r', m'', k1, k2, k3⟩
    · rw [if_neg q, g1, m_bind_some]
      obtain ⟨p', f0, f1, f2, f3⟩ := g2
      obtain ⟨m'', k1, k2⟩ := fl_spells f3 hx n (y + 1) fM m' (by omega) (by omega) f3
      exact Or.inr ⟨r, m'', rfl, k1, p', f0, f1, f2, k2⟩
/-! one of some signs -/
def amf : List Int32 → Nat → Int32 → Int32
  | [], _, _ => -1
  | b :: w, k, c => if c = b then nI k else amf w (k + 1) c
theorem amf_cons (b : Int32) (w : List Int32) (k : Nat) (c : Int32) : amf (b :: w) k c = if c = b then nI k else amf w (k + 1) c := rfl
theorem ix_ok : ∀ x, x = 0 ∨ x = 1 ∨ x = 9 → ∀ c, c < 128 → fn_J0_indexOf_0f7a4 x ((nI c).toUInt32 % 65536).toInt32 = some (amf (mSB.getD x []) 0 (nI c)) := by
  have h0 : ∀ c, c < 128 → fn_J0_indexOf_0f7a4 0 ((nI c).toUInt32 % 65536).toInt32 = some (amf (mSB.getD 0 []) 0 (nI c)) := by decide +kernel
  have h1 : ∀ c, c < 128 → fn_J0_indexOf_0f7a4 1 ((nI c).toUInt32 % 65536).toInt32 = some (amf (mSB.getD 1 []) 0 (nI c)) := by decide +kernel
  have h9 : ∀ c, c < 128 → fn_J0_indexOf_0f7a4 9 ((nI c).toUInt32 % 65536).toInt32 = some (amf (mSB.getD 9 []) 0 (nI c)) := by decide +kernel
  rintro x (rfl | rfl | rfl)
  · exact h0
  · exact h1
  · exact h9
/-- which of them is at hand -/
def wh (x : Nat) (tp : Nat → Nat) (e pos : Nat) : Int32 := amf (mSB.getD x []) 0 (cur tp e pos)
theorem amf_m1 (x : Nat) (hx : x < 10) : amf (mSB.getD x []) 0 (-1) = -1 := by
  have : ∀ x, x < 10 → amf (mSB.getD x []) 0 (-1) = -1 := by decide +kernel
  exact this x hx
theorem amf_v : ∀ (w : List Int32) k c, amf w k c = -1 ∨ ∃ i, i < w.length ∧ amf w k c = nI (k + i) ∧ w.getD i 0 = c
  | [], _, _ => Or.inl rfl
  | b :: w, k, c => by
    unfold amf
    by_cases q : c = b
    · rw [if_pos q]
      exact Or.inr ⟨0, by simp, by simp, by simp [q]⟩
    · rw [if_neg q]
      rcases amf_v w (k + 1) c with h | ⟨i, h1, h2, h3⟩
      · exact Or.inl h
      · exact Or.inr ⟨i + 1, by simp; omega, by rw [h2]; congr 1; omega, by simpa using h3⟩
/-- the class's takeOneOf -/
theorem pr_one (d : DT tp e a m0 T0) (h : PR tp e a m0 T0 z γ f K pos L r m) {x : Nat} (hx : x = 0 ∨ x = 1 ∨ x = 9) : fn_X4_takeOneOf r x = if wh x tp e pos < 0 then some (wh x tp e pos, r) else some (wh x tp e pos, Reader_place_s r (nI (pos + 1))) := by
  obtain ⟨⟨s1, s2, s3, s4, s5, s6⟩, h2, h3, h4, h5, h6, h7, h8⟩ := h
  obtain ⟨d1, d2, d3, d4⟩ := d
  have hx10 : x < 10 := by omega
  unfold fn_X4_takeOneOf wh cur
  rw [s2, h4]
  by_cases q : pos < e
  · rw [if_pos (nI_lt q (by omega)), if_pos (mIn_nI (by omega) (by omega)), q_n (by omega), s1, (d3 pos (by omega)).2, if_pos hx10, ix_ok x hx _ (d3 pos (by omega)).1, m_bind_some, if_pos q, nI_1]
  · rw [if_neg (nI_nlt (by omega) (by omega)), if_neg q, amf_m1 x hx10, if_pos (by decide)]
/-- the reference's among -/
theorem pr_among (d : DT tp e a m0 T0) (h : PR tp e a m0 T0 z γ f K pos L r m) {x : Nat} (hx : x < 10) : fn_X8_among m x = if wh x tp e pos < 0 then some (-1, m) else some (wh x tp e pos, Model_spot_s m (nI (pos + 1))) := by
  have hh := pr_here d h
  have hsp : Model_spot m = nI pos := h.2.2.2.2.1
  obtain ⟨b1, b2, b3⟩ := bytes_ok x hx
  have main : ∀ n k F, k + n = mSL.getD x 0 → n < F → lp_X8_among_2 m x (fun (x2_22 : Int32) => some (x2_22, (Model_spot_s m ((Model_spot m) + 1)))) F (nI k) = if amf ((mSB.getD x []).drop k) k (cur tp e pos) < 0 then some (-1, m) else some (amf ((mSB.getD x []).drop k) k (cur tp e pos), Model_spot_s m (nI (pos + 1))) := by
    intro n
    induction n with
    | zero =>
      intro k F hk hF
      obtain ⟨F, rfl⟩ : ∃ f', F = f' + 1 := ⟨F - 1, by omega⟩
      show st_X8_among_2 m x _ _ _ = _
      unfold st_X8_among_2
      rw [if_pos hx, len_ok x hx, m_bind_some, if_pos (nI_le (by omega) (by omega)), List.drop_eq_nil_of_le (by omega)]
      rfl
    | succ n ih =>
      intro k F hk hF
      obtain ⟨F, rfl⟩ : ∃ f', F = f' + 1 := ⟨F - 1, by omega⟩
      have hkl : k < (mSB.getD x []).length := by omega
      have hg : (mSB.getD x []).getD k 0 = (mSB.getD x [])[k] := by rw [List.getD_eq_getElem?_getD, List.getElem?_eq_getElem hkl]; rfl
      show st_X8_among_2 m x _ _ _ = _
      unfold st_X8_among_2
      rw [if_pos hx, len_ok x hx, m_bind_some, if_neg (nI_ge (by omega) (by omega)), hh, m_bind_some, if_pos hx, char_ok x hx k (by omega), m_bind_some, ← nI_succ, ih (k + 1) F (by omega) (by omega), List.drop_eq_getElem_cons hkl, hg]
      rw [amf_cons]
      by_cases q : cur tp e pos = (mSB.getD x [])[k]
      · rw [if_neg (fun z => z q), if_pos q, if_neg (nI_pos (by omega)), hsp, nI_1]
      · rw [if_pos q, if_neg q]
  unfold fn_X8_among
  rw [m_jp_eq]
  exact main (mSL.getD x 0) 0 m_N (by omega) (by rw [m_N_val]; omega)
end SG
