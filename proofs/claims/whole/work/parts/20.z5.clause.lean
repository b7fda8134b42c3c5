/-! Reading: a clause, a class. -/
section CL
variable {tp : Nat → Nat} {e a : Nat} {m0 : ModelV} {T0 : Nat → Int32} {z : LZ} {γ f : Nat} {K pos : Nat} {L : List Nat} {r : ReaderV} {m : ModelV}
theorem spells_step (x : Nat) (hx : x < 10) (y fM : Nat) (hy : y < mSL.getD x 0) (m : ModelV) : lp_X8_spells_2 x (fM + 1) (nI y) m = Option.bind (fn_X8_must m ((mSB.getD x []).getD y 0)) (fun t6 => lp_X8_spells_2 x fM (nI (y + 1)) t6) := by
  obtain ⟨b1, b2, b3⟩ := bytes_ok x hx
  show st_X8_spells_2 x _ _ _ = _
  unfold st_X8_spells_2
  rw [if_pos hx, len_ok x hx, m_bind_some, if_neg (nI_ge (by omega) (by omega)), if_pos hx, char_ok x hx y (by omega), m_bind_some, ← nI_succ]
/-- a told number comes to both: GOAL -/
theorem pr_goal (h : PR tp e a m0 T0 z γ f K pos L r m) (ha : a < 5) (v : Nat) : PR tp e a m0 T0 z v f K pos L (Reader_lesson_s r (Lesson_toldGoal_s (Reader_lesson r) (nI v))) (Model_s_s m (upd (Model_s m) (211 + a) (nI v))) := by
  obtain ⟨⟨s1, s2, s3, s4, s5, s6⟩, ⟨l1, l2, l3, l4, l5, l6⟩, ⟨k1, k2, k3, k4⟩, h4, h5, h6, h7, h8⟩ := h
  exact ⟨⟨s1, s2, s3, s4, fun j j1 j2 j3 j4 => (pk_un j1).trans (s5 j j1 j2 j3 j4), s6⟩, ⟨l1, l2, l3, l4, rfl, l6⟩, ⟨(pk_un (by omega)).trans k1, fun j hj => (pk_un (by omega)).trans (k2 j hj), pk_us, (pk_un (by omega)).trans k4⟩, h4, h5, h6, h7, h8⟩
theorem pr_fair (h : PR tp e a m0 T0 z γ f K pos L r m) (ha : a < 5) (v : Nat) : PR tp e a m0 T0 z γ v K pos L (Reader_lesson_s r (Lesson_fair_s (Reader_lesson r) (nI v))) (Model_s_s m (upd (Model_s m) (216 + a) (nI v))) := by
  obtain ⟨⟨s1, s2, s3, s4, s5, s6⟩, ⟨l1, l2, l3, l4, l5, l6⟩, ⟨k1, k2, k3, k4⟩, h4, h5, h6, h7, h8⟩ := h
  exact ⟨⟨s1, s2, s3, s4, fun j j1 j2 j3 j4 => (pk_un j2).trans (s5 j j1 j2 j3 j4), s6⟩, ⟨l1, l2, l3, l4, l5, rfl⟩, ⟨(pk_un (by omega)).trans k1, fun j hj => (pk_un (by omega)).trans (k2 j hj), (pk_un (by omega)).trans k3, pk_us⟩, h4, h5, h6, h7, h8⟩
theorem lz_c_app (z : LZ) (q : List Nat × Bool × Nat) : lz_c (z ++ [q]) = lz_c z ++ [(q.1, lz_w q)] := by
  unfold lz_c
  rw [List.map_append]
  rfl
theorem lz_steps_app (z : LZ) (q : List Nat × Bool × Nat) : lz_steps (z ++ [q]) = (lz_steps z ++ q.1.map tk_ref) ++ [lz_z q] := by
  unfold lz_steps
  rw [List.flatMap_append, List.append_assoc]
  simp
theorem lc_flat_app (c : LC) (q : List Nat × Int32) : lc_flat (c ++ [q]) = lc_flat c ++ q.1 := by
  unfold lc_flat
  rw [List.flatMap_append]
  simp
/-- a spur comes to both -/
theorem pr_spur (d : DT tp e a m0 T0) (hz : z.length ≤ 9) (h : PR tp e a m0 T0 z γ f K pos L r m) (b : Bool) (n : Nat) : ∃ le' m', fn_X3_addSpur (Reader_lesson r) (lz_w (L, b, n)) = some le' ∧ fn_X8_emits m (lz_z (L, b, n)) = some m' ∧ PR tp e a m0 T0 (z ++ [(L, b, n)]) γ f K pos [] (Reader_lesson_s r le') m' ∧ Model_open m' = Model_open m := by
  obtain ⟨⟨s1, s2, s3, s4, s5, s6⟩, ⟨l1, l2, l3, l4, l5, l6⟩, ⟨k1, k2, k3, k4⟩, h4, h5, h6, h7, h8⟩ := h
  obtain ⟨d1, d2, d3, d4⟩ := d
  have hst : (lz_steps z ++ L.map tk_ref).length = lc_len (lz_c z) + z.length + L.length := by rw [List.length_append, lz_len, List.length_map]
  have ea1 : 140 * nI a = nI (140 * a) := pk_mul 140 a
  have ea2 : (226 + nI (140 * a)) + nI (lz_steps z ++ L.map tk_ref).length = nI (226 + 140 * a + (lz_steps z ++ L.map tk_ref).length) := by
    rw [show (226 : Int32) = nI 226 from rfl, nI_add, nI_add]
  have hlen : lc_len (lz_c (z ++ [(L, b, n)])) = lc_len (lz_c z) + L.length := by
    rw [lz_c_app, lc_len_app]
    simp [lc_len]
  have hstn : (lz_steps (z ++ [(L, b, n)])).length = (lz_steps z ++ L.map tk_ref).length + 1 := by
    rw [lz_steps_app, List.length_append]
    rfl
  refine ⟨Lesson_spurs_s (Lesson_ends_s (Lesson_worths_s (Reader_lesson r) (upd (Lesson_worths (Reader_lesson r)) z.length (lz_w (L, b, n)))) (upd (Lesson_ends (Reader_lesson r)) z.length (Lesson_codes (Reader_lesson r)))) (nI (z.length + 1)), Model_s_s m (upd (upd (Model_s m) (226 + 140 * a + (lz_steps z ++ L.map tk_ref).length) (lz_z (L, b, n))) (221 + a) (nI ((lz_steps z ++ L.map tk_ref).length + 1))), ?_, ?_, ⟨⟨s1, s2, s3, s4, fun j j1 j2 j3 j4 => ?_, s6⟩, ⟨?_, fun j hj => ?_, ?_, fun i hi => ?_, l5, l6⟩, ⟨?_, fun j hj => ?_, ?_, ?_⟩, h4, h5, h6, h7, ?_⟩, rfl⟩
  · unfold fn_X3_addSpur
    rw [l3, if_neg (show ¬ Int32.ofNat 10 ≤ nI z.length from nI_ge (by omega) (by omega)), if_pos (show nI z.length < Int32.ofNat 10 from nI_lt (by omega) (by omega)), if_pos (mIn_nI (by omega) (by omega)), if_pos (mIn_nI (by omega) (by omega)), q_n (by omega), nI_1]
  · unfold fn_X8_emits
    rw [h7, if_neg n00, s4, if_pos (q_i221 (by omega)), q_a221 (by omega), k1, ea1, ea2, if_pos (mIn_nI (by omega) (by omega)), if_pos (q_i221 (by omega)), if_pos (q_i221 (by omega)), q_n (by omega), pk_un (by omega), k1, nI_1]
  · show upd (upd (Model_s m) (226 + 140 * a + (lz_steps z ++ L.map tk_ref).length) (lz_z (L, b, n))) (221 + a) _ j = _
    rw [pk_un (by omega), pk_un (by omega)]
    exact s5 j j1 j2 j3 j4
  · show Lesson_codes (Reader_lesson r) = nI (lc_len (lz_c (z ++ [(L, b, n)])) + [].length)
    rw [hlen, l1]
    rfl
  · show Lesson_code (Reader_lesson r) j = tk_cls ((lc_flat (lz_c (z ++ [(L, b, n)])) ++ []).getD j 0)
    rw [List.append_nil, lz_c_app, lc_flat_app]
    rw [hlen] at hj
    exact l2 j hj
  · show nI (z.length + 1) = nI (z ++ [(L, b, n)]).length
    rw [List.length_append]
    rfl
  · show upd (Lesson_ends (Reader_lesson r)) z.length (Lesson_codes (Reader_lesson r)) i = _ ∧ upd (Lesson_worths (Reader_lesson r)) z.length (lz_w (L, b, n)) i = _
    have hi' : i < z.length + 1 := by
      rw [List.length_append] at hi
      exact hi
    rw [lz_c_app]
    by_cases q : i = z.length
    · subst q
      have e1 : (lz_c z ++ [(L, lz_w (L, b, n))]).take (z.length + 1) = lz_c (z ++ [(L, b, n)]) := by
        rw [lz_c_app]
        exact List.take_of_length_le (by rw [List.length_append, lz_c_len]; exact Nat.le_refl _)
      have e2 : (lz_c z ++ [(L, lz_w (L, b, n))]).getD z.length ([], 0) = (L, lz_w (L, b, n)) := by
        have := gd_last (lz_c z) (L, lz_w (L, b, n)) (([], 0) : List Nat × Int32)
        rw [lz_c_len] at this
        exact this
      rw [pk_us, pk_us]
      exact ⟨by rw [l1]; show _ = nI (lc_len ((lz_c z ++ [(L, lz_w (L, b, n))]).take (z.length + 1))); rw [e1, hlen], by show _ = ((lz_c z ++ [(L, lz_w (L, b, n))]).getD z.length ([], 0)).2; rw [e2]⟩
    · have hi2 : i < z.length := by omega
      rw [pk_un q, pk_un q]
      obtain ⟨g1, g2⟩ := l4 i hi2
      refine ⟨?_, ?_⟩
      · rw [g1]
        show _ = nI (lc_len ((lz_c z ++ [(L, lz_w (L, b, n))]).take (i + 1)))
        rw [List.take_append_of_le_length (by rw [lz_c_len]; omega)]
      · rw [g2]
        show _ = ((lz_c z ++ [(L, lz_w (L, b, n))]).getD i ([], 0)).2
        rw [gd_init _ _ _ (by rw [lz_c_len]; exact hi2)]
  · show upd (upd (Model_s m) _ _) (221 + a) _ (221 + a) = nI (lz_steps (z ++ [(L, b, n)]) ++ [].map tk_ref).length
    rw [pk_us, List.map_nil, List.append_nil, hstn]
  · show upd (upd (Model_s m) _ _) (221 + a) _ (226 + 140 * a + j) = (lz_steps (z ++ [(L, b, n)]) ++ [].map tk_ref).getD j 0
    have hj' : j < (lz_steps z ++ L.map tk_ref).length + 1 := by
      rw [List.map_nil, List.append_nil, hstn] at hj
      exact hj
    rw [List.map_nil, List.append_nil, lz_steps_app, pk_un (by omega)]
    show upd (Model_s m) (226 + 140 * a + (lz_steps z ++ L.map tk_ref).length) (lz_z (L, b, n)) (226 + 140 * a + j) = ((lz_steps z ++ L.map tk_ref) ++ [lz_z (L, b, n)]).getD j 0
    by_cases q : j = (lz_steps z ++ L.map tk_ref).length
    · rw [q, pk_us, gd_last]
    · rw [pk_un (by omega), gd_init _ _ _ (by omega)]
      exact k2 j (by omega)
  · show upd (upd (Model_s m) _ _) (221 + a) _ (211 + a) = _
    rw [pk_un (by omega), pk_un (by omega)]
    exact k3
  · show upd (upd (Model_s m) _ _) (221 + a) _ (216 + a) = _
    rw [pk_un (by omega), pk_un (by omega)]
    exact k4
  · rw [hlen]
    exact h8
/-- clauses well formed -/
def ZOK (z : LZ) : Prop := ∀ q ∈ z, (∀ t ∈ q.1, tk_ok t) ∧ tk_dep q.1 0 = some 1 ∧ q.2.2 < 100
theorem zok_app {z : LZ} (h : ZOK z) {L : List Nat} {b : Bool} {n : Nat} (hL : DEP 0 L) (hn : n < 100) : ZOK (z ++ [(L, b, n)]) := by
  intro q hq
  rcases List.mem_append.mp hq with h1 | h1
  · exact h q h1
  · rw [List.mem_singleton.mp h1]
    exact ⟨hL.1, hL.2 0 (Nat.le_refl _), hn⟩
/-- what a clause comes to: both, or both at a fault -/
def CLO (tp : Nat → Nat) (e a : Nat) (m0 : ModelV) (T0 : Nat → Int32) (k : Nat) (x : Option (Int32 × ReaderV)) (y : Option ModelV) : Prop := (∃ z γ f pos r' m', x = some (1, r') ∧ y = some m' ∧ PR tp e a m0 T0 z γ f 0 pos [] r' m' ∧ Model_open m' = nI 0 ∧ z.length ≤ k ∧ ZOK z ∧ γ < 100 ∧ f < 100) ∨ (∃ r' m', x = some (0, r') ∧ y = some m' ∧ FR e a m0 T0 r' m')
theorem word_ok : ∀ i, i < 4 → (mSB.getD 4 []).getD (1 + i) 0 = (mSB.getD 6 []).getD (0 + i) 0 ∧ (mSB.getD 5 []).getD (1 + i) 0 = (mSB.getD 7 []).getD (0 + i) 0 := by decide +kernel
theorem word_ok2 : ∀ i, i < 3 → (mSB.getD 2 []).getD (1 + i) 0 = (mSB.getD 8 []).getD (0 + i) 0 := by decide +kernel
theorem fr_num {r' : ReaderV} (h : FR e a m0 T0 r' m) : ∃ v m', fn_X8_figures m = some (v, m') ∧ FR e a m0 T0 r' m' := by
  obtain ⟨p', f0, f1, f2, f3⟩ := h
  obtain ⟨v, m', k1, k2⟩ := fl_figures f3
  exact ⟨v, m', k1, p', f0, f1, f2, k2⟩
theorem fr_must {r' : ReaderV} (h : FR e a m0 T0 r' m) (c : Int32) : ∃ m', fn_X8_must m c = some m' ∧ FR e a m0 T0 r' m' := by
  obtain ⟨p', f0, f1, f2, f3⟩ := h
  obtain ⟨m', k1, k2⟩ := fl_must f3 c
  exact ⟨m', k1, p', f0, f1, f2, k2⟩
theorem fr_emits {r' : ReaderV} (h : FR e a m0 T0 r' m) (c : Int32) : fn_X8_emits m c = some m := by
  obtain ⟨p', f0, f1, f2, f3⟩ := h
  exact fl_emits f3 c
theorem fr_some {r' : ReaderV} (h : FR e a m0 T0 r' m) (d : Nat) : fn_X8_some (d + 3) m = some m := by
  obtain ⟨p', f0, f1, f2, f3⟩ := h
  exact fl_someD f3 d
theorem fr_wrong {r' : ReaderV} (h : FR e a m0 T0 r' m) : Model_isWrong m = 1 := by
  obtain ⟨p', f0, f1, f2, f3⟩ := h
  exact f3.1
/-- behind the first sign: goal, fair -/
theorem tells_same (d : DT tp e a m0 T0) (k : Nat) (hzk : z.length ≤ k) (hZ : ZOK z) (hγ : γ < 100) (hf : f < 100) (x x' c : Nat) (off : Int32) (hx : x < 10) (hx' : x' < 10) (hc : c < 128) (hlen : mSL.getD x 0 = 5 ∧ mSL.getD x' 0 = 4) (hb : (mSB.getD x []).getD 0 0 = nI c) (hw : ∀ i, i < 4 → (mSB.getD x []).getD (1 + i) 0 = (mSB.getD x' []).getD (0 + i) 0) (setC : LessonV → Int32 → LessonV) (h : PR tp e a m0 T0 z γ f 0 pos [] r m) (hop : Model_open m = nI 0) (hcur : cur tp e pos = nI c)
    (hset : ∀ (r1 : ReaderV) (m1 : ModelV) pos1 v, v < 100 → PR tp e a m0 T0 z γ f 0 pos1 [] r1 m1 → mIn (off + nI a) 926 = true ∧ ∃ γ' f', γ' < 100 ∧ f' < 100 ∧ PR tp e a m0 T0 z γ' f' 0 pos1 [] (Reader_lesson_s r1 (setC (Reader_lesson r1) (nI v))) (Model_s_s m1 (upd (Model_s m1) (off + nI a).toNatClampNeg (nI v)))) :
    CLO tp e a m0 T0 k (Option.bind (fn_X4_readWord (Reader_place_s r (nI (pos + 1))) x') (fun t23 => (if t23.1 = 0 then some (0, t23.2) else (Option.bind (fn_X4_readNumber t23.2) (fun t25 => (if ¬ t25.1 = 0 then some (1, (Reader_lesson_s t25.2 (setC (Reader_lesson t25.2) (Reader_number t25.2)))) else some (0, t25.2))))))) (fn_X8_tellsHere m off x) := by
  have eM : fn_X8_spells m x = Option.bind (fn_X8_must m (nI c)) (fun t6 => lp_X8_spells_2 x 1999 (nI 1) t6) := by
    unfold fn_X8_spells
    rw [m_N_val, ← hb]
    exact spells_step x hx 0 1999 (by omega) m
  unfold fn_X8_tellsHere
  rw [eM]
  rcases pr_must d h c hc with ⟨q, m1, b1, b2, b3⟩ | ⟨q, m1, b1, b2⟩
  · rw [b1, m_bind_some]
    rcases pr_word (L := []) d hx hx' 4 1 0 1999 m_N 0 (pos + 1) (Reader_place_s r (nI (pos + 1))) m1 (by omega) (by omega) hw (by omega) (by rw [m_N_val]; omega) (pr_less b2) with ⟨pos2, r2, m2, c1, c2, c3, c4, c5⟩ | ⟨r2, m2, c1, c2, c3⟩
    · have c1' : fn_X4_readWord (Reader_place_s r (nI (pos + 1))) x' = some (1, r2) := c1
      rw [c1', c2, m_bind_some, m_bind_some, if_neg n10]
      rcases pr_num d c3 with ⟨v, pos3, r3, m3, v1, v2, v3, v4, v5, v6, v7⟩ | ⟨v, r3, m3, v1, v2, v3⟩
      · rw [v2, v3, m_bind_some, m_bind_some, if_pos n10, v4]
        obtain ⟨i1, γ', f', g1, g2, g3⟩ := hset r3 m3 pos3 v v1 v5
        have hact : Model_act m3 = nI a := v5.1.2.2.2.1
        rw [if_neg (show ¬ ¬ Model_isWrong m3 = 0 from fun w => w v5.2.2.2.2.2.2.1), hact, if_pos i1]
        exact Or.inl ⟨z, γ', f', pos3, _, _, rfl, rfl, g3, ((v6.trans c4).trans b3).trans hop, hzk, hZ, g1, g2⟩
      · rw [v1, v2, m_bind_some, m_bind_some, if_neg n00, if_pos (show ¬ Model_isWrong m3 = 0 by rw [fr_wrong v3]; decide)]
        exact Or.inr ⟨r3, m3, rfl, rfl, v3⟩
    · have c1' : fn_X4_readWord (Reader_place_s r (nI (pos + 1))) x' = some (0, r2) := c1
      obtain ⟨v, m3, k1, k2⟩ := fr_num c3
      rw [c1', c2, m_bind_some, m_bind_some, if_pos n0, k1, m_bind_some, if_pos (show ¬ Model_isWrong m3 = 0 by rw [fr_wrong k2]; decide)]
      exact Or.inr ⟨r2, m3, rfl, rfl, k2⟩
  · exact absurd hcur q
/-- behind spur, shirk: the number, an E -/
theorem much_same (d : DT tp e a m0 T0) (k : Nat) (hzk : z.length ≤ k) (hk : k ≤ 9) (hZ : ZOK z) (hγ : γ < 100) (hf : f < 100) (b : Bool) {r2 : ReaderV} {m2 : ModelV} (h : PR tp e a m0 T0 z γ f 0 pos [] r2 m2) (hop : Model_open m2 = nI 0) (w : Int32) (hkind : ∀ n, n < 100 → w - nI n = lz_z ([], b, n)) :
    CLO tp e a m0 T0 (k + 1) (Option.bind (fn_X4_readNumber r2) (fun t10 => (if ¬ t10.1 = 0 then (Option.bind (fn_X4_take t10.2 32) (fun t12 => (if t12.1 = 0 then some (0, t12.2) else (Option.bind (fn_X4_readEither 24 t12.2 0) (fun t14 => (if ¬ t14.1 = 0 then (Option.bind (fn_X3_addSpur (Reader_lesson t14.2) (if b = true then Reader_number t10.2 else -(Reader_number t10.2))) (fun t16 => some (1, (Reader_lesson_s t14.2 t16)))) else some (0, t14.2))))))) else some (0, t10.2)))) (Option.bind (fn_X8_figures m2) (fun t2 => (Option.bind (fn_X8_must t2.2 32) (fun t3 => (Option.bind (fn_X8_some 24 t3) (fun t4 => (Option.bind (fn_X8_emits t4 (w - t2.1)) (fun t5 => some t5)))))))) := by
  rcases pr_num d h with ⟨v, pos3, r3, m3, v1, v2, v3, v4, v5, v6, v7⟩ | ⟨v, r3, m3, v1, v2, v3⟩
  · rw [v2, v3, m_bind_some, m_bind_some, if_pos n10, v4, show fn_X4_take r3 32 = fn_X4_take r3 (nI 32) from rfl, pr_take d v5 32 (by omega)]
    show CLO tp e a m0 T0 (k + 1) _ (Option.bind (fn_X8_must m3 (nI 32)) _)
    rcases pr_must d v5 32 (by omega) with ⟨q, m4, b1, b2, b3⟩ | ⟨q, m4, b1, b2⟩
    · rw [if_pos q, m_bind_some, if_neg n10, b1, m_bind_some]
      have hS := some_all d (z := z) (γ := γ) (f := f) (by omega) (o := 0) (M := 0) (rp := (gr_Rd 23).2) (re := (gr_Rd 23).1) (fa := (gr_Fa 22).1) (ev := (gr_Fa 22).2.1) (so := (gr_Fa 22).2.2) (fb := (gr_Fa 23).1) (eb := (gr_Fa 23).2.2) (factor_same d (by omega) 5 0 (by omega) 23 22 (by omega) (by omega))
      rcases hS (0 + 1) (pos3 + 1) [] _ _ b2 ((b3.trans v6).trans hop) with ⟨l, pos', r', m', a1, a2, a3, a4, a5, a6⟩ | ⟨r', m', a1, a2, a3⟩
      · have a1' : fn_X4_readEither 24 (Reader_place_s r3 (nI (pos3 + 1))) 0 = some (1, r') := a1
        have a2' : fn_X8_some 24 m4 = some m' := a2
        obtain ⟨le', m5, g1, g2, g3, g4⟩ := pr_spur d (by omega) (pr_less a3) b v
        have g1' : fn_X3_addSpur (Reader_lesson r') (if b = true then nI v else -nI v) = some le' := g1
        have g2' : fn_X8_emits m' (w - nI v) = some m5 := by rw [hkind v v1]; exact g2
        rw [a1', a2', m_bind_some, m_bind_some, if_pos n10, g1', m_bind_some]
        refine Or.inl ⟨z ++ [(l, b, v)], γ, f, pos', _, m5, rfl, ?_, g3, g4.trans a4, ?_, zok_app hZ a6 v1, hγ, hf⟩
        · show Option.bind (fn_X8_emits m' (w - nI v)) _ = _
          rw [g2', m_bind_some]
        · rw [List.length_append]
          show z.length + 1 ≤ k + 1
          omega
      · have a1' : fn_X4_readEither 24 (Reader_place_s r3 (nI (pos3 + 1))) 0 = some (0, r') := a1
        have a2' : fn_X8_some 24 m4 = some m' := a2
        rw [a1', a2', m_bind_some, m_bind_some, if_neg n00, fr_emits a3, m_bind_some]
        exact Or.inr ⟨r', m', rfl, rfl, a3⟩
    · rw [if_neg q, m_bind_some, if_pos n0, b1, m_bind_some, fr_some b2 21, m_bind_some, fr_emits b2, m_bind_some]
      exact Or.inr ⟨r3, m4, rfl, rfl, b2⟩
  · obtain ⟨m4, k1, k2⟩ := fr_must v3 32
    rw [v1, v2, m_bind_some, m_bind_some, if_neg n00]
    show CLO tp e a m0 T0 (k + 1) _ (Option.bind (fn_X8_must m3 32) _)
    rw [k1, m_bind_some, fr_some k2 21, m_bind_some, fr_emits k2, m_bind_some]
    obtain ⟨p', f0, f1, f2, f3⟩ := k2
    exact Or.inr ⟨r3, m4, rfl, rfl, p', f0, f1, f2, f3⟩
end CL
