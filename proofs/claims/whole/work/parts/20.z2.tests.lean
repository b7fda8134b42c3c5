/-! Reading: numbers, tokens, tests. -/
theorem dig_ok : ∀ c, c < 128 → amf (mSB.getD 9 []) 0 (nI c) = if 48 ≤ c ∧ c ≤ 57 then nI (c - 48) else -1 := by decide +kernel
theorem gd_last {α : Type} (X : List α) (t d : α) : (X ++ [t]).getD X.length d = t := by
  rw [List.getD_eq_getElem?_getD, List.getElem?_append_right (Nat.le_refl _), Nat.sub_self]
  rfl
theorem gd_init {α : Type} (X : List α) (t d : α) {j : Nat} (h : j < X.length) : (X ++ [t]).getD j d = X.getD j d := by
  rw [List.getD_eq_getElem?_getD, List.getElem?_append_left h, List.getD_eq_getElem?_getD]
section TE
variable {tp : Nat → Nat} {e a : Nat} {m0 : ModelV} {T0 : Nat → Int32} {z : LZ} {γ f : Nat} {K pos : Nat} {L : List Nat} {r : ReaderV} {m : ModelV}
theorem wh_9 (d : DT tp e a m0 T0) (hp : pos ≤ e) : wh 9 tp e pos = if pos < e ∧ 48 ≤ tp pos ∧ tp pos ≤ 57 then nI (tp pos - 48) else -1 := by
  unfold wh cur
  by_cases q : pos < e
  · rw [if_pos q, dig_ok _ (d.2.2.1 pos (by have := d.1; omega)).1]
    by_cases q2 : 48 ≤ tp pos ∧ tp pos ≤ 57
    · rw [if_pos q2, if_pos ⟨q, q2⟩]
    · rw [if_neg q2, if_neg (fun w => q2 w.2)]
  · rw [if_neg q, if_neg (fun w => q w.1), amf_m1 9 (by omega)]
theorem in_dig (d : DT tp e a m0 T0) : fn_X8_in (cur tp e pos) 48 57 = some (if pos < e ∧ 48 ≤ tp pos ∧ tp pos ≤ 57 then 1 else 0) := by
  rw [x8_in]
  unfold cur
  by_cases q : pos < e
  · have hc := (d.2.2.1 pos (by have := d.1; omega)).1
    rw [if_pos q]
    by_cases q2 : 48 ≤ tp pos ∧ tp pos ≤ 57
    · rw [if_pos (show 48 ≤ nI (tp pos) ∧ nI (tp pos) ≤ 57 from ⟨nI_le (a := 48) q2.1 (by omega), nI_le (b := 57) q2.2 (by omega)⟩), if_pos ⟨q, q2⟩]
    · rw [if_neg (show ¬ (48 ≤ nI (tp pos) ∧ nI (tp pos) ≤ 57) from fun w => q2 ⟨(nI_leI (a := 48) (by omega) (by omega)).mp w.1, (nI_leI (b := 57) (by omega) (by omega)).mp w.2⟩), if_neg (show ¬ (pos < e ∧ 48 ≤ tp pos ∧ tp pos ≤ 57) from fun w => q2 w.2)]
  · rw [if_neg q, if_neg (show ¬ ((48 : Int32) ≤ -1 ∧ (-1 : Int32) ≤ 57) by decide), if_neg (show ¬ (pos < e ∧ 48 ≤ tp pos ∧ tp pos ≤ 57) from fun w => q w.1)]
theorem pr_num (d : DT tp e a m0 T0) (h : PR tp e a m0 T0 z γ f K pos L r m) :
    (∃ v pos' r' m', v < 100 ∧ fn_X4_readNumber r = some (1, r') ∧ fn_X8_figures m = some (nI v, m') ∧ Reader_number r' = nI v ∧ PR tp e a m0 T0 z γ f K pos' L r' m' ∧ Model_open m' = Model_open m ∧ pos < pos') ∨ (∃ v r' m', fn_X4_readNumber r = some (0, r') ∧ fn_X8_figures m = some (v, m') ∧ FR e a m0 T0 r' m') := by
  have hw : Model_isWrong m = 0 := h.2.2.2.2.2.2.1
  have hsp : Model_spot m = nI pos := h.2.2.2.2.1
  have hpe : pos ≤ e := h.2.2.2.2.2.1
  have he := d.1
  have hM0 : fn_X8_figures m = if pos < e ∧ 48 ≤ tp pos ∧ tp pos ≤ 57 then lp_X8_figures_34 m_N 0 0 (Model_isWrong_s m 0) else lp_X8_figures_34 m_N 0 0 (Model_isWrong_s m 1) := by
    unfold fn_X8_figures
    simp only [m_jp_eq, hw, not_true_eq_false, if_false, pr_here d h, m_bind_some, in_dig d]
    by_cases q : pos < e ∧ 48 ≤ tp pos ∧ tp pos ≤ 57
    · rw [if_pos q, if_pos q, if_pos n10, if_pos (by decide)]
    · rw [if_neg q, if_neg q, if_neg n00, if_pos (by decide)]
  have hC0 := pr_one d h (x := 9) (Or.inr (Or.inr rfl))
  rw [wh_9 d hpe] at hC0
  by_cases q : pos < e ∧ 48 ≤ tp pos ∧ tp pos ≤ 57
  · rw [if_pos q] at hM0 hC0
    rw [if_neg (nI_pos (by omega))] at hC0
    have h1 : PR tp e a m0 T0 z γ f K (pos + 1) L (Reader_number_s (Reader_place_s r (nI (pos + 1))) (nI (tp pos - 48))) (Model_spot_s (Model_isWrong_s m 0) (nI (pos + 1))) := by
      obtain ⟨hs, h2, h3, h4, h5, h6, h7, h8⟩ := pr_less (pr_step h q.1)
      exact ⟨hs, h2, h3, h4, h5, h6, rfl, h8⟩
    have hpos1 : pos + 1 ≤ e := h1.2.2.2.2.2.1
    have hM1 : fn_X8_figures m = lp_X8_figures_34 1999 (nI (tp pos - 48)) 1 (Model_spot_s (Model_isWrong_s m 0) (nI (pos + 1))) := by
      rw [hM0, m_N_val]
      show st_X8_figures_34 _ _ _ _ = _
      unfold st_X8_figures_34
      have h00 : PR tp e a m0 T0 z γ f K pos L r (Model_isWrong_s m 0) := by
        obtain ⟨hs, h2, h3, h4, h5, h6, h7, h8⟩ := h
        exact ⟨hs, h2, h3, h4, h5, h6, rfl, h8⟩
      have hh : fn_X8_here (Model_isWrong_s m 0) = some (cur tp e pos) := pr_here d h00
      rw [if_neg (by decide), if_neg n00, hh, m_bind_some, in_dig d, m_bind_some, if_pos q, if_neg n10, m_jp_eq, if_pos rfl, m_bind_some]
      have ec : cur tp e pos = nI (tp pos) := if_pos q.1
      rw [ec]
      show lp_X8_figures_34 1999 ((10 * 0 + nI (tp pos)) - 48) (0 + 1) (Model_spot_s (Model_isWrong_s m 0) (Model_spot m + 1)) = _
      rw [hsp, nI_1, show (10 : Int32) * 0 = nI 0 from rfl, nI_add, Nat.zero_add, show (48 : Int32) = nI 48 from rfl, pk_sub q.2.1, show (0 : Int32) + 1 = 1 from rfl]
    have hin1 := in_dig (pos := pos + 1) d
    have hh1 := pr_here d h1
    have hM2 : fn_X8_figures m = if pos + 1 < e ∧ 48 ≤ tp (pos + 1) ∧ tp (pos + 1) ≤ 57 then (if nI (tp pos - 48) ≤ 0 then some (nI (tp pos - 48), Model_spot_s (Model_isWrong_s m 0) (nI (pos + 1))) else some (nI (10 * (tp pos - 48) + (tp (pos + 1) - 48)), Model_spot_s (Model_spot_s (Model_isWrong_s m 0) (nI (pos + 1))) (nI (pos + 1 + 1)))) else some (nI (tp pos - 48), Model_spot_s (Model_isWrong_s m 0) (nI (pos + 1))) := by
      rw [hM1]
      show st_X8_figures_34 (lp_X8_figures_34 1998) _ _ _ = _
      unfold st_X8_figures_34
      rw [if_neg (by decide), if_neg (show ¬ ¬ Model_isWrong (Model_spot_s (Model_isWrong_s m 0) (nI (pos + 1))) = 0 from fun w => w rfl), hh1, m_bind_some, hin1, m_bind_some]
      by_cases q1 : pos + 1 < e ∧ 48 ≤ tp (pos + 1) ∧ tp (pos + 1) ≤ 57
      · rw [if_pos q1, if_neg n10, if_pos q1, m_jp_eq, if_neg n10, m_bind_some]
        by_cases q2 : nI (tp pos - 48) ≤ 0
        · rw [if_pos q2, if_pos q2]
        · rw [if_neg q2, if_neg q2]
          have ec : cur tp e (pos + 1) = nI (tp (pos + 1)) := if_pos q1.1
          rw [ec]
          show lp_X8_figures_34 1998 ((10 * nI (tp pos - 48) + nI (tp (pos + 1))) - 48) (1 + 1) (Model_spot_s (Model_spot_s (Model_isWrong_s m 0) (nI (pos + 1))) (nI (pos + 1) + 1)) = _
          rw [nI_1, show (10 : Int32) = nI 10 from rfl, pk_mul, nI_add, show (48 : Int32) = nI 48 from rfl, pk_sub (by omega), show 10 * (tp pos - 48) + tp (pos + 1) - 48 = 10 * (tp pos - 48) + (tp (pos + 1) - 48) by omega]
          show st_X8_figures_34 (lp_X8_figures_34 1997) _ _ _ = _
          unfold st_X8_figures_34
          rw [if_pos (show (2 : Int32) ≤ 1 + 1 by decide)]
      · rw [if_neg q1, if_pos rfl, if_neg q1]
    refine Or.inl ?_
    unfold fn_X4_readNumber
    rw [hC0, m_bind_some, if_pos (show (0 : Int32) ≤ nI (tp pos - 48) from nI_pos0 (by omega)), m_jp_eq]
    by_cases qz : nI (tp pos - 48) = 0
    · rw [if_neg (fun w => w qz)]
      have hM3 : fn_X8_figures m = some (nI (tp pos - 48), Model_spot_s (Model_isWrong_s m 0) (nI (pos + 1))) := by
        rw [hM2, qz, if_pos (show (0 : Int32) ≤ 0 by decide)]
        split <;> rfl
      exact ⟨tp pos - 48, pos + 1, _, _, by omega, rfl, hM3, rfl, h1, rfl, by omega⟩
    · rw [if_pos qz]
      have hC1 := pr_one d h1 (x := 9) (Or.inr (Or.inr rfl))
      rw [wh_9 d hpos1] at hC1
      have hne : ¬ nI (tp pos - 48) ≤ 0 := fun w => qz (by
        have := (nI_leI (b := 0) (by omega) (by omega)).mp w
        rw [show tp pos - 48 = 0 by omega]
        rfl)
      by_cases q1 : pos + 1 < e ∧ 48 ≤ tp (pos + 1) ∧ tp (pos + 1) ≤ 57
      · rw [if_pos q1, if_neg (nI_pos (by omega))] at hC1
        rw [if_pos q1, if_neg hne] at hM2
        have h2s := pr_less (pr_step h1 q1.1)
        refine ⟨10 * (tp pos - 48) + (tp (pos + 1) - 48), pos + 1 + 1, Reader_number_s (Reader_place_s (Reader_number_s (Reader_place_s r (nI (pos + 1))) (nI (tp pos - 48))) (nI (pos + 1 + 1))) (nI (10 * (tp pos - 48) + (tp (pos + 1) - 48))), _, by omega, ?_, hM2, rfl, h2s, rfl, by omega⟩
        show Option.bind (fn_X4_takeOneOf (Reader_number_s (Reader_place_s r (nI (pos + 1))) (nI (tp pos - 48))) 9) _ = _
        rw [hC1, m_bind_some]
        show (if nI (tp (pos + 1) - 48) < 0 then _ else _) = _
        rw [if_neg (nI_pos (by omega))]
        show some ((1 : Int32), Reader_number_s (Reader_place_s (Reader_number_s (Reader_place_s r (nI (pos + 1))) (nI (tp pos - 48))) (nI (pos + 1 + 1))) (nI (tp pos - 48) * 10 + nI (tp (pos + 1) - 48))) = _
        rw [show (10 : Int32) = nI 10 from rfl, pk_mul, nI_add, Nat.mul_comm]
      · rw [if_neg q1, if_pos (by decide)] at hC1
        rw [if_neg q1] at hM2
        refine ⟨tp pos - 48, pos + 1, Reader_number_s (Reader_place_s r (nI (pos + 1))) (nI (tp pos - 48)), _, by omega, ?_, hM2, rfl, h1, rfl, by omega⟩
        show Option.bind (fn_X4_takeOneOf (Reader_number_s (Reader_place_s r (nI (pos + 1))) (nI (tp pos - 48))) 9) _ = _
        rw [hC1, m_bind_some]
        show (if (-1 : Int32) < 0 then _ else _) = _
        rw [if_pos (by decide)]
  · rw [if_neg q] at hM0 hC0
    rw [if_pos (by decide)] at hC0
    refine Or.inr ⟨0, Reader_number_s r (-1), Model_isWrong_s m 1, ?_, ?_, ?_⟩
    · unfold fn_X4_readNumber
      rw [hC0, m_bind_some]
      show (if (0 : Int32) ≤ -1 then _ else _) = _
      rw [if_neg (by decide)]
    · rw [hM0, m_N_val]
      show st_X8_figures_34 _ _ _ _ = _
      unfold st_X8_figures_34
      rw [if_neg (by decide), if_pos (show ¬ Model_isWrong (Model_isWrong_s m 1) = 0 from n10)]
    · have := fl_of h (m' := Model_isWrong_s m 1) rfl rfl rfl hsp rfl rfl
      obtain ⟨p', g1, g2, g3, g4⟩ := this
      exact ⟨p', g1, g2, g3, g4⟩
/-- a token comes to both -/
theorem pr_emit (d : DT tp e a m0 T0) (hz : z.length ≤ 10) (h : PR tp e a m0 T0 z γ f (K + 1) pos L r m) (t : Nat) : ∃ le' m', fn_X3_addCode (Reader_lesson r) (tk_cls t) = some le' ∧ fn_X8_emits m (tk_ref t) = some m' ∧ PR tp e a m0 T0 z γ f K pos (L ++ [t]) (Reader_lesson_s r le') m' ∧ Model_open m' = Model_open m := by
  obtain ⟨⟨s1, s2, s3, s4, s5, s6⟩, ⟨l1, l2, l3, l4, l5, l6⟩, ⟨k1, k2, k3, k4⟩, h4, h5, h6, h7, h8⟩ := h
  obtain ⟨d1, d2, d3, d4⟩ := d
  have hflat : (lc_flat (lz_c z) ++ L).length = lc_len (lz_c z) + L.length := by rw [List.length_append, lc_len_flat]
  have hst : (lz_steps z ++ L.map tk_ref).length = lc_len (lz_c z) + z.length + L.length := by rw [List.length_append, lz_len, List.length_map]
  have ea1 : 140 * nI a = nI (140 * a) := pk_mul 140 a
  have ea2 : (226 + nI (140 * a)) + nI (lz_steps z ++ L.map tk_ref).length = nI (226 + 140 * a + (lz_steps z ++ L.map tk_ref).length) := by
    rw [show (226 : Int32) = nI 226 from rfl, nI_add, nI_add]
  refine ⟨Lesson_codes_s (Lesson_code_s (Reader_lesson r) (upd (Lesson_code (Reader_lesson r)) (lc_len (lz_c z) + L.length) (tk_cls t))) (nI (lc_len (lz_c z) + (L ++ [t]).length)), Model_s_s m (upd (upd (Model_s m) (226 + 140 * a + (lz_steps z ++ L.map tk_ref).length) (tk_ref t)) (221 + a) (nI (lz_steps z ++ (L ++ [t]).map tk_ref).length)), ?_, ?_, ⟨⟨s1, s2, s3, s4, fun j j1 j2 j3 j4 => ?_, s6⟩, ⟨rfl, fun j hj => ?_, l3, l4, l5, l6⟩, ⟨pk_us, fun j hj => ?_, ?_, ?_⟩, h4, h5, h6, h7, ?_⟩, rfl⟩
  · unfold fn_X3_addCode
    rw [l1, if_pos (show nI (lc_len (lz_c z) + L.length) < Int32.ofNat 100 from nI_lt (by omega) (by omega)), if_pos (mIn_nI (by omega) (by omega)), q_n (by omega), nI_1, List.length_append]
    rfl
  · unfold fn_X8_emits
    rw [h7, if_neg n00, s4, if_pos (q_i221 (by omega)), q_a221 (by omega), k1, ea1, ea2, if_pos (mIn_nI (by omega) (by omega)), if_pos (q_i221 (by omega)), if_pos (q_i221 (by omega)), q_n (by omega), pk_un (by omega), k1, nI_1]
    have e1 : (lz_steps z ++ (L ++ [t]).map tk_ref).length = (lz_steps z ++ L.map tk_ref).length + 1 := by
      simp only [List.length_append, List.length_map, List.length_cons, List.length_nil]
      omega
    rw [e1]
  · show upd (upd (Model_s m) (226 + 140 * a + (lz_steps z ++ L.map tk_ref).length) (tk_ref t)) (221 + a) _ j = _
    rw [pk_un (by omega), pk_un (by omega)]
    exact s5 j j1 j2 j3 j4
  · show upd (Lesson_code (Reader_lesson r)) (lc_len (lz_c z) + L.length) (tk_cls t) j = tk_cls ((lc_flat (lz_c z) ++ (L ++ [t])).getD j 0)
    rw [← List.append_assoc]
    by_cases q : j = lc_len (lz_c z) + L.length
    · subst q
      rw [pk_us, ← hflat, gd_last]
    · have hj' : j < lc_len (lz_c z) + L.length := by
        simp only [List.length_append, List.length_cons, List.length_nil] at hj
        omega
      rw [pk_un q, gd_init _ _ _ (by rw [hflat]; exact hj')]
      exact l2 j hj'
  · show upd (upd (Model_s m) (226 + 140 * a + (lz_steps z ++ L.map tk_ref).length) (tk_ref t)) (221 + a) _ (226 + 140 * a + j) = _
    rw [pk_un (by omega), List.map_append, ← List.append_assoc]
    show upd (Model_s m) (226 + 140 * a + (lz_steps z ++ L.map tk_ref).length) (tk_ref t) (226 + 140 * a + j) = ((lz_steps z ++ L.map tk_ref) ++ [tk_ref t]).getD j 0
    by_cases q : j = (lz_steps z ++ L.map tk_ref).length
    · rw [q, pk_us, gd_last]
    · have hj' : j < (lz_steps z ++ L.map tk_ref).length := by
        have e1 : (lz_steps z ++ (L ++ [t]).map tk_ref).length = (lz_steps z ++ L.map tk_ref).length + 1 := by
          simp only [List.length_append, List.length_map, List.length_cons, List.length_nil]
          omega
        omega
      rw [pk_un (by omega), gd_init _ _ _ hj']
      exact k2 j hj'
  · show upd (upd (Model_s m) _ _) (221 + a) _ (211 + a) = _
    rw [pk_un (by omega), pk_un (by omega)]
    exact k3
  · show upd (upd (Model_s m) _ _) (221 + a) _ (216 + a) = _
    rw [pk_un (by omega), pk_un (by omega)]
    exact k4
  · simp only [List.length_append, List.length_cons, List.length_nil]
    omega
end TE
