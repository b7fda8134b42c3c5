/-! Reading: one factor. -/
section FA
variable {tp : Nat → Nat} {e a : Nat} {m0 : ModelV} {T0 : Nat → Int32} {z : LZ} {γ f : Nat}
theorem wh_c {pos : Nat} {x : Nat} (hx : x < 10) : wh x tp e pos = -1 ∨ ∃ i, i < mSL.getD x 0 ∧ wh x tp e pos = nI i ∧ cur tp e pos = (mSB.getD x []).getD i 0 ∧ pos < e := by
  obtain ⟨b1, b2, b3⟩ := bytes_ok x hx
  unfold wh
  rcases amf_v (mSB.getD x []) 0 (cur tp e pos) with h | ⟨i, h1, h2, h3⟩
  · exact Or.inl h
  · obtain ⟨c, c1, c2⟩ := b3 i (by omega)
    refine Or.inr ⟨i, by omega, by rw [h2, Nat.zero_add], h3.symm, ?_⟩
    exact cur_lt (h3.symm.trans c2) c1
theorem fl_factor {pos : Nat} {m : ModelV} (h : FL e a m0 pos m) (d : Nat) : fn_X8_factor (d + 1) m = some m := by
  show bd_X8_factor (gr_Fa d).1 (gr_Fa d).2.1 (gr_Fa d).2.2 m = _
  unfold bd_X8_factor
  rw [h.1, if_neg n10]
theorem fl_someD {pos : Nat} {m : ModelV} (h : FL e a m0 pos m) (d : Nat) : fn_X8_some (d + 3) m = some m := by
  have hf : (gr_Fa (d + 1)).1 m = some m := fl_factor h d
  show bd_X8_some (gr_Fa (d + 2)).1 (bd_X8_every (gr_Fa (d + 1)).1 (gr_Fa (d + 1)).2.1 (gr_Fa (d + 1)).2.2) (gr_Fa (d + 2)).2.2 m = _
  unfold bd_X8_some bd_X8_every
  rw [hf, m_bind_some, fl_every _ h (by rw [m_N_val]; omega), m_bind_some]
  exact fl_some _ h (by rw [m_N_val]; omega)
/-- a test, in the class -/
def tsC (r : ReaderV) : Option (Int32 × ReaderV) := (Option.bind (fn_X4_takeOneOf r 0) (fun t1 => (if 0 ≤ t1.1 then (Option.bind (fn_X4_takeOneOf t1.2 1) (fun t3 => (if t3.1 < 0 then some (0, t3.2) else (Option.bind (fn_X4_readNumber t3.2) (fun t5 => (if ¬ t5.1 = 0 then (Option.bind (fn_X3_addTest (Reader_lesson t5.2) t1.1 t3.1 (Reader_number t5.2)) (fun t7 => some (1, (Reader_lesson_s t5.2 t7)))) else some (0, t5.2))))))) else some (0, t1.2))))
/-- in the reference -/
def tsN (v1 z0 : Int32) (w : ModelV) : Option ModelV := (Option.bind (fn_X8_figures w) (fun t16 => (Option.bind (fn_X8_emits t16.2 ((v1 + (8 * z0)) + (32 * t16.1))) (fun t17 => some t17))))
def tsM (m : ModelV) : Option ModelV := (Option.bind (fn_X8_among m 0) (fun t13 => (if ¬ t13.1 = (-1) then (Option.bind (fn_X8_among (Model_isWrong_s t13.2 0) 1) (fun t21 => (if ¬ Model_isWrong t21.2 = 0 then tsN t13.1 t21.1 (Model_isWrong_s t21.2 1) else (if ¬ t21.1 = (-1) then tsN t13.1 t21.1 (Model_isWrong_s t21.2 0) else tsN t13.1 t21.1 (Model_isWrong_s t21.2 1))))) else tsN t13.1 0 (Model_isWrong_s t13.2 1))))
theorem fl_tsN {pos : Nat} {m : ModelV} (h : FL e a m0 pos m) (x y : Int32) : ∃ m', tsN x y m = some m' ∧ FL e a m0 pos m' := by
  obtain ⟨v, m', h1, h2⟩ := fl_figures h
  refine ⟨m', ?_, h2⟩
  unfold tsN
  rw [h1, m_bind_some, fl_emits h2, m_bind_some]
theorem pr_w0 {K pos : Nat} {L : List Nat} {r : ReaderV} {m : ModelV} (h : PR tp e a m0 T0 z γ f K pos L r m) : PR tp e a m0 T0 z γ f K pos L r (Model_isWrong_s m 0) := by
  obtain ⟨hs, h2, h3, h4, h5, h6, h7, h8⟩ := h
  exact ⟨hs, h2, h3, h4, h5, h6, rfl, h8⟩
theorem pr_w1 {K pos : Nat} {L : List Nat} {r : ReaderV} {m : ModelV} (h : PR tp e a m0 T0 z γ f K pos L r m) : FL e a m0 pos (Model_isWrong_s m 1) ∧ pos ≤ e ∧ Reader_place r = nI pos ∧ Reader_tape r = T0 := by
  obtain ⟨⟨s1, s2, s3, s4, s5, s6⟩, h2, h3, h4, h5, h6, h7, h8⟩ := h
  exact ⟨⟨rfl, h5, s3, s4, s5, s6⟩, h6, h4, s1⟩
theorem len0 : mSL.getD 0 0 = 6 := rfl
theorem len1 : mSL.getD 1 0 = 3 := rfl
theorem test_same (d : DT tp e a m0 T0) (hz : z.length ≤ 10) {o M : Nat} (hM : M < 20) : SAME tp e a m0 T0 z γ f o M tsC tsM := by
  intro K pos L r m h ho
  have he := d.1
  have hC0 := pr_one d h (x := 0) (Or.inl rfl)
  have hM0 := pr_among d h (x := 0) (by omega)
  unfold tsC tsM
  rcases wh_c (tp := tp) (e := e) (pos := pos) (x := 0) (by omega) with q | ⟨i, i1, i2, i3, i4⟩
  · rw [q, if_pos (by decide)] at hC0 hM0
    obtain ⟨g1, g2, g3, g4⟩ := pr_w1 h
    obtain ⟨m', k1, k2⟩ := fl_tsN g1 (-1) 0
    rw [hC0, hM0, m_bind_some, m_bind_some]
    show (∃ l pos' r' m', (if (0 : Int32) ≤ -1 then _ else _) = _ ∧ _) ∨ (∃ r' m', (if (0 : Int32) ≤ -1 then _ else some ((0 : Int32), r)) = some (0, r') ∧ (if ¬ (-1 : Int32) = -1 then _ else tsN (-1) 0 (Model_isWrong_s m 1)) = some m' ∧ _)
    rw [if_neg (show ¬ (0 : Int32) ≤ -1 by decide), if_neg (show ¬ ¬ (-1 : Int32) = -1 from fun w => w rfl), k1]
    exact Or.inr ⟨r, m', rfl, rfl, pos, g2, g3, g4, k2⟩
  · rw [len0] at i1
    rw [i2, if_neg (nI_pos (by omega))] at hC0 hM0
    have h1 := pr_w0 (pr_step h i4)
    have hC1 := pr_one d h1 (x := 1) (Or.inr (Or.inl rfl))
    have hM1 := pr_among d h1 (x := 1) (by omega)
    rw [hC0, hM0, m_bind_some, m_bind_some, if_pos (show (0 : Int32) ≤ nI i from nI_pos0 (by omega)), if_pos (show ¬ nI i = -1 from nI_nm1 (by omega))]
    rcases wh_c (tp := tp) (e := e) (pos := pos + 1) (x := 1) (by omega) with q | ⟨k, k1, k2, k3, k4⟩
    · rw [q, if_pos (by decide)] at hC1 hM1
      obtain ⟨g1, g2, g3, g4⟩ := pr_w1 h1
      obtain ⟨m', n1, n2⟩ := fl_tsN g1 (nI i) (-1)
      rw [hC1, hM1, m_bind_some, m_bind_some]
      show (∃ l pos' r' m', (if (-1 : Int32) < 0 then _ else _) = _ ∧ _) ∨ (∃ r' m', (if (-1 : Int32) < 0 then some ((0 : Int32), Reader_place_s r (nI (pos + 1))) else _) = some (0, r') ∧ (if ¬ (0 : Int32) = 0 then _ else (if ¬ (-1 : Int32) = -1 then _ else tsN (nI i) (-1) (Model_isWrong_s (Model_isWrong_s (Model_spot_s m (nI (pos + 1))) 0) 1))) = some m' ∧ _)
      rw [if_pos (show (-1 : Int32) < 0 by decide), if_neg n00, if_neg (show ¬ ¬ (-1 : Int32) = -1 from fun w => w rfl), n1]
      exact Or.inr ⟨_, m', rfl, rfl, pos + 1, g2, g3, g4, n2⟩
    · rw [len1] at k1
      rw [k2, if_neg (nI_pos (by omega))] at hC1 hM1
      have h2 := pr_w0 (pr_less (pr_step h1 k4))
      have ho2 : Model_open (Model_isWrong_s (Model_spot_s (Model_isWrong_s (Model_spot_s m (nI (pos + 1))) 0) (nI (pos + 1 + 1))) 0) = nI o := ho
      rw [hC1, hM1, m_bind_some, m_bind_some, if_neg (show ¬ nI k < 0 from nI_pos (by omega)), if_neg (show ¬ ¬ Model_isWrong (Model_spot_s (Model_isWrong_s (Model_spot_s m (nI (pos + 1))) 0) (nI (pos + 1 + 1))) = 0 from fun w => w rfl), if_pos (show ¬ nI k = -1 from nI_nm1 (by omega))]
      unfold tsN
      rcases pr_num d h2 with ⟨v, pos', r', m', v1, v2, v3, v4, v5, v6, v7⟩ | ⟨v, r', m', v1, v2, v3⟩
      · rw [v2, v3, m_bind_some, m_bind_some, if_pos n10, v4]
        obtain ⟨le3, m3, b1, b2, b3, b4⟩ := pr_emit d hz v5 (i + 8 * k + 32 * v + 3)
        have e1 : ((nI i * 3) + nI k) * 100 + nI v = tk_cls (i + 8 * k + 32 * v + 3) := by
          rw [show (3 : Int32) = nI 3 from rfl, show (100 : Int32) = nI 100 from rfl, pk_mul, nI_add, pk_mul, nI_add]
          show _ = nI ((((i + 8 * k + 32 * v) % 8) * 3 + (i + 8 * k + 32 * v) / 8 % 4) * 100 + (i + 8 * k + 32 * v) / 32)
          congr 1
          have a1 : (i + 8 * k + 32 * v) % 8 = i := by omega
          have a2 : (i + 8 * k + 32 * v) / 8 % 4 = k := by omega
          have a3 : (i + 8 * k + 32 * v) / 32 = v := by omega
          rw [a1, a2, a3]
        have e2 : (nI i + 8 * nI k) + 32 * nI v = tk_ref (i + 8 * k + 32 * v + 3) := by
          rw [show (8 : Int32) = nI 8 from rfl, show (32 : Int32) = nI 32 from rfl, pk_mul, pk_mul, nI_add, nI_add]
          rfl
        unfold fn_X3_addTest
        refine Or.inl ⟨[i + 8 * k + 32 * v + 3], pos', Reader_lesson_s r' le3, m3, ?_, ?_, b3, (b4.trans v6).trans ho2, by omega, dep_test hM (by omega) (by omega) (by omega)⟩
        · show Option.bind (Option.bind (fn_X3_addCode (Reader_lesson r') (((nI i * 3) + nI k) * 100 + nI v)) (fun t1 => some t1)) (fun t7 => some ((1 : Int32), Reader_lesson_s r' t7)) = _
          rw [e1, b1, m_bind_some, m_bind_some]
        · show Option.bind (fn_X8_emits m' ((nI i + 8 * nI k) + 32 * nI v)) (fun t17 => some t17) = _
          rw [e2, b2, m_bind_some]
      · rw [v1, v2, m_bind_some, m_bind_some, if_neg n00]
        obtain ⟨p', f0, f1, f2, f3⟩ := v3
        refine Or.inr ⟨r', m', rfl, ?_, p', f0, f1, f2, f3⟩
        show Option.bind (fn_X8_emits m' _) (fun t17 => some t17) = _
        rw [fl_emits f3, m_bind_some]
theorem cur_wh {pos : Nat} (c : Nat) (h : cur tp e pos = nI c) (hc : c = 33 ∨ c = 40) : wh 0 tp e pos = -1 := by
  unfold wh
  rw [h]
  rcases hc with rfl | rfl <;> rfl
theorem tsC_no (d : DT tp e a m0 T0) {K pos : Nat} {L : List Nat} {r : ReaderV} {m : ModelV} (h : PR tp e a m0 T0 z γ f K pos L r m) (hw : wh 0 tp e pos = -1) : tsC r = some (0, r) := by
  have hC0 := pr_one d h (x := 0) (Or.inl rfl)
  rw [hw, if_pos (by decide)] at hC0
  unfold tsC
  rw [hC0, m_bind_some]
  show (if (0 : Int32) ≤ -1 then _ else some ((0 : Int32), r)) = _
  rw [if_neg (by decide)]
theorem readPart_eq (re rp : ReaderV → Int32 → Option (Int32 × ReaderV)) (r : ReaderV) (o : Nat) (ho : o < 2 ^ 31) : bd_X4_readPart re rp r (nI o) = if 5 ≤ o then tsC r else (Option.bind (fn_X4_take r 33) (fun t16 => (if t16.1 = 0 then (Option.bind (fn_X4_take t16.2 40) (fun t9 => (if t9.1 = 0 then tsC t9.2 else (Option.bind (re t9.2 (nI (o + 1))) (fun t11 => (if t11.1 = 0 then some (0, t11.2) else (Option.bind (fn_X4_take t11.2 41) (fun t13 => (if t13.1 = 0 then some (0, t13.2) else some (1, t13.2)))))))))) else (Option.bind (rp t16.2 (nI (o + 1))) (fun t18 => (if ¬ t18.1 = 0 then (Option.bind (fn_X3_addCode (Reader_lesson t18.2) (-1)) (fun t20 => some (1, (Reader_lesson_s t18.2 t20)))) else some (0, t18.2))))))) := by
  unfold bd_X4_readPart
  simp only [m_jp_eq]
  by_cases q : 5 ≤ o
  · rw [if_pos q]
    have q2 : (5 : Int32) ≤ nI o := nI_le (a := 5) q ho
    rw [if_pos q2, if_pos q2]
    rfl
  · rw [if_neg q]
    have q2 : ¬ (5 : Int32) ≤ nI o := nI_ge (b := 5) (by omega) (by omega)
    simp only [if_neg q2, ← nI_succ]
    rfl
theorem factor_eq (fb ev so : ModelV → Option ModelV) {K pos : Nat} {L : List Nat} {r : ReaderV} {m : ModelV} (d : DT tp e a m0 T0) (h : PR tp e a m0 T0 z γ f K pos L r m) {o : Nat} (ho : Model_open m = nI o) (ho5 : o ≤ 5) : bd_X8_factor fb ev so m = if cur tp e pos = nI 33 ∨ cur tp e pos = nI 40 then (Option.bind (if cur tp e pos = nI 33 then (Option.bind (fb (if o = 5 then Model_open_s (Model_isWrong_s m 1) (nI 6) else Model_open_s (Model_isWrong_s (Model_spot_s m (nI (pos + 1))) 0) (nI (o + 1)))) (fun t7 => (Option.bind (fn_X8_emits t7 (-1)) (fun t8 => some t8)))) else (Option.bind (so (if o = 5 then Model_open_s (Model_isWrong_s m 1) (nI 6) else Model_open_s (Model_isWrong_s (Model_spot_s m (nI (pos + 1))) 0) (nI (o + 1)))) (fun t5 => (Option.bind (fn_X8_must t5 41) (fun t6 => some t6))))) (fun w => some (Model_open_s w ((Model_open w) - 1)))) else tsM m := by
  have hw : Model_isWrong m = 0 := h.2.2.2.2.2.2.1
  have hsp : Model_spot m = nI pos := h.2.2.2.2.1
  have hO : ∀ x, Model_open_s (Model_isWrong_s (Model_spot_s m (Model_spot m + x)) (if o = 5 then 1 else 0)) (Model_open m + 1) = Model_open_s (Model_isWrong_s (Model_spot_s m (nI pos + x)) (if o = 5 then 1 else 0)) (nI (o + 1)) := fun x => by rw [hsp, ho, nI_1]
  have hm5 : Model_open_s (Model_isWrong_s (Model_spot_s m (Model_spot m + 0)) 1) (Model_open m + 1) = Model_open_s (Model_isWrong_s m 1) (Model_open m + 1) := by rw [Int32.add_zero]
  unfold bd_X8_factor tsM tsN
  rw [hw, if_pos n0, pr_here d h, m_bind_some]
  simp only [m_jp_eq]
  have hr : ∀ (X : ModelV → Option ModelV), (if ¬ Model_open m = 5 then (if mBit 0 = true then (if (0 : Int32) = 0 then X (Model_open_s (Model_isWrong_s (Model_spot_s m (Model_spot m + 1)) 0) (Model_open m + 1)) else X (Model_open_s (Model_isWrong_s (Model_spot_s m (Model_spot m + 0)) 0) (Model_open m + 1))) else none) else (if mBit 1 = true then (if (1 : Int32) = 0 then X (Model_open_s (Model_isWrong_s (Model_spot_s m (Model_spot m + 1)) 1) (Model_open m + 1)) else X (Model_open_s (Model_isWrong_s (Model_spot_s m (Model_spot m + 0)) 1) (Model_open m + 1))) else none)) = X (if o = 5 then Model_open_s (Model_isWrong_s m 1) (nI 6) else Model_open_s (Model_isWrong_s (Model_spot_s m (nI (pos + 1))) 0) (nI (o + 1))) := fun X => by
    rw [if_pos (show mBit 0 = true by decide), if_pos (show mBit 1 = true by decide), if_pos n0, if_neg n10, hm5, hsp, ho, nI_1, nI_1]
    by_cases q : o = 5
    · subst q
      rw [if_neg (show ¬ ¬ nI 5 = 5 from fun w => w rfl), if_pos rfl]
    · rw [if_pos (show ¬ nI o = 5 from fun w => q ((nI_eq (b := 5) (by omega) (by omega)).mp w)), if_neg q]
  by_cases q1 : cur tp e pos = nI 33
  · rw [if_pos (Or.inl q1), if_pos q1, if_pos (show cur tp e pos = 33 from q1)]
    refine (hr (fun w => (if ¬ cur tp e pos = 33 then (Option.bind (so w) (fun t5 => (Option.bind (fn_X8_must t5 41) (fun t6 => some (Model_open_s t6 ((Model_open t6) - 1)))))) else (Option.bind (fb w) (fun t7 => (Option.bind (fn_X8_emits t7 (-1)) (fun t8 => some (Model_open_s t8 ((Model_open t8) - 1))))))))).trans ?_
    rw [if_neg (show ¬ ¬ cur tp e pos = 33 from fun w => w q1)]
    cases fb (if o = 5 then Model_open_s (Model_isWrong_s m 1) (nI 6) else Model_open_s (Model_isWrong_s (Model_spot_s m (nI (pos + 1))) 0) (nI (o + 1))) with
    | none => rfl
    | some w =>
      show Option.bind (fn_X8_emits w (-1)) _ = Option.bind (Option.bind (fn_X8_emits w (-1)) _) _
      cases fn_X8_emits w (-1) <;> rfl
  · by_cases q2 : cur tp e pos = nI 40
    · rw [if_pos (Or.inr q2), if_neg q1, if_neg (show ¬ cur tp e pos = 33 from q1), if_neg (show ¬ ¬ cur tp e pos = 40 from fun w => w q2)]
      refine (hr (fun w => (if ¬ cur tp e pos = 33 then (Option.bind (so w) (fun t5 => (Option.bind (fn_X8_must t5 41) (fun t6 => some (Model_open_s t6 ((Model_open t6) - 1)))))) else (Option.bind (fb w) (fun t7 => (Option.bind (fn_X8_emits t7 (-1)) (fun t8 => some (Model_open_s t8 ((Model_open t8) - 1))))))))).trans ?_
      rw [if_pos (show ¬ cur tp e pos = 33 from q1)]
      cases so (if o = 5 then Model_open_s (Model_isWrong_s m 1) (nI 6) else Model_open_s (Model_isWrong_s (Model_spot_s m (nI (pos + 1))) 0) (nI (o + 1))) with
      | none => rfl
      | some w =>
        show Option.bind (fn_X8_must w 41) _ = Option.bind (Option.bind (fn_X8_must w 41) _) _
        cases fn_X8_must w 41 <;> rfl
    · rw [if_neg (show ¬ (cur tp e pos = nI 33 ∨ cur tp e pos = nI 40) from fun w => w.elim q1 q2), if_neg (show ¬ cur tp e pos = 33 from q1), if_pos (show ¬ cur tp e pos = 40 from q2)]
      simp only [show mBit 0 = true by decide, show mBit 1 = true by decide, if_true, n10, if_false, eq_self]
      cases fn_X8_among m 0 with
      | none => rfl
      | some t =>
        rw [m_bind_some, m_bind_some]
        by_cases q3 : t.1 = -1
        · rw [if_neg (show ¬ ¬ t.1 = -1 from fun w => w q3), if_neg (show ¬ ¬ t.1 = -1 from fun w => w q3), if_pos (show ¬ Model_isWrong (Model_isWrong_s t.2 1) = 0 from n10)]
        · rw [if_pos (show ¬ t.1 = -1 from q3), if_pos (show ¬ t.1 = -1 from q3)]
theorem pr_o {K pos : Nat} {L : List Nat} {r : ReaderV} {m : ModelV} (h : PR tp e a m0 T0 z γ f K pos L r m) (x : Int32) : PR tp e a m0 T0 z γ f K pos L r (Model_open_s m x) := h
theorem fl_o {pos : Nat} {m : ModelV} (h : FL e a m0 pos m) (x : Int32) : FL e a m0 pos (Model_open_s m x) := h
/-- a factor: the class's and the reference's do the same -/
theorem factor_same (d : DT tp e a m0 T0) (hz : z.length ≤ 10) : ∀ n o, o + n = 5 → ∀ c dM, 2 * n + 1 ≤ c → 3 * n + 4 ≤ dM → SAME tp e a m0 T0 z γ f o (2 * o + 2) (fun r => fn_X4_readPart c r (nI o)) (fn_X8_factor dM) := by
  intro n
  induction n with
  | zero =>
    intro o ho c dM hc hdM K pos L r m h hop
    have ho5 : o = 5 := by omega
    subst ho5
    obtain ⟨c, rfl⟩ : ∃ c', c = c' + 1 := ⟨c - 1, by omega⟩
    obtain ⟨dM, rfl⟩ : ∃ c', dM = c' + 3 + 1 := ⟨dM - 4, by omega⟩
    have eC : fn_X4_readPart (c + 1) r (nI 5) = tsC r := by
      show bd_X4_readPart (gr_Rd c).1 (gr_Rd c).2 r (nI 5) = _
      rw [readPart_eq _ _ r 5 (by omega), if_pos (by omega)]
    have eM := factor_eq (gr_Fa (dM + 3)).1 (gr_Fa (dM + 3)).2.1 (gr_Fa (dM + 3)).2.2 d h hop (by omega)
    have eM' : fn_X8_factor (dM + 3 + 1) m = _ := eM
    show (∃ l pos' r' m', fn_X4_readPart (c + 1) r (nI 5) = _ ∧ fn_X8_factor (dM + 3 + 1) m = _ ∧ _) ∨ (∃ r' m', fn_X4_readPart (c + 1) r (nI 5) = _ ∧ fn_X8_factor (dM + 3 + 1) m = _ ∧ _)
    rw [eC, eM']
    obtain ⟨g1, g2, g3, g4⟩ := pr_w1 h
    have g1' : FL e a m0 pos (Model_open_s (Model_isWrong_s m 1) (nI 6)) := g1
    by_cases q1 : cur tp e pos = nI 33
    · rw [if_pos (Or.inl q1), if_pos q1, if_pos rfl, tsC_no d h (cur_wh 33 q1 (Or.inl rfl))]
      have hf : (gr_Fa (dM + 3)).1 (Model_open_s (Model_isWrong_s m 1) (nI 6)) = some _ := fl_factor g1' (dM + 2)
      rw [hf, m_bind_some, fl_emits g1', m_bind_some, m_bind_some]
      exact Or.inr ⟨r, _, rfl, rfl, pos, g2, g3, g4, fl_o g1' _⟩
    · by_cases q2 : cur tp e pos = nI 40
      · rw [if_pos (Or.inr q2), if_neg q1, if_pos rfl, tsC_no d h (cur_wh 40 q2 (Or.inr rfl))]
        have hf : (gr_Fa (dM + 3)).2.2 (Model_open_s (Model_isWrong_s m 1) (nI 6)) = some _ := fl_someD g1' dM
        obtain ⟨m', k1, k2⟩ := fl_must g1' 41
        rw [hf, m_bind_some, k1, m_bind_some, m_bind_some]
        exact Or.inr ⟨r, _, rfl, rfl, pos, g2, g3, g4, fl_o k2 _⟩
      · rw [if_neg (fun w => w.elim q1 q2)]
        exact test_same d hz (M := 2 * 5 + 2) (by omega) K pos L r m h hop
  | succ n ih =>
    intro o ho c dM hc hdM K pos L r m h hop
    obtain ⟨c, rfl⟩ : ∃ c', c = c' + 1 + 1 := ⟨c - 2, by omega⟩
    obtain ⟨dM, rfl⟩ : ∃ c', dM = c' + 2 + 1 := ⟨dM - 3, by omega⟩
    have eC : fn_X4_readPart (c + 1 + 1) r (nI o) = _ := readPart_eq (gr_Rd (c + 1)).1 (gr_Rd (c + 1)).2 r o (by omega)
    rw [if_neg (show ¬ 5 ≤ o by omega)] at eC
    have eM' : fn_X8_factor (dM + 2 + 1) m = _ := factor_eq (gr_Fa (dM + 2)).1 (gr_Fa (dM + 2)).2.1 (gr_Fa (dM + 2)).2.2 d h hop (by omega)
    rw [show (33 : Int32) = nI 33 from rfl, pr_take d h 33 (by omega)] at eC
    rw [if_neg (show ¬ o = 5 by omega)] at eM'
    show (∃ l pos' r' m', fn_X4_readPart (c + 1 + 1) r (nI o) = _ ∧ fn_X8_factor (dM + 2 + 1) m = _ ∧ _) ∨ (∃ r' m', fn_X4_readPart (c + 1 + 1) r (nI o) = _ ∧ fn_X8_factor (dM + 2 + 1) m = _ ∧ _)
    rw [eC, eM']
    have hop1 : ∀ w : ModelV, Model_open w = nI (o + 1) → Model_open w - 1 = nI o := fun w hw => by rw [hw, nI_pred]
    by_cases q1 : cur tp e pos = nI 33
    · rw [if_pos q1, m_bind_some, if_neg n10, if_pos (Or.inl q1), if_pos q1]
      have h1 : PR tp e a m0 T0 z γ f (K + 1) (pos + 1) L (Reader_place_s r (nI (pos + 1))) (Model_open_s (Model_isWrong_s (Model_spot_s m (nI (pos + 1))) 0) (nI (o + 1))) := pr_o (pr_w0 (pr_step h (cur_lt q1 (by omega)))) _
      rcases ih (o + 1) (by omega) (c + 1) (dM + 2) (by omega) (by omega) (K + 1) (pos + 1) L _ _ h1 rfl with ⟨l, pos', r', m', a1, a2, a3, a4, a5, a6⟩ | ⟨r', m', a1, a2, a3⟩
      · have a1' : (gr_Rd (c + 1)).2 (Reader_place_s r (nI (pos + 1))) (nI (o + 1)) = some (1, r') := a1
        have a2' : (gr_Fa (dM + 2)).1 (Model_open_s (Model_isWrong_s (Model_spot_s m (nI (pos + 1))) 0) (nI (o + 1))) = some m' := a2
        obtain ⟨le3, m3, b1, b2, b3, b4⟩ := pr_emit d hz a3 0
        have b1' : fn_X3_addCode (Reader_lesson r') (-1) = some le3 := b1
        have b2' : fn_X8_emits m' (-1) = some m3 := b2
        rw [a1', a2', m_bind_some, m_bind_some, if_pos n10, b1', b2', m_bind_some, m_bind_some, m_bind_some]
        refine Or.inl ⟨l ++ [0], pos', _, _, rfl, rfl, pr_o (by rw [← List.append_assoc]; exact b3) _, hop1 m3 (b4.trans a4), by omega, dep_less (dep_not a6) (by omega)⟩
      · have a1' : (gr_Rd (c + 1)).2 (Reader_place_s r (nI (pos + 1))) (nI (o + 1)) = some (0, r') := a1
        have a2' : (gr_Fa (dM + 2)).1 (Model_open_s (Model_isWrong_s (Model_spot_s m (nI (pos + 1))) 0) (nI (o + 1))) = some m' := a2
        obtain ⟨p', f0, f1, f2, f3⟩ := a3
        rw [a1', a2', m_bind_some, m_bind_some, if_neg n00, fl_emits f3, m_bind_some, m_bind_some]
        exact Or.inr ⟨r', _, rfl, rfl, p', f0, f1, f2, fl_o f3 _⟩
    · rw [if_neg q1, m_bind_some, if_pos n0]
      show (∃ l pos' r' m', (Option.bind (fn_X4_take r 40) _) = _ ∧ _) ∨ (∃ r' m', (Option.bind (fn_X4_take r 40) _) = _ ∧ _)
      rw [show (40 : Int32) = nI 40 from rfl, pr_take d h 40 (by omega)]
      by_cases q2 : cur tp e pos = nI 40
      · rw [if_pos q2, m_bind_some, if_neg n10, if_pos (Or.inr q2), if_neg q1]
        have h1 : PR tp e a m0 T0 z γ f (K + 1) (pos + 1) L (Reader_place_s r (nI (pos + 1))) (Model_open_s (Model_isWrong_s (Model_spot_s m (nI (pos + 1))) 0) (nI (o + 1))) := pr_o (pr_w0 (pr_step h (cur_lt q2 (by omega)))) _
        have hS := some_all d hz (o := o + 1) (M := 2 * (o + 1)) (rp := (gr_Rd c).2) (re := (gr_Rd c).1) (fa := (gr_Fa dM).1) (ev := (gr_Fa dM).2.1) (so := (gr_Fa dM).2.2) (fb := (gr_Fa (dM + 1)).1) (eb := (gr_Fa (dM + 1)).2.2) (ih (o + 1) (by omega) c dM (by omega) (by omega))
        rcases hS (K + 1) (pos + 1) L _ _ h1 rfl with ⟨l, pos', r', m', a1, a2, a3, a4, a5, a6⟩ | ⟨r', m', a1, a2, a3⟩
        · have a1' : (gr_Rd (c + 1)).1 (Reader_place_s r (nI (pos + 1))) (nI (o + 1)) = some (1, r') := a1
          have a2' : (gr_Fa (dM + 2)).2.2 (Model_open_s (Model_isWrong_s (Model_spot_s m (nI (pos + 1))) 0) (nI (o + 1))) = some m' := a2
          rw [a1', a2', m_bind_some, m_bind_some, if_neg n10]
          show (∃ l pos' r'' m', (Option.bind (fn_X4_take r' 41) _) = _ ∧ _) ∨ (∃ r'' m', (Option.bind (fn_X4_take r' 41) _) = _ ∧ _)
          rw [show (41 : Int32) = nI 41 from rfl, pr_take d a3 41 (by omega)]
          rcases pr_must d a3 41 (by omega) with ⟨q3, m3, b1, b2, b3⟩ | ⟨q3, m3, b1, b2⟩
          · rw [if_pos q3, m_bind_some, if_neg n10, b1, m_bind_some, m_bind_some]
            exact Or.inl ⟨l, pos' + 1, _, _, rfl, rfl, pr_o (pr_less (pr_less b2)) _, hop1 m3 (b3.trans a4), by omega, dep_less a6 (by omega)⟩
          · rw [if_neg q3, m_bind_some, if_pos n0, b1, m_bind_some, m_bind_some]
            obtain ⟨p', f0, f1, f2, f3⟩ := b2
            exact Or.inr ⟨r', _, rfl, rfl, p', f0, f1, f2, fl_o f3 _⟩
        · have a1' : (gr_Rd (c + 1)).1 (Reader_place_s r (nI (pos + 1))) (nI (o + 1)) = some (0, r') := a1
          have a2' : (gr_Fa (dM + 2)).2.2 (Model_open_s (Model_isWrong_s (Model_spot_s m (nI (pos + 1))) 0) (nI (o + 1))) = some m' := a2
          obtain ⟨p', f0, f1, f2, f3⟩ := a3
          obtain ⟨m3, b1, b2⟩ := fl_must f3 41
          rw [a1', a2', m_bind_some, m_bind_some, if_pos n0, b1, m_bind_some, m_bind_some]
          exact Or.inr ⟨r', _, rfl, rfl, p', f0, f1, f2, fl_o b2 _⟩
      · rw [if_neg q2, m_bind_some, if_pos n0, if_neg (fun w => w.elim q1 q2)]
        exact test_same d hz (M := 2 * o + 2) (by omega) K pos L r m h hop
end FA
