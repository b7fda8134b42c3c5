/-! The reference's zeal and what one does. -/
/-- the class that holds, in the reference's row: its clauses, GOAL as told, FAIR -/
def lh (s : Nat → Int32) (z : LZ) (G F : Int32) : Prop := (s 26 = -1 ∧ z = [] ∧ G = 60 ∧ F = 2) ∨ ∃ a, a < 5 ∧ s 26 = nI a ∧ lm_in s a z ∧ s (211 + a) = G ∧ s (216 + a) = F
theorem lz_len (z : LZ) : (lz_steps z).length = lc_len (lz_c z) + z.length := by
  induction z with
  | nil => rfl
  | cons q z ih =>
    rw [lz_steps_cons, List.length_append, List.length_append, List.length_map, ih]
    show q.1.length + (1 + (lc_len (lz_c z) + z.length)) = (q.1.length :: (lz_c z).map (fun q => q.1.length)).sum + (z.length + 1)
    rw [List.sum_cons]
    show q.1.length + (1 + (lc_len (lz_c z) + z.length)) = q.1.length + lc_len (lz_c z) + (z.length + 1)
    omega
theorem lz_c_len (z : LZ) : (lz_c z).length = z.length := List.length_map ..
theorem lz_small {z : LZ} (h : lz_ok z) : (lz_steps z).length ≤ 110 := by
  have h1 := h.1.1
  have h2 := h.1.2.1
  rw [lz_c_len] at h1
  rw [lz_len]
  omega
theorem lz_each {z : LZ} (h : lz_ok z) : ∀ q ∈ z, (∀ t ∈ q.1, tk_ok t) ∧ tk_dep q.1 0 = some 1 ∧ q.2.2 < 100 := fun q hq => by
  have h1 := h.1.2.2 (q.1, lz_w q) (List.mem_map.mpr ⟨q, hq, rfl⟩)
  exact ⟨h1.1, h1.2, h.2 q hq⟩
theorem lm_same {s s' : Nat → Int32} {a : Nat} {z : LZ} (h : lm_in s a z) (he : ∀ j, 221 ≤ j → s' j = s j) : lm_in s' a z := ⟨by rw [he _ (by omega)]; exact h.1, fun j hj => by rw [he _ (by omega)]; exact h.2 j hj⟩
theorem lh_same {s s' : Nat → Int32} {z : LZ} {G F : Int32} (h : lh s z G F) (he : ∀ j, 20 ≤ j → s' j = s j) : lh s' z G F := by
  rcases h with ⟨h1, h2⟩ | ⟨a, ha, h1, h2, h3, h4⟩
  · exact Or.inl ⟨by rw [he _ (by omega)]; exact h1, h2⟩
  · exact Or.inr ⟨a, ha, by rw [he _ (by omega)]; exact h1, lm_same h2 (fun j hj => he j (by omega)), by rw [he _ (by omega)]; exact h3, by rw [he _ (by omega)]; exact h4⟩
/-- scratch rows apart -/
def ms (m m' : ModelV) : Prop := ∃ b t, m' = Model_truths_s (Model_by_s m b) t
theorem ms_refl (m : ModelV) : ms m m := ⟨Model_by m, Model_truths m, rfl⟩
theorem nI_b {a : Nat} : nI (226 + 140 * a) = 226 + 140 * nI a := by
  rw [← nI_add, ← pk_mul]
  rfl
theorem nI_nm1 {a : Nat} (h : a < 1000) : ¬ nI a = -1 := fun q => nI_pos (n := a) (by omega) (by rw [q]; decide)
section ZL
variable {m : ModelV} {z : LZ} {G F : Int32} {n p : Nat}
theorem x8_tells (x e : Int32) : fn_X8_tellsOf m x e = if Model_s m 26 = -1 then some e else if mIn (x + Model_s m 26) 926 = true then some (Model_s m (x + Model_s m 26).toNatClampNeg) else none := by
  unfold fn_X8_tellsOf
  rw [q_c26, if_pos q_j26, if_pos q_j26]
  by_cases h : Model_s m 26 = -1
  · rw [if_neg (fun q => q h), if_pos h]
  · rw [if_pos h, if_neg h]
theorem x8_fair (hl : lh (Model_s m) z G F) : fn_X8_tellsOf m 216 2 = some F := by
  rw [x8_tells]
  rcases hl with ⟨h1, _, _, h2⟩ | ⟨a, ha, h1, h2, h3, h4⟩
  · rw [if_pos h1, h2]
  · rw [h1, if_neg (nI_nm1 (by omega)), if_pos (q_i216 (by omega)), q_a216 (by omega), h4]
theorem x8_goal (hl : lh (Model_s m) z G F) : fn_X8_tellsOf m 211 60 = some G := by
  rw [x8_tells]
  rcases hl with ⟨h1, _, h2, _⟩ | ⟨a, ha, h1, h2, h3, h4⟩
  · rw [if_pos h1, h2]
  · rw [h1, if_neg (nI_nm1 (by omega)), if_pos (q_i211 (by omega)), q_a211 (by omega), h3]
theorem x8_goalNow (hl : lh (Model_s m) z G F) : fn_X8_goalNow m = some (w_in G 1 99) := by
  unfold fn_X8_goalNow
  rw [x8_goal hl, m_bind_some, x8_within, m_bind_some]
theorem x8_many (hl : lh (Model_s m) z G F) : fn_X8_tellsOf m 221 0 = some (nI (lz_steps z).length) := by
  rw [x8_tells]
  rcases hl with ⟨h1, h2, _, _⟩ | ⟨a, ha, h1, h2, h3, h4⟩
  · rw [if_pos h1, h2]
    rfl
  · rw [h1, if_neg (nI_nm1 (by omega)), if_pos (q_i221 (by omega)), q_a221 (by omega), h2.1]
theorem x8_looks (hp : p < 6) (hl : lh (Model_s m) z G F) (hz : lz_ok z) : ∃ m', fn_X8_looks m (nI p) = some (sp_from (sv (Model_s m)) p 0 (lz_c z), m') ∧ ms m m' := by
  have hsm := lz_small hz
  unfold fn_X8_looks
  simp (disch := omega) only [q_b0, q_b1, q_b2, q_b3, q_b4, q_b5, q_i27, q_i33, q_i39, q_i2, q_j0, q_j26, q_tt, if_true]
  generalize hB : upd (upd (upd (upd (upd (upd (Model_by m) (Int32.toNatClampNeg 0) (nI p)) (Int32.toNatClampNeg 1) (Model_s m (27 + nI p).toNatClampNeg)) (Int32.toNatClampNeg 2) (Model_s m (33 + nI p).toNatClampNeg)) (Int32.toNatClampNeg 3) (Model_s m (39 + nI p).toNatClampNeg)) (Int32.toNatClampNeg 4) (Model_s m (2 + nI p).toNatClampNeg / 10)) (Int32.toNatClampNeg 5) (mRem (Model_s m (Int32.toNatClampNeg 0)) 10) = B
  have hby : ∀ w, w < 6 → Model_by (Model_by_s m B) w = tk_sub (sv (Model_s m)) p w := by
    intro w hw
    show B w = _
    rw [← hB, q_c0, q_c1, q_c2, q_c3, q_c4, q_c5, q_a27 (by omega), q_a33 (by omega), q_a39 (by omega), q_a2 (by omega)]
    match w, hw with
    | 0, _ => rfl
    | 1, _ => rfl
    | 2, _ => rfl
    | 3, _ => rfl
    | 4, _ => rfl
    | 5, _ => rfl
    | w + 6, h => omega
  have hl' : lh (Model_s (Model_by_s m B)) z G F := hl
  rw [x8_many hl', m_bind_some]
  obtain ⟨a, e1, e2, e3⟩ : ∃ a, 226 + 140 * Model_s m (Int32.toNatClampNeg 26) = nI a ∧ a + (lz_steps z).length ≤ 926 ∧ ∀ j, j < (lz_steps z).length → Model_s (Model_by_s m B) (a + j) = (lz_steps z).getD j 0 := by
    rw [q_c26]
    rcases hl with ⟨h1, h2, _, _⟩ | ⟨a, ha, h1, h2, h3, h4⟩
    · subst h2
      exact ⟨86, by rw [h1]; decide, by simp [lz_steps], fun j hj => absurd hj (by simp [lz_steps])⟩
    · exact ⟨226 + 140 * a, by rw [h1, nI_b], by omega, fun j hj => h2.2 j hj⟩
  have hlim : (226 + (140 * ((Model_s m) (26 : Int32).toNatClampNeg))) + nI (lz_steps z).length = nI (a + (lz_steps z).length) := by rw [e1, nI_add]
  obtain ⟨tr', h⟩ := x8_outer (v := m) (m := Model_by_s m B) (t12 := nI (lz_steps z).length) hlim e2 hby z a (1999 - (lz_steps z).length) 0 (Model_truths m) (lz_each hz) rfl e3
  refine ⟨_, ?_, B, tr', rfl⟩
  rw [e1, m_N_val, show 2000 = 1999 - (lz_steps z).length + 1 + (lz_steps z).length by omega]
  exact h
theorem sp_from_add (g : GroupV) (p : Nat) (c : LC) : ∀ a b, sp_from g p (a + b) c = a + sp_from g p b c := by
  induction c with
  | nil => intro a b; rfl
  | cons q c ih =>
    intro a b
    show sp_from g p (if sp_holds g p q.1 = true then a + b + q.2 else a + b) c = a + sp_from g p (if sp_holds g p q.1 = true then b + q.2 else b) c
    by_cases h : sp_holds g p q.1 = true
    · rw [if_pos h, if_pos h, Int32.add_assoc, ih]
    · rw [if_neg h, if_neg h, ih]
theorem mMax_0 (y : Int32) : mMax 0 y = if 0 ≤ y then y else 0 := by
  unfold mMax
  by_cases h : (0 : Int32) < y
  · rw [if_pos h, if_pos (Int32.le_of_lt h)]
  · rw [if_neg h]
    by_cases h2 : (0 : Int32) ≤ y
    · rw [if_pos h2]
      exact Int32.le_antisymm h2 (Int32.not_lt.mp h)
    · rw [if_neg h2]
theorem x8_zealOf (hp : p < 6) (hl : lh (Model_s m) z G F) (hz : lz_ok z) : ∃ m', fn_X8_zealOf m (nI p) = some (sp_zeal (lz_c z) (sv (Model_s m)) p, m') ∧ ms m m' := by
  obtain ⟨m', h1, h2⟩ := x8_looks hp hl hz
  refine ⟨m', ?_, h2⟩
  unfold fn_X8_zealOf sp_zeal
  rw [h1, m_bind_some, mMax_0, show (5 : Int32) = 5 + 0 from rfl, sp_from_add, Int32.add_zero]
  split <;> rfl
theorem w_does {x w : Int32} (hw : 0 ≤ w) : w_in x 0 w = mMax 0 (mMin x w) := by
  rw [mMax_0]
  unfold w_in mMin
  by_cases h : (0 : Int32) ≤ x
  · by_cases h2 : x ≤ w
    · rw [if_pos h, if_pos h2, if_neg (Int32.not_lt.mpr h2), if_pos h]
    · rw [if_pos h, if_neg h2, if_pos (Int32.not_le.mp h2), if_pos hw]
  · rw [if_neg h]
    have h3 : ¬ w < x := fun q => h (Int32.le_trans hw (Int32.le_of_lt q))
    rw [if_neg h3, if_neg h]
theorem x8_doesOf (hs : Model_s m 20 = nI n) (hn : n ≤ 6) (hp : p < n) (hw : ∃ w, Model_s m 0 = nI w ∧ w < 20000) (hl : lh (Model_s m) z G F) (hz : lz_ok z) (ho : Model_s m (14 + p) = 0 ∨ Model_s m (14 + p) = 1) (hwl : 0 ≤ Model_s m (8 + p)) : ∃ m', fn_X8_doesOf m (nI p) = some (sp_does n (lz_c z) (sv (Model_s m)) p, m') ∧ ms m m' := by
  obtain ⟨m', h1, b, t, rfl⟩ := x8_zealOf (p := p) (by omega) hl hz
  obtain ⟨w, hw, hwl2⟩ := hw
  have e1 : mRem (Model_s m 0) 4 = nI (w % 4) := by
    rw [hw]
    exact pk_rem (d := 4) (by omega) (by omega) (by omega)
  have e2 : 4 * nI p = nI (4 * p) := pk_mul 4 p
  have e3 : (45 + nI (4 * p)) + nI (w % 4) = nI (45 + (4 * p + w % 4)) := by
    rw [show (45 : Int32) = nI 45 from rfl, nI_add, nI_add, Nat.add_assoc]
  have e4 : sp_rown (sv (Model_s m)) p = Model_s m (45 + (4 * p + w % 4)) := by
    show Model_s m (45 + (nI (4 * p) + mRem (Model_s m 0) 4).toNatClampNeg) = _
    rw [e1, nI_add, nI_clamp (by omega)]
  unfold fn_X8_doesOf sp_does
  rw [if_pos (q_i14 (by omega)), q_a14 (by omega)]
  show ∃ m', (if ¬ Model_s m (14 + p) = 1 then _ else _) = some (if Model_s m (14 + p) = 0 then _ else 0, m') ∧ _
  rcases ho with ho | ho
  · rw [if_pos (by rw [ho]; decide), if_pos ho, h1, m_bind_some, if_pos (q_i27 (by omega)), m_jp_eq, if_pos (q_i33 (by omega)), q_a27 (by omega), q_a33 (by omega), q_a8 (by omega), q_c0, q_c20, if_pos q_j20, if_pos q_j0]
    refine ⟨_, ?_, b, t, rfl⟩
    have hA : fn_X8_manyIn (Model_truths_s (Model_by_s m b) t) = some (sp_cnt n (sv (Model_s m))) := x8_manyIn (m := Model_truths_s (Model_by_s m b) t) hs hn
    have hB : fn_X8_moreSkilled (Model_truths_s (Model_by_s m b) t) (nI p) = some (sp_better n (sv (Model_s m)) p) := x8_moreSkilled (m := Model_truths_s (Model_by_s m b) t) hs hn hp
    rw [hA, hB]
    simp only [m_bind_some, x8_within, q_i8 (show 8 + p < 926 by omega), q_i33 (show 33 + p < 926 by omega), if_true]
    show (if Model_s m (27 + p) = 1 then _ else if Model_s m (27 + p) = 2 then _ else if Model_s m (27 + p) = 3 then _ else if Model_s m (27 + p) = 4 then _ else if Model_s m (27 + p) = 5 then _ else if Model_s m (27 + p) = 6 then (if mIn ((45 + 4 * nI p) + mRem (Model_s m 0) 4) 926 = true then _ else _) else _) = some (mMax 0 (mMin (sp_wish n (lz_c z) (sv (Model_s m)) p) (Model_s m (8 + p))), _)
    rw [← w_does hwl, e2, e1, e3, if_pos (mIn_nI (by omega) (by omega)), nI_clamp (by omega)]
    unfold sp_wish
    rw [e4]
    show _ = some (w_in (if Model_s m (27 + p) = 1 then _ else if Model_s m (27 + p) = 2 then _ else if Model_s m (27 + p) = 3 then _ else if Model_s m (27 + p) = 4 then _ else if Model_s m (27 + p) = 5 then _ else if Model_s m (27 + p) = 6 then _ else _) 0 (Model_s m (8 + p)), _)
    repeat' split
    all_goals first | rfl | simp_all
  · rw [if_neg (fun q => q ho), if_neg (by rw [ho]; decide)]
    exact ⟨m, rfl, ms_refl m⟩
end ZL
