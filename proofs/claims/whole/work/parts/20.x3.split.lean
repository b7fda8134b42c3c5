/-! split, throwOut, odds. -/
theorem abs_nI {a b : Nat} (ha : a < 2 ^ 30) (hb : b < 2 ^ 30) : mAbs (nI a - nI b) = nI (if b ≤ a then a - b else b - a) := by
  unfold mAbs
  by_cases h : b ≤ a
  · rw [pk_sub h, if_pos (nI_pos0 (by omega)), if_pos h]
  · rw [if_neg (show ¬ (0 : Int32) ≤ nI a - nI b from Int32.not_le.mpr (pk_sneg hb (by omega))), if_neg h, Int32.zero_sub, Int32.neg_sub, pk_sub (by omega)]
theorem co_set : ∀ n, n ≤ 6 → ∀ set, set < 2 ^ n → (nI (2 ^ n - 1) &&& (nI set ^^^ (-1))) = nI (2 ^ n - 1 - set) := by decide +kernel
/-- how far two sets are apart -/
def sf (W : Nat → Nat) (all set : Nat) : Nat := if W (all - set) ≤ W set then W set - W (all - set) else W (all - set) - W set
def sb (W : Nat → Nat) (all : Nat) : Nat → Option (Nat × Nat)
  | 0 => none
  | i + 1 => match sb W all i with
    | none => some (sf W all (2 * i + 1), 2 * i + 1)
    | some (l, b) => if l ≤ sf W all (2 * i + 1) then some (l, b) else some (sf W all (2 * i + 1), 2 * i + 1)
def sbC : Option (Nat × Nat) → Int32 × Int32
  | none => (0, 0)
  | some (l, b) => (nI l, nI b)
def sbM : Option (Nat × Nat) → Int32 × Int32
  | none => (-5, 1000000000)
  | some (l, b) => (nI b, nI l)
theorem sf_b {W : Nat → Nat} {B : Nat} (hW : ∀ s, W s ≤ B) (all set : Nat) : sf W all set ≤ B := by
  have h1 := hW set
  have h2 := hW (all - set)
  unfold sf
  split <;> omega
theorem spb_b {W : Nat → Nat} {B all : Nat} (hW : ∀ s, W s ≤ B) : ∀ i l b, sb W all i = some (l, b) → l ≤ B ∧ 1 ≤ b ∧ b ≤ 2 * i
  | 0, _, _, h => by cases h
  | i + 1, l, b, h => by
    unfold sb at h
    cases h2 : sb W all i with
    | none =>
      rw [h2] at h
      simp only [Option.some.injEq, Prod.mk.injEq] at h
      obtain ⟨rfl, rfl⟩ := h
      exact ⟨sf_b hW _ _, by omega, by omega⟩
    | some lb =>
      rw [h2] at h
      obtain ⟨l', b'⟩ := lb
      obtain ⟨i1, i2, i3⟩ := spb_b hW i l' b' h2
      dsimp only at h
      split at h
      · simp only [Option.some.injEq, Prod.mk.injEq] at h
        obtain ⟨rfl, rfl⟩ := h
        exact ⟨i1, i2, by omega⟩
      · simp only [Option.some.injEq, Prod.mk.injEq] at h
        obtain ⟨rfl, rfl⟩ := h
        exact ⟨sf_b hW _ _, by omega, by omega⟩
theorem nI_2 (i : Nat) : nI (2 * i + 1) + 2 = nI (2 * (i + 1) + 1) := by
  rw [show (2 : Int32) = nI 2 from rfl, nI_add]
  congr 1
section SP
variable {Q : Nat → Option LessonV} {v : OneV} {m : ModelV} {ea : Nat} {le : LessonV}
theorem split_C {n : Nat} (hn : n ≤ 6) (eg : Group_size (Room_group (One_now v)) = nI n) {Wn : Nat → Nat} (hb : ∀ s, Wn s ≤ 53460) (hW : ∀ (fc : ForecastV) set, set < 64 → ∃ fc', fn_X1_workOf fc (One_now v) le ea (nI set) (nI 10) = some (nI (Wn set), fc')) (J : Int32 → Int32 → OneV → Option (Int32 × OneV)) (L : Nat) (hL : 2 ^ n - 1 ≤ 2 * L + 1 ∧ 2 * L ≤ 2 ^ n - 1) :
    ∃ v', lp_X7_split_51 v le ea J m_N 0 0 1 v = J (sbC (sb Wn (2 ^ n - 1) L)).1 (sbC (sb Wn (2 ^ n - 1) L)).2 v' ∧ vk v v' := by
  have h2 := two_n n hn
  have eall : (((1 : Int32) <<< ((Group_size (Room_group (One_now v))) &&& 31)) - 1) = nI (2 ^ n - 1) := by
    rw [eg, sh_p n hn, show (1 : Int32) = nI 1 from rfl, pk_sub h2.2]
  refine n_loopG (fun f y (s : Int32 × Int32 × OneV) => lp_X7_split_51 v le ea J f s.1 s.2.1 y s.2.2) (fun i => nI (2 * i + 1)) (fun i s => s.1 = (sbC (sb Wn (2 ^ n - 1) i)).1 ∧ s.2.1 = (sbC (sb Wn (2 ^ n - 1) i)).2 ∧ vk v s.2.2) L (fun r => ∃ v', r = J (sbC (sb Wn (2 ^ n - 1) L)).1 (sbC (sb Wn (2 ^ n - 1) L)).2 v' ∧ vk v v') (fun f s hi => ?_) (fun f i s hj hi => ?_) m_N (0, 0, v) (by rw [m_N_val]; omega) ⟨rfl, rfl, vk_refl v⟩
  · obtain ⟨i1, i2, i3⟩ := hi
    refine ⟨s.2.2, ?_, i3⟩
    show st_X7_split_51 v le ea J _ _ _ _ _ = _
    unfold st_X7_split_51
    rw [eall, if_pos (nI_le (by omega) (by omega)), i1, i2]
  · obtain ⟨i1, i2, i3⟩ := hi
    have e1 : One_now s.2.2 = One_now v := i3.1
    obtain ⟨f1, a1⟩ := hW (One_forecast s.2.2) (2 * i + 1) (by omega)
    obtain ⟨f2, a2⟩ := hW f1 (2 ^ n - 1 - (2 * i + 1)) (by omega)
    have hst : lp_X7_split_51 v le ea J (f + 1) s.1 s.2.1 (nI (2 * i + 1)) s.2.2 = st_X7_split_51 v le ea J (lp_X7_split_51 v le ea J f) s.1 s.2.1 (nI (2 * i + 1)) s.2.2 := rfl
    unfold st_X7_split_51 at hst
    have hd : mAbs (nI (Wn (2 * i + 1)) - nI (Wn (2 ^ n - 1 - (2 * i + 1)))) = nI (sf Wn (2 ^ n - 1) (2 * i + 1)) := abs_nI (Nat.lt_of_le_of_lt (hb _) (by omega)) (Nat.lt_of_le_of_lt (hb _) (by omega))
    have hsf := sf_b hb (2 ^ n - 1) (2 * i + 1)
    rw [eall, if_neg (nI_ge (by omega) (by omega)), e1, show (10 : Int32) = nI 10 from rfl, a1, m_bind_some, pk_sub (by omega), a2, m_bind_some, hd, nI_2] at hst
    simp only [m_jp_eq] at hst
    have hsb : sb Wn (2 ^ n - 1) (i + 1) = (match sb Wn (2 ^ n - 1) i with
      | none => some (sf Wn (2 ^ n - 1) (2 * i + 1), 2 * i + 1)
      | some (l, b) => if l ≤ sf Wn (2 ^ n - 1) (2 * i + 1) then some (l, b) else some (sf Wn (2 ^ n - 1) (2 * i + 1), 2 * i + 1)) := rfl
    cases h3 : sb Wn (2 ^ n - 1) i with
    | none =>
      rw [h3] at hsb i1 i2
      have i2' : s.2.1 = 0 := i2
      refine ⟨(nI (sf Wn (2 ^ n - 1) (2 * i + 1)), nI (2 * i + 1), One_forecast_s s.2.2 f2), ⟨by rw [hsb]; rfl, by rw [hsb]; rfl, vk_f i3 f2⟩, ?_⟩
      refine hst.trans ?_
      rw [if_pos i2']
    | some lb =>
      obtain ⟨l, b⟩ := lb
      obtain ⟨b1, b2, b3⟩ := spb_b hb i l b h3
      rw [h3] at hsb i1 i2
      have i1' : s.1 = nI l := i1
      have i2' : s.2.1 = nI b := i2
      have hne : ¬ s.2.1 = 0 := by rw [i2']; exact nI_ne0 (by omega) (by omega)
      dsimp only at hsb
      rw [if_neg hne] at hst
      by_cases q : l ≤ sf Wn (2 ^ n - 1) (2 * i + 1)
      · rw [if_pos q] at hsb
        refine ⟨(nI l, nI b, One_forecast_s s.2.2 f2), ⟨by rw [hsb]; rfl, by rw [hsb]; rfl, vk_f i3 f2⟩, ?_⟩
        refine hst.trans ?_
        rw [i1', i2', if_pos (nI_le q (by omega))]
      · rw [if_neg q] at hsb
        refine ⟨(nI (sf Wn (2 ^ n - 1) (2 * i + 1)), nI (2 * i + 1), One_forecast_s s.2.2 f2), ⟨by rw [hsb]; rfl, by rw [hsb]; rfl, vk_f i3 f2⟩, ?_⟩
        refine hst.trans ?_
        rw [i1', i2', if_neg (nI_ge (by omega) (by omega))]
theorem split_M {n : Nat} (hn : n ≤ 6) (e20 : Model_s m 20 = nI n) {Wn : Nat → Nat} (hb : ∀ s, Wn s ≤ 53460) (hW : ∀ (m' : ModelV) set, set < 64 → mk0 m m' → ∃ m2, fn_X8_workBy m' (nI set) (nI 10) = some (nI (Wn set), m2) ∧ mk0 m m2) (J : Int32 → Int32 → ModelV → Option (Int32 × ModelV)) (L : Nat) (hL : 2 ^ n - 1 ≤ 2 * L + 1 ∧ 2 * L ≤ 2 ^ n - 1) :
    ∃ m', lp_X8_split_20 J m_N (-5) 1000000000 1 m = J (sbM (sb Wn (2 ^ n - 1) L)).1 (sbM (sb Wn (2 ^ n - 1) L)).2 m' ∧ mk0 m m' := by
  have h2 := two_n n hn
  refine n_loopG (fun f y (s : Int32 × Int32 × ModelV) => lp_X8_split_20 J f s.1 s.2.1 y s.2.2) (fun i => nI (2 * i + 1)) (fun i s => s.1 = (sbM (sb Wn (2 ^ n - 1) i)).1 ∧ s.2.1 = (sbM (sb Wn (2 ^ n - 1) i)).2 ∧ mk0 m s.2.2) L (fun r => ∃ m', r = J (sbM (sb Wn (2 ^ n - 1) L)).1 (sbM (sb Wn (2 ^ n - 1) L)).2 m' ∧ mk0 m m') (fun f s hi => ?_) (fun f i s hj hi => ?_) m_N (-5, 1000000000, m) (by rw [m_N_val]; omega) ⟨rfl, rfl, mk0_refl m⟩
  · obtain ⟨i1, i2, i3⟩ := hi
    refine ⟨s.2.2, ?_, i3⟩
    show st_X8_split_20 J _ _ _ _ _ = _
    unfold st_X8_split_20
    rw [x8_every hn (by rw [i3.1]; exact e20), m_bind_some, if_pos (nI_le (by omega) (by omega)), i1, i2]
  · obtain ⟨i1, i2, i3⟩ := hi
    obtain ⟨m1, a1, k1⟩ := hW s.2.2 (2 * i + 1) (by omega) i3
    obtain ⟨m2, a2, k2⟩ := hW m1 (2 ^ n - 1 - (2 * i + 1)) (by omega) k1
    have hst : lp_X8_split_20 J (f + 1) s.1 s.2.1 (nI (2 * i + 1)) s.2.2 = st_X8_split_20 J (lp_X8_split_20 J f) s.1 s.2.1 (nI (2 * i + 1)) s.2.2 := rfl
    unfold st_X8_split_20 at hst
    have hd : mAbs (nI (Wn (2 * i + 1)) - nI (Wn (2 ^ n - 1 - (2 * i + 1)))) = nI (sf Wn (2 ^ n - 1) (2 * i + 1)) := abs_nI (Nat.lt_of_le_of_lt (hb _) (by omega)) (Nat.lt_of_le_of_lt (hb _) (by omega))
    have hsf := sf_b hb (2 ^ n - 1) (2 * i + 1)
    rw [x8_every hn (by rw [i3.1]; exact e20), m_bind_some, if_neg (nI_ge (by omega) (by omega)), show (10 : Int32) = nI 10 from rfl, a1, m_bind_some, x8_every hn (by rw [k1.1]; exact e20), m_bind_some, co_set n hn _ (by omega), a2, m_bind_some, x8_size, m_bind_some, hd, nI_2] at hst
    simp only [m_jp_eq] at hst
    have hsb : sb Wn (2 ^ n - 1) (i + 1) = (match sb Wn (2 ^ n - 1) i with
      | none => some (sf Wn (2 ^ n - 1) (2 * i + 1), 2 * i + 1)
      | some (l, b) => if l ≤ sf Wn (2 ^ n - 1) (2 * i + 1) then some (l, b) else some (sf Wn (2 ^ n - 1) (2 * i + 1), 2 * i + 1)) := rfl
    cases h3 : sb Wn (2 ^ n - 1) i with
    | none =>
      rw [h3] at hsb i1 i2
      have i2' : s.2.1 = nI 1000000000 := i2
      refine ⟨(nI (2 * i + 1), nI (sf Wn (2 ^ n - 1) (2 * i + 1)), m2), ⟨by rw [hsb]; rfl, by rw [hsb]; rfl, k2⟩, ?_⟩
      refine hst.trans ?_
      have hle : ¬ s.2.1 ≤ nI (sf Wn (2 ^ n - 1) (2 * i + 1)) := by rw [i2']; exact nI_ge (by omega) (by omega)
      rw [if_neg hle, if_neg hle]
    | some lb =>
      obtain ⟨l, b⟩ := lb
      obtain ⟨b1, b2, b3⟩ := spb_b hb i l b h3
      rw [h3] at hsb i1 i2
      have i1' : s.1 = nI b := i1
      have i2' : s.2.1 = nI l := i2
      dsimp only at hsb
      by_cases q : l ≤ sf Wn (2 ^ n - 1) (2 * i + 1)
      · rw [if_pos q] at hsb
        refine ⟨(nI b, nI l, m2), ⟨by rw [hsb]; rfl, by rw [hsb]; rfl, k2⟩, ?_⟩
        refine hst.trans ?_
        have hle : s.2.1 ≤ nI (sf Wn (2 ^ n - 1) (2 * i + 1)) := by rw [i2']; exact nI_le q (by omega)
        rw [if_pos hle, if_pos hle, i1', i2']
      · rw [if_neg q] at hsb
        refine ⟨(nI (2 * i + 1), nI (sf Wn (2 ^ n - 1) (2 * i + 1)), m2), ⟨by rw [hsb]; rfl, by rw [hsb]; rfl, k2⟩, ?_⟩
        refine hst.trans ?_
        have hle : ¬ s.2.1 ≤ nI (sf Wn (2 ^ n - 1) (2 * i + 1)) := by rw [i2']; exact nI_ge (by omega) (by omega)
        rw [if_neg hle, if_neg hle]
theorem sim_split (h : R Q v m) (hH : HL Q (One_now v) (Model_s m) ea le) (y : Int32) : SIM Q (fn_X7_split v le ea y) (fn_X8_split m y) := by
  obtain ⟨n, z, γ, f, w, hx⟩ := cx h hH
  obtain ⟨Wn, hWb, hW0, hC, hM⟩ := wbn hx (N := 10) (by omega)
  obtain ⟨hg, hh, hl, h1, hw, hwl, hγ, hn⟩ := hx
  have eg : Group_size (Room_group (One_now v)) = nI n := hg.2.1.2.1
  have e20 : Model_s m 20 = nI n := hg.1.1.trans eg
  have hb : ∀ s, Wn s ≤ 53460 := fun s => by have := hWb s; omega
  have h2 := two_n n hn
  unfold fn_X7_split fn_X8_split
  rw [m_jp_eq]
  by_cases q0 : y = 0 ∨ y = 1
  case neg =>
    rw [if_neg (fun z => q0 (Or.inl z)), if_neg (fun z => q0 (Or.inr z)), in01_n (fun z => q0 (Or.inl z)) (fun z => q0 (Or.inr z)), m_bind_some, if_neg n00]
    exact ⟨_, v, m, rfl, rfl, h⟩
  have hred : ∀ (A B : Option (Int32 × OneV)), (if y = 0 then A else if y = 1 then A else B) = A := fun A B => by
    rcases q0 with q | q
    · rw [if_pos q]
    · rw [if_neg (by rw [q]; decide), if_pos q]
  obtain ⟨L, hL⟩ : ∃ L, L = (2 ^ n - 1) / 2 := ⟨_, rfl⟩
  have hL2 : 2 ^ n - 1 ≤ 2 * L + 1 ∧ 2 * L ≤ 2 ^ n - 1 := by omega
  obtain ⟨m', b1, b2⟩ := split_M hn e20 hb hM (fun (x2_90 : Int32) (x3_90 : Int32) (wx_90 : ModelV) => jp (fun (_ : Unit) => some (x2_90, wx_90)) (fun j100 => (if y = 0 then j100 () else (if ¬ x2_90 = (-5) then some (x3_90, wx_90) else j100 ())))) L hL2
  rw [in01_y q0, m_bind_some, if_pos n10, hred, eg, m_jp_eq, m_jp_eq, b1]
  by_cases qn : 2 ≤ n
  · obtain ⟨v', a1, a2⟩ := split_C (v := v) (le := le) (ea := ea) hn eg hb hC (fun (x3_119 : Int32) (x4_119 : Int32) (wx_119 : OneV) => (if ¬ y = 0 then some (x3_119, wx_119) else some (x4_119, wx_119))) L hL2
    rw [if_pos (show (2 : Int32) ≤ nI n from nI_le (a := 2) qn (by omega)), a1]
    have hL0 : 1 ≤ L := by
      have : 2 ^ 2 ≤ 2 ^ n := Nat.pow_le_pow_right (by omega) qn
      omega
    cases h3 : sb Wn (2 ^ n - 1) L with
    | none =>
      obtain ⟨L', rfl⟩ : ∃ L', L = L' + 1 := ⟨L - 1, by omega⟩
      unfold sb at h3
      split at h3
      · cases h3
      · split at h3 <;> cases h3
    | some lb =>
      obtain ⟨l, b⟩ := lb
      obtain ⟨c1, c2, c3⟩ := spb_b hb L l b h3
      show SIM Q (if ¬ y = 0 then some (nI l, v') else some (nI b, v')) (if y = 0 then some (nI b, m') else (if ¬ nI b = (-5) then some (nI l, m') else some (nI b, m')))
      by_cases q : y = 0
      · rw [if_neg (fun z => z q), if_pos q]
        exact ⟨_, v', m', rfl, rfl, R_vk h b2 a2⟩
      · rw [if_pos q, if_neg q, if_pos (show ¬ nI b = (-5) from fun z => nI_pos (n := b) (by omega) (by rw [z]; decide))]
        exact ⟨_, v', m', rfl, rfl, R_vk h b2 a2⟩
  · rw [if_neg (show ¬ (2 : Int32) ≤ nI n from nI_ge (b := 2) (by omega) (by omega))]
    have hL0 : L = 0 := by
      have : n = 0 ∨ n = 1 := by omega
      rcases this with rfl | rfl
      · simp at hL; exact hL
      · simp at hL; exact hL
    subst hL0
    show SIM Q _ (if y = 0 then some ((-5 : Int32), m') else (if ¬ (-5 : Int32) = (-5) then some (1000000000, m') else some (-5, m')))
    by_cases q : y = 0
    · rw [if_pos q]
      exact ⟨_, v, m', rfl, rfl, R_mk h b2 rfl rfl rfl rfl⟩
    · rw [if_neg q, if_neg (fun z => z rfl)]
      exact ⟨_, v, m', rfl, rfl, R_mk h b2 rfl rfl rfl rfl⟩
end SP
/-! those who are in, as a set -/
theorem or_p : ∀ si, si < 64 → ∀ k, k < 6 → (nI si ||| ((1 : Int32) <<< (nI k &&& 31))) = nI (si ||| 2 ^ k) ∧ si ||| 2 ^ k < 64 := by decide +kernel
theorem or_b : ∀ si, si < 64 → ∀ k, k < 6 → ∀ j, j < 6 → (si ||| 2 ^ k).testBit j = (si.testBit j || decide (j = k)) := by decide +kernel
def cl1 (si p : Nat) : Nat := si &&& (63 ^^^ 2 ^ p)
theorem an_p : ∀ si, si < 64 → ∀ p, p < 6 → (nI si &&& (((1 : Int32) <<< (nI p &&& 31)) ^^^ (-1))) = nI (cl1 si p) ∧ cl1 si p < 64 := by decide +kernel
theorem an_b : ∀ si, si < 64 → ∀ p, p < 6 → ∀ j, j < 6 → (cl1 si p).testBit j = (si.testBit j && !decide (j = p)) := by decide +kernel
section SI
variable {Q : Nat → Option LessonV} {v : OneV} {m : ModelV} {ea : Nat} {le : LessonV}
theorem x8_setIn {n : Nat} (hn : n ≤ 6) (e20 : Model_s m 20 = nI n) : ∃ si, si < 64 ∧ fn_X8_setIn m = some (nI si) ∧ ∀ j, j < n → (si.testBit j = true ↔ Model_s m (14 + j) = 0) := by
  have main : ∃ r, fn_X8_setIn m = r ∧ ∃ si, si < 64 ∧ r = some (nI si) ∧ ∀ j, j < n → (si.testBit j = true ↔ Model_s m (14 + j) = 0) := by
    refine ⟨_, rfl, ?_⟩
    refine n_loopI (fun f y (a : Int32) => lp_X8_setIn_4 m f a y) (fun k a => ∃ si, si < 64 ∧ a = nI si ∧ ∀ j, j < 6 → (si.testBit j = true ↔ (j < k ∧ Model_s m (14 + j) = 0))) n (fun r => ∃ si, si < 64 ∧ r = some (nI si) ∧ ∀ j, j < n → (si.testBit j = true ↔ Model_s m (14 + j) = 0)) (fun f a hi => ?_) (fun f k a hk hi => ?_) m_N 0 (by rw [m_N_val]; omega) ⟨0, by omega, rfl, fun j hj => by simp⟩
    · obtain ⟨si, i1, i2, i3⟩ := hi
      refine ⟨si, i1, ?_, fun j hj => (i3 j (by omega)).trans ⟨fun z => z.2, fun z => ⟨hj, z⟩⟩⟩
      show st_X8_setIn_4 m _ _ _ = _
      unfold st_X8_setIn_4
      rw [if_pos q_j20, q_c20, e20, if_pos (nI_le (Nat.le_refl n) (by omega)), i2]
    · obtain ⟨si, i1, i2, i3⟩ := hi
      have hst : lp_X8_setIn_4 m (f + 1) a (nI k) = st_X8_setIn_4 m (lp_X8_setIn_4 m f) a (nI k) := rfl
      unfold st_X8_setIn_4 at hst
      rw [if_pos q_j20, q_c20, e20, if_neg (nI_ge hk (by omega)), if_pos (q_i14 (by omega)), q_a14 (by omega), m_jp_eq, ← nI_succ, i2] at hst
      by_cases q : Model_s m (14 + k) = 0
      · rw [if_neg (fun z => z q)] at hst
        have hst2 : lp_X8_setIn_4 m (f + 1) (nI si) (nI k) = lp_X8_setIn_4 m f (nI si ||| ((1 : Int32) <<< (nI k &&& 31))) (nI (k + 1)) := hst
        rw [(or_p si i1 k (by omega)).1] at hst2
        refine ⟨nI (si ||| 2 ^ k), ⟨_, (or_p si i1 k (by omega)).2, rfl, fun j hj => ?_⟩, by rw [i2]; exact hst2⟩
        rw [or_b si i1 k (by omega) j hj, Bool.or_eq_true, i3 j hj, decide_eq_true_iff]
        constructor
        · rintro (⟨z1, z2⟩ | z1)
          · exact ⟨by omega, z2⟩
          · subst z1; exact ⟨by omega, q⟩
        · rintro ⟨z1, z2⟩
          by_cases z3 : j = k
          · exact Or.inr z3
          · exact Or.inl ⟨by omega, z2⟩
      · rw [if_pos q] at hst
        have hst2 : lp_X8_setIn_4 m (f + 1) (nI si) (nI k) = lp_X8_setIn_4 m f (nI si ||| 0) (nI (k + 1)) := hst
        rw [Int32.or_zero] at hst2
        refine ⟨nI si, ⟨si, i1, rfl, fun j hj => ?_⟩, by rw [i2]; exact hst2⟩
        rw [i3 j hj]
        constructor
        · rintro ⟨z1, z2⟩
          exact ⟨by omega, z2⟩
        · rintro ⟨z1, z2⟩
          refine ⟨?_, z2⟩
          rcases Nat.lt_succ_iff_lt_or_eq.mp z1 with z3 | z3
          · exact z3
          · subst z3; exact absurd z2 q
  obtain ⟨r, h1, si, h2, h3, h4⟩ := main
  exact ⟨si, h2, h1.trans h3, h4⟩
/-- what it brings, all as they are; one more out -/
def sp_all0 (n : Nat) (c : LC) (F : Int32) (g : GroupV) (N : Nat) : Int32 := Group_work (n_iter (sp_week n c F 0) N g) - Group_work g
theorem ag_setIn {n : Nat} {g : GroupV} {si : Nat} (hg : gk n g) (h : ∀ j, j < n → (si.testBit j = true ↔ Group_outs g j = 0)) : ag n g (sp_in si g) := ⟨rfl, rfl, rfl, fun k hk => ⟨⟨rfl, rfl, rfl, rfl, rfl, by
  show (if si.testBit k = true then (0 : Int32) else 1) = Group_outs g k
  rcases (hg.2.2 k hk).1 with ho | ho
  · rw [if_pos ((h k hk).mpr ho), ho]
  · rw [if_neg (fun z => absurd ((h k hk).mp z) (by rw [ho]; decide)), ho]⟩, fun _ _ => rfl⟩⟩
theorem ag_setOut {n : Nat} {g : GroupV} {si p : Nat} (hg : gk n g) (hsi : si < 64) (hp : p < n) (h : ∀ j, j < n → (si.testBit j = true ↔ Group_outs g j = 0)) : ag n (sp_out1 p g) (sp_in (cl1 si p) g) := ⟨rfl, rfl, rfl, fun k hk => ⟨⟨rfl, rfl, rfl, rfl, rfl, by
  have hn := hg.1
  show (if (cl1 si p).testBit k = true then (0 : Int32) else 1) = upd (Group_outs g) p 1 k
  rw [an_b si hsi p (by omega) k (by omega)]
  by_cases q : k = p
  · subst q
    rw [pk_us]
    simp
  · rw [pk_un q]
    rcases (hg.2.2 k hk).1 with ho | ho
    · rw [(h k hk).mpr ho, ho]
      simp [q]
    · have : si.testBit k = false := by
        cases z : si.testBit k with
        | false => rfl
        | true => exact absurd ((h k hk).mp z) (by rw [ho]; decide)
      rw [this, ho]
      simp⟩, fun _ _ => rfl⟩⟩
/-- what throwOut and odds use -/
theorem outs_b {n : Nat} {z : LZ} {γ f w : Nat} (hx : CX v m ea le n z γ f w) {N : Nat} (hN : N ≤ 60) : ∃ (si A : Nat) (B : Nat → Nat), si < 64 ∧ A ≤ N * 5346 ∧ (∀ p, B p ≤ N * 5346) ∧
    (∀ m', mk0 m m' → fn_X8_setIn m' = some (nI si)) ∧
    (∀ m', mk0 m m' → ∃ m2, fn_X8_workBy m' (nI si) (nI N) = some (nI A, m2) ∧ mk0 m m2) ∧
    (∀ m' p, p < n → mk0 m m' → ∃ m2, fn_X8_workBy m' (nI (cl1 si p)) (nI N) = some (nI (B p), m2) ∧ mk0 m m2) ∧
    (∀ fc, ∃ f1 f2, fn_X1_begin fc (One_now v) = some f1 ∧ fn_X1_go f1 le ea (nI N) = some f2 ∧ fn_X1_workMore f2 = some (nI A)) ∧
    (∀ fc p, p < n → ∃ f1 f2, fn_X1_beginWithout fc (One_now v) (nI p) = some f1 ∧ fn_X1_go f1 le ea (nI N) = some f2 ∧ fn_X1_workMore f2 = some (nI (B p))) := by
  obtain ⟨hg, hh, hl, h1, hw, hwl, hγ, hn⟩ := hx
  have hW := wbc (Q := fun _ => none) (N := N) ⟨hg, hh, hl, h1, hw, hwl, hγ, hn⟩ hN
  have eg : Group_size (Room_group (One_now v)) = nI n := hg.2.1.2.1
  have e20 : Model_s m 20 = nI n := hg.1.1.trans eg
  obtain ⟨si, s1, s2, s3⟩ := x8_setIn (m := m) hn e20
  have s4 : ∀ j, j < n → (si.testBit j = true ↔ Group_outs (Room_group (One_now v)) j = 0) := fun j hj => by rw [s3 j hj, show Model_s m (14 + j) = Group_outs (Room_group (One_now v)) j from ag_outs hg.1 hj]
  obtain ⟨A, hA, hA2⟩ := wb_b (c := lz_c z) hg.2.1 (sk_gr hg.2) hh.2.1 si N
  obtain ⟨B, hB⟩ : ∃ B : Nat → Nat, ∀ p, B p ≤ N * 5346 ∧ sp_wb n (lz_c z) (nI f) (Room_group (One_now v)) (cl1 si p) N = nI (B p) := ⟨fun p => (wb_b (c := lz_c z) hg.2.1 (sk_gr hg.2) hh.2.1 (cl1 si p) N).choose, fun p => (wb_b (c := lz_c z) hg.2.1 (sk_gr hg.2) hh.2.1 (cl1 si p) N).choose_spec⟩
  have hset : ∀ m', mk0 m m' → fn_X8_setIn m' = some (nI si) := fun m' hk => by
    obtain ⟨si', t1, t2, t3⟩ := x8_setIn (m := m') hn (by rw [hk.1]; exact e20)
    have e : nI si' = nI si := by
      have h5 : fn_X8_setIn m' = fn_X8_setIn m := by
        have hs : Model_s m' = Model_s m := hk.1
        have hlp : ∀ f a y, lp_X8_setIn_4 m' f a y = lp_X8_setIn_4 m f a y := by
          intro f
          induction f with
          | zero => intro a y; rfl
          | succ f ih =>
            intro a y
            show st_X8_setIn_4 m' _ _ _ = st_X8_setIn_4 m _ _ _
            unfold st_X8_setIn_4
            rw [hs]
            simp only [ih]
        exact hlp _ _ _
      rw [t2, s2] at h5
      exact Option.some.inj h5
    rw [t2, e]
  refine ⟨si, A, B, s1, hA, fun p => (hB p).1, hset, fun m' hk => ?_, fun m' p hp hk => ?_, fun fc => ?_, fun fc p hp => ?_⟩
  · have := hW.2 m' si s1 hk
    rw [show (fun set => sp_wb n (lz_c z) (nI f) (Room_group (One_now v)) set N) si = nI A from hA2] at this
    exact this
  · have := hW.2 m' (cl1 si p) (an_p si s1 p (by omega)).2 hk
    rw [show (fun set => sp_wb n (lz_c z) (nI f) (Room_group (One_now v)) set N) (cl1 si p) = nI (B p) from (hB p).2] at this
    exact this
  · obtain ⟨f1, a1, a2⟩ := fc_begin fc h1 hg.2.1
    obtain ⟨f2, b1, b2⟩ := fc_go a2 hl hg.2.1 hw hN (by omega)
    refine ⟨f1, f2, a1, b1, ?_⟩
    rw [fc_workMore b2, ← hA2]
    unfold sp_wb
    rw [(ag_weeks (ag_setIn hg.2.1 s4) eg hw hn (lz_c z) (nI f) 0 N (by omega)).2.2.1]
  · obtain ⟨f1, a1, a2⟩ := fc_without fc h1 hg.2.1 hp
    obtain ⟨f2, b1, b2⟩ := fc_go a2 hl (gk_out1 hg.2.1 p) hw hN (by omega)
    refine ⟨f1, f2, a1, b1, ?_⟩
    rw [fc_workMore b2, ← (hB p).2]
    unfold sp_wb
    rw [(ag_weeks (ag_setOut hg.2.1 s1 hp s4) (show Group_size (sp_out1 p (Room_group (One_now v))) = nI n from eg) (show Group_week (sp_out1 p (Room_group (One_now v))) = nI w from hw) hn (lz_c z) (nI f) 0 N (by omega)).2.2.1]
/-- throwOut's fold -/
def to8 (g : GroupV) (A : Nat) (B : Nat → Nat) : Nat → Nat × Int32
  | 0 => (A, -5)
  | p + 1 => if Group_outs g p = 0 ∧ (to8 g A B p).1 < B p then (B p, nI p) else to8 g A B p
theorem to_b {g : GroupV} {A M : Nat} {B : Nat → Nat} (hA : A ≤ M) (hB : ∀ p, B p ≤ M) : ∀ p, (to8 g A B p).1 ≤ M
  | 0 => hA
  | p + 1 => by
    unfold to8
    split
    · exact hB p
    · exact to_b hA hB p
theorem sim_throwOut (h : R Q v m) (hH : HL Q (One_now v) (Model_s m) ea le) : SIM Q (fn_X7_throwOut v le ea) (fn_X8_throwOut m) := by
  obtain ⟨n, z, γ, f, w, hx⟩ := cx h hH
  obtain ⟨si, A, B, s1, hA, hB, o1, o2, o3, o4, o5⟩ := outs_b hx (N := 20) (by omega)
  obtain ⟨hg, hh, hl, h1, hw, hwl, hγ, hn⟩ := hx
  have eg : Group_size (Room_group (One_now v)) = nI n := hg.2.1.2.1
  have e20 : Model_s m 20 = nI n := hg.1.1.trans eg
  obtain ⟨f1, f2, a1, a2, a3⟩ := o4 (One_forecast v)
  obtain ⟨m1, b1, b2⟩ := o2 m (mk0_refl m)
  have hTb := to_b (g := Room_group (One_now v)) (A := A) (B := B) (M := 106920) (by omega) (fun p => by have := hB p; omega)
  have hC : ∃ v', lp_X7_throwOut_33 le ea m_N (nI A) (-5) 0 (One_forecast_s v f2) = some ((to8 (Room_group (One_now v)) A B n).2, v') ∧ vk v v' := by
    refine n_loopI (fun f y (s : Int32 × Int32 × OneV) => lp_X7_throwOut_33 le ea f s.1 s.2.1 y s.2.2) (fun p s => s.1 = nI (to8 (Room_group (One_now v)) A B p).1 ∧ s.2.1 = (to8 (Room_group (One_now v)) A B p).2 ∧ vk v s.2.2) n (fun r => ∃ v', r = some ((to8 (Room_group (One_now v)) A B n).2, v') ∧ vk v v') (fun f' s hi => ?_) (fun f' p s hp hi => ?_) m_N (nI A, -5, One_forecast_s v f2) (by rw [m_N_val]; omega) ⟨rfl, rfl, vk_refl v⟩
    · obtain ⟨i1, i2, i3⟩ := hi
      refine ⟨s.2.2, ?_, i3⟩
      show st_X7_throwOut_33 le ea _ _ _ _ _ = _
      unfold st_X7_throwOut_33
      rw [i3.1, eg, if_pos (nI_le (Nat.le_refl n) (by omega)), i2]
    · obtain ⟨i1, i2, i3⟩ := hi
      obtain ⟨g1, g2, c1, c2, c3⟩ := o5 (One_forecast s.2.2) p hp
      have hst : lp_X7_throwOut_33 le ea (f' + 1) s.1 s.2.1 (nI p) s.2.2 = st_X7_throwOut_33 le ea (lp_X7_throwOut_33 le ea f') s.1 s.2.1 (nI p) s.2.2 := rfl
      unfold st_X7_throwOut_33 at hst
      rw [i3.1, eg, if_neg (nI_ge hp (by omega)), if_pos (q_6 (by omega)), m_jp_eq, q_n (by omega), c1, m_bind_some, show (20 : Int32) = nI 20 from rfl, c2, m_bind_some, c3, m_bind_some, m_bind_some, ← nI_succ] at hst
      have hto : to8 (Room_group (One_now v)) A B (p + 1) = if Group_outs (Room_group (One_now v)) p = 0 ∧ (to8 (Room_group (One_now v)) A B p).1 < B p then (B p, nI p) else to8 (Room_group (One_now v)) A B p := rfl
      have hb1 := hTb p
      have hb2 := hB p
      by_cases q : Group_outs (Room_group (One_now v)) p = 0
      · rw [if_pos q] at hst
        by_cases q2 : (to8 (Room_group (One_now v)) A B p).1 < B p
        · rw [if_pos ⟨q, q2⟩] at hto
          have hle : ¬ nI (B p) ≤ s.1 := by rw [i1]; exact nI_ge q2 (by omega)
          rw [if_neg hle] at hst
          exact ⟨(nI (B p), nI p, One_forecast_s s.2.2 g2), ⟨by rw [hto], by rw [hto], vk_f i3 g2⟩, hst⟩
        · rw [if_neg (fun z => q2 z.2)] at hto
          have hle : nI (B p) ≤ s.1 := by rw [i1]; exact nI_le (by omega) (by omega)
          rw [if_pos hle] at hst
          exact ⟨(s.1, s.2.1, One_forecast_s s.2.2 g2), ⟨by rw [hto]; exact i1, by rw [hto]; exact i2, vk_f i3 g2⟩, hst⟩
      · rw [if_neg q] at hst
        rw [if_neg (fun z => q z.1)] at hto
        exact ⟨(s.1, s.2.1, s.2.2), ⟨by rw [hto]; exact i1, by rw [hto]; exact i2, i3⟩, hst⟩
  have hM : ∃ m', lp_X8_throwOut_16 m_N (nI A) (-5) 0 m1 = some ((to8 (Room_group (One_now v)) A B n).2, m') ∧ mk0 m m' := by
    refine n_loopI (fun f y (s : Int32 × Int32 × ModelV) => lp_X8_throwOut_16 f s.1 s.2.1 y s.2.2) (fun p s => s.1 = nI (to8 (Room_group (One_now v)) A B p).1 ∧ s.2.1 = (to8 (Room_group (One_now v)) A B p).2 ∧ mk0 m s.2.2) n (fun r => ∃ m', r = some ((to8 (Room_group (One_now v)) A B n).2, m') ∧ mk0 m m') (fun f' s hi => ?_) (fun f' p s hp hi => ?_) m_N (nI A, -5, m1) (by rw [m_N_val]; omega) ⟨rfl, rfl, b2⟩
    · obtain ⟨i1, i2, i3⟩ := hi
      refine ⟨s.2.2, ?_, i3⟩
      show st_X8_throwOut_16 _ _ _ _ _ = _
      unfold st_X8_throwOut_16
      rw [if_pos q_j20, q_c20, i3.1, e20, if_pos (nI_le (Nat.le_refl n) (by omega)), i2]
    · obtain ⟨i1, i2, i3⟩ := hi
      obtain ⟨m2, c1, c2⟩ := o3 s.2.2 p hp i3
      have hst : lp_X8_throwOut_16 (f' + 1) s.1 s.2.1 (nI p) s.2.2 = st_X8_throwOut_16 (lp_X8_throwOut_16 f') s.1 s.2.1 (nI p) s.2.2 := rfl
      unfold st_X8_throwOut_16 at hst
      rw [if_pos q_j20, q_c20, show Model_s s.2.2 20 = nI n by rw [i3.1]; exact e20, if_neg (nI_ge hp (by omega)), if_pos (q_i14 (by omega)), q_a14 (by omega), m_jp_eq, o1 s.2.2 i3, m_bind_some, (an_p si s1 p (by omega)).1, show (20 : Int32) = nI 20 from rfl, c1, m_bind_some, ← nI_succ, show Model_s s.2.2 (14 + p) = Group_outs (Room_group (One_now v)) p by rw [i3.1]; exact ag_outs hg.1 hp] at hst
      simp only [m_jp_eq] at hst
      have hto : to8 (Room_group (One_now v)) A B (p + 1) = if Group_outs (Room_group (One_now v)) p = 0 ∧ (to8 (Room_group (One_now v)) A B p).1 < B p then (B p, nI p) else to8 (Room_group (One_now v)) A B p := rfl
      have hb1 := hTb p
      have hb2 := hB p
      by_cases q : Group_outs (Room_group (One_now v)) p = 0
      · rw [if_neg (fun z => z q)] at hst
        by_cases q2 : (to8 (Room_group (One_now v)) A B p).1 < B p
        · rw [if_pos ⟨q, q2⟩] at hto
          have hle : ¬ nI (B p) ≤ s.1 := by rw [i1]; exact nI_ge q2 (by omega)
          rw [if_neg hle, if_neg hle] at hst
          exact ⟨(nI (B p), nI p, m2), ⟨by rw [hto], by rw [hto], c2⟩, hst⟩
        · rw [if_neg (fun z => q2 z.2)] at hto
          have hle : nI (B p) ≤ s.1 := by rw [i1]; exact nI_le (by omega) (by omega)
          rw [if_pos hle, if_pos hle] at hst
          exact ⟨(s.1, s.2.1, m2), ⟨by rw [hto]; exact i1, by rw [hto]; exact i2, c2⟩, hst⟩
      · rw [if_pos q] at hst
        rw [if_neg (fun z => q z.1)] at hto
        have hle : (-1 : Int32) ≤ s.1 := by rw [i1]; exact Int32.le_of_lt (neg_case (x := -1) (by decide) (by omega))
        rw [if_pos hle, if_pos hle] at hst
        exact ⟨s, ⟨by rw [hto]; exact i1, by rw [hto]; exact i2, i3⟩, hst⟩
  obtain ⟨v', c1, c2⟩ := hC
  obtain ⟨m', d1, d2⟩ := hM
  unfold fn_X7_throwOut fn_X8_throwOut
  rw [a1, m_bind_some, show (20 : Int32) = nI 20 from rfl, a2, m_bind_some, a3, m_bind_some, o1 m (mk0_refl m), m_bind_some, b1, m_bind_some]
  exact ⟨_, v', m', c1, d1, R_vk h d2 c2⟩
end SI
