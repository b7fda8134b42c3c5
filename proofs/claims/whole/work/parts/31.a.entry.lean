/-! The law's entry: what the start gives of classes, arrays, statics, texts. -/
def lw_fl : List Cond := flatC (Cond.and given_1 narrow_1)
def lw_tm : Nat → Term := fun i => ([.string "OneDidAllModel" 84, .string "OneDidAllModel" 90, .string "OneDidAllModel" 102, .string "OneDidAllModel" 108, .string "OneDidAllModel" 110, .string "OneDidAllModel" 115, .string "OneDidAll$Reader" 46, .string "OneDidAll$Reader" 58, .string "OneDidAll$Reader" 63, .string "OneDidAll$Reader" 93] : List Term).getD i (.int 0)
theorem lw_pos {α : Type} (f : α → Cond) (l : List α) (qs : List Nat) (h : l.map f = qs.filterMap (fun i => tables_1[i]?)) : ∀ q ∈ l, f q ∈ lw_tbl := by
  intro q hq
  have h1 : f q ∈ l.map f := List.mem_map_of_mem hq
  rw [h] at h1
  obtain ⟨i, -, hi⟩ := List.mem_filterMap.mp h1
  exact List.mem_append_right _ (List.mem_of_getElem? hi)
theorem lw_nf : ∀ q ∈ mNF, Cond.fieldLinkNest q.1 q.2.1 q.2.2.1 q.2.2.2.1 q.2.2.2.2.1 q.2.2.2.2.2 ∈ lw_tbl := lw_pos (fun q => Cond.fieldLinkNest q.1 q.2.1 q.2.2.1 q.2.2.2.1 q.2.2.2.2.1 q.2.2.2.2.2) mNF [39, 40, 42, 44, 45, 47, 49, 51, 53, 54, 56, 57, 59, 60, 62, 102, 104, 105, 106, 133, 134, 136, 137, 139, 140, 149, 150, 152, 154, 156, 158, 161, 163, 165, 196, 213, 215, 217, 219, 221, 271, 274] (by decide +kernel)
theorem lw_nm : ∀ q ∈ mNM, Cond.methodLinkNest q.1 q.2.1 q.2.2.1 q.2.2.2 ∈ lw_tbl := lw_pos (fun q => Cond.methodLinkNest q.1 q.2.1 q.2.2.1 q.2.2.2) mNM [28, 34, 92, 187, 192, 194, 208, 264, 749, 758, 763] (by decide +kernel)
theorem lw_sr : ∀ q ∈ mSR, Cond.stringRef q.1 q.2.1 q.2.2.1 ∈ lw_tbl := lw_pos (fun q => Cond.stringRef q.1 q.2.1 q.2.2.1) mSR [932, 937, 911, 938, 887, 906, 298, 415, 416, 417, 430, 431, 355] (by decide +kernel)
theorem lw_f1 : ∀ i, i < 10 → Cond.exactly (lw_tm i) "java/lang/String" ∈ lw_fl := by decide +kernel
theorem lw_f2 : ∀ i, i < 10 → Cond.eq (.field (lw_tm i) "java/lang/String" "coder" "B") (.int 0) ∈ lw_fl := by decide +kernel
theorem lw_f3 : ∀ i, i < 10 → Cond.arrayOf (.field (lw_tm i) "java/lang/String" "value" "[B") .byte ∈ lw_fl := by decide +kernel
theorem lw_f4 : ∀ i, i < 10 → Cond.eq (.length (.field (lw_tm i) "java/lang/String" "value" "[B")) (.int (Int32.ofNat (mSL.getD i 0))) ∈ lw_fl := by decide +kernel
theorem lw_f5 : ∀ i, i < 10 → ∀ j, j < mSL.getD i 0 → Cond.eq (.elem (.field (lw_tm i) "java/lang/String" "value" "[B") (.int (Int32.ofNat j))) (.int ((mSB.getD i []).getD j 0)) ∈ lw_fl := by decide +kernel
theorem lw_f6 : ∀ i, i < 10 → ∀ j, j < 10 → i ≠ j → Cond.not (Cond.eq (lw_tm i) (lw_tm j)) ∈ lw_fl ∨ Cond.not (Cond.eq (lw_tm j) (lw_tm i)) ∈ lw_fl := by decide +kernel
theorem lw_f7 : ∀ q ∈ mSR, q.2.2.2 < 10 ∧ (lw_tm q.2.2.2 = .string q.1 q.2.1 ∨ Cond.eq (.string q.1 q.2.1) (lw_tm q.2.2.2) ∈ lw_fl) := by decide +kernel
theorem lw_f8 : ∀ j, j < 7 → Cond.eq (.elem (.static "OneDidAll" "KIND_ABOVE" "[I") (.int (Int32.ofNat j))) (.int (mKA.getD j 0)) ∈ lw_fl := by decide +kernel
theorem lw_f9 : ∀ j, j < 7 → Cond.eq (.elem (.static "OneDidAll" "FACTORIALS" "[I") (.int (Int32.ofNat j))) (.int (mFA.getD j 0)) ∈ lw_fl := by decide +kernel
theorem lw_arr {args : Array Value} {s : State} {ty : FieldType} (h : (Cond.arrayClass ty).before args s = true) : ∃ cA : ClassId, ArrOfT s cA ty ∧ s.vm.findClass ("[" ++ ty.toString) = some cA := by
  obtain ⟨cA, k, comp, h1, h2, h3⟩ := Cond.arrayClass_spec h
  exact ⟨cA, fun n z => ⟨fun q h => (by cases h), k, h2, comp, h3⟩, h1⟩
theorem lw_arrQ {args : Array Value} {s : State} {C : String} (h : (Cond.arrayOver (.object C)).before args s = true) : ∃ cA : ClassId, ArrOfT s cA (.object C) ∧ va_RA s cA (.object C) := by
  obtain ⟨comp, cA, k, h1, h2, h3, h4, h5⟩ := Cond.arrayOver_spec h
  exact ⟨cA, fun n z => ⟨fun q h => (by cases h), k, h3, comp, h4⟩, k, comp, h3, h4, h1, h5⟩
theorem lw_env {p : Program} {s : State} {m : MethodId} {meth : Method} {c : Code} {b L : Nat} {xs : Nat → Int32} (C0 : lw_At p s m meth c b L xs) : ∃ E : mE, mK E s ∧ mG E (fun q : Nat => s.heap.size ≤ q) s s.heap := by
  obtain ⟨hx, hb, hr, hml, hown, hts, hX, hbl, hlocks, hgv⟩ := C0
  have hq : ∀ w ∈ lw_fl, w.before #[Value.ref b] s = true := flat_of_before _ hgv
  have hA : ∀ a : Nat, a < s.heap.size → ¬ (fun q : Nat => s.heap.size ≤ q) a := fun a h => Nat.not_le.mpr h
  obtain ⟨cd, hcd⟩ : ∃ cd : Nat → ClassId × (Nat → Nat), ∀ k q, vwCl[k]? = some q → u_Kn s q.1 q.2.1 q.2.2 (cd k).1 (cd k).2 := by
    refine Classical.axiomOfChoice (r := fun (k : Nat) (z : ClassId × (Nat → Nat)) => ∀ q, vwCl[k]? = some q → u_Kn s q.1 q.2.1 q.2.2 z.1 z.2) (fun k => ?_)
    match k with
    | 0 =>
      obtain ⟨c0, i0, h0⟩ := u_known (C := RX0) (T := TX0) (N := 5) (n := 5) hts inX0 (hts (.instantiable RX0 5) (by decide +kernel))
      exact ⟨(c0, i0), fun q hq => by cases hq; exact h0⟩
    | 1 =>
      obtain ⟨c0, i0, h0⟩ := u_known (C := RX1) (T := TX1) (N := 3) (n := 3) hts inX1 (hts (.instantiable RX1 3) (by decide +kernel))
      exact ⟨(c0, i0), fun q hq => by cases hq; exact h0⟩
    | 2 =>
      obtain ⟨c0, i0, h0⟩ := u_known (C := RX2) (T := TX2) (N := 11) (n := 11) hts inX2 (hts (.instantiable RX2 11) (by decide +kernel))
      exact ⟨(c0, i0), fun q hq => by cases hq; exact h0⟩
    | 3 =>
      obtain ⟨c0, i0, h0⟩ := u_known (C := RX3) (T := TX3) (N := 7) (n := 7) hts inX3 (hts (.instantiable RX3 7) (by decide +kernel))
      exact ⟨(c0, i0), fun q hq => by cases hq; exact h0⟩
    | 4 =>
      obtain ⟨c0, i0, h0⟩ := u_known (C := RX4) (T := TX4) (N := 5) (n := 5) hts inX4 (hts (.instantiable RX4 5) (by decide +kernel))
      exact ⟨(c0, i0), fun q hq => by cases hq; exact h0⟩
    | 5 =>
      obtain ⟨c0, i0, h0⟩ := u_known (C := RX5) (T := TX5) (N := 9) (n := 9) hts inX5 (hts (.instantiable RX5 9) (by decide +kernel))
      exact ⟨(c0, i0), fun q hq => by cases hq; exact h0⟩
    | 6 =>
      obtain ⟨c0, i0, h0⟩ := u_known (C := RX6) (T := TX6) (N := 3) (n := 3) hts inX6 (hts (.instantiable RX6 3) (by decide +kernel))
      exact ⟨(c0, i0), fun q hq => by cases hq; exact h0⟩
    | 7 =>
      obtain ⟨c0, i0, h0⟩ := u_known (C := RX7) (T := TX7) (N := 5) (n := 5) hts inX7 (hts (.instantiable RX7 5) (by decide +kernel))
      exact ⟨(c0, i0), fun q hq => by cases hq; exact h0⟩
    | 8 =>
      obtain ⟨c0, i0, h0⟩ := u_known (C := RX8) (T := TX8) (N := 20) (n := 20) hts inX8 (hts (.instantiable RX8 20) (by decide +kernel))
      exact ⟨(c0, i0), fun q hq => by cases hq; exact h0⟩
    | k + 9 => exact ⟨(0, fun _ => 0), fun q hq => by simp [vwCl] at hq⟩
  obtain ⟨cB, hB1, hB2⟩ := lw_arr (hts (.arrayClass .byte) (by decide +kernel))
  obtain ⟨cI, hI1, hI2⟩ := lw_arr (hts (.arrayClass .int) (by decide +kernel))
  obtain ⟨cZ, hZ1, hZ2⟩ := lw_arr (hts (.arrayClass .boolean) (by decide +kernel))
  have hao := hts (.arrayOver (.object "OneDidAll$Lesson")) (by decide +kernel)
  obtain ⟨cL, hL1, hL2⟩ := lw_arrQ hao
  obtain ⟨ka, ka1, ka2⟩ := va_Tof (args := #[Value.ref b]) (s := s) (tm := .static "OneDidAll" "KIND_ABOVE" "[I") (ty := .int) (N := 7) (f := fun j => .int (mKA.getD j 0)) (A := fun q : Nat => s.heap.size ≤ q) (by decide) (hq _ (by decide +kernel)) (va_eqt (hq (.eq (.length (.static "OneDidAll" "KIND_ABOVE" "[I")) (.int 7)) (by decide +kernel))) (fun j hj => va_eqt (hq _ (lw_f8 j hj))) hA
  obtain ⟨fa, fa1, fa2⟩ := va_Tof (args := #[Value.ref b]) (s := s) (tm := .static "OneDidAll" "FACTORIALS" "[I") (ty := .int) (N := 7) (f := fun j => .int (mFA.getD j 0)) (A := fun q : Nat => s.heap.size ≤ q) (by decide) (hq _ (by decide +kernel)) (va_eqt (hq (.eq (.length (.static "OneDidAll" "FACTORIALS" "[I")) (.int 7)) (by decide +kernel))) (fun j hj => va_eqt (hq _ (lw_f9 j hj))) hA
  have hini := hts (.initialized "OneDidAll") (by decide +kernel)
  have zk := va_Zref (hts (.laysStatic "OneDidAll" "KIND_ABOVE" "[I") (by decide +kernel)) hini ka1 hA
  have zf := va_Zref (hts (.laysStatic "OneDidAll" "FACTORIALS" "[I") (by decide +kernel)) hini fa1 hA
  have zc := va_Zof (v := .int 1) (hts (.laysStatic "java/lang/String" "COMPACT_STRINGS" "Z") (by decide +kernel)) (hts (.initialized "java/lang/String") (by decide +kernel)) (va_eqt (hq _ (by decide +kernel))) hA
  obtain ⟨fm, zm⟩ : ∃ fm : Option Nat, va_Z "jdk/internal/util/Preconditions" "SIOOBE_FORMATTER" "Ljava/util/function/BiFunction;" (va_rf fm) (fun q : Nat => s.heap.size ≤ q) s s.heap := by
    rcases va_Zqof (hts (.laysStatic "jdk/internal/util/Preconditions" "SIOOBE_FORMATTER" "Ljava/util/function/BiFunction;") (by decide +kernel)) (hts (.initialized "jdk/internal/util/Preconditions") (by decide +kernel)) (hq _ (by decide +kernel)) hA with h | ⟨t, h⟩
    · exact ⟨none, h⟩
    · exact ⟨some t, h⟩
  obtain ⟨adK, adV, hS, hE⟩ := vk_Sof (args := #[Value.ref b]) (s := s) (N := 10) (tm := lw_tm) (len := mSL) (byt := mSB) (A := fun q : Nat => s.heap.size ≤ q) (by decide) (fun i hi => hq _ (lw_f1 i hi)) (fun i hi => hq _ (lw_f2 i hi)) (fun i hi => hq _ (lw_f3 i hi)) (fun i hi => hq _ (lw_f4 i hi)) (fun i hi j hj => hq _ (lw_f5 i hi j hj)) (fun i j hi hj hij => (lw_f6 i hi j hj hij).elim (fun h => Or.inl (hq _ h)) (fun h => Or.inr (hq _ h))) hA
  refine ⟨((fun k => (cd k).1, fun k => (cd k).2), cB, cI, cZ, cL, ka, fa, fm, adK, adV), ⟨⟨hcd, fun k q hk => ?_⟩, ?_, ?_, ?_, va_AO.of hao⟩, zk, ka2, zf, fa2, hS, zc, zm⟩
  · match k, hk with
    | 0, hk => cases hk; exact ⟨hB1, hB2⟩
    | 1, hk => cases hk; exact ⟨hI1, hI2⟩
    | 2, hk => cases hk; exact ⟨hZ1, hZ2⟩
    | 3, hk => cases hk; exact ⟨hL1, hL2⟩
    | k + 4, hk => simp [mT] at hk
  · exact fun q hq' => va_tabs rfl rfl (hts _ (lw_nf q hq'))
  · exact fun q hq' => va_tabs rfl rfl (hts _ (lw_nm q hq'))
  · intro q hq'
    obtain ⟨h1, h2⟩ := lw_f7 q hq'
    refine vk_R.of (A := #[Value.ref b]) (hts _ (lw_sr q hq')) ?_
    rcases h2 with h2 | h2
    · rw [← h2]
      exact hE _ h1
    · exact va_eqv (hq _ h2) (hE _ h1)
