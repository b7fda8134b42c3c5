/-! The layer between the kit's rows and the walks that gen.py lays: contracts in two forms (a method that leaves the heap as it was: mPp, mSp; one that may change its own cells: mPm, mSm), one row a call for each, and what a mirror's equation gives at a check, a branch, a call, a joint. -/
abbrev vwCl : List vw_C := [(RX0, TX0, 5), (RX1, TX1, 3), (RX2, TX2, 11), (RX3, TX3, 7), (RX4, TX4, 5), (RX5, TX5, 9), (RX6, TX6, 3), (RX7, TX7, 5), (RX8, TX8, 20)]
/-- the classes' numbers and slots; the array classes' numbers (byte, int, boolean, of lessons); the two static rows; the texts and their bytes -/
abbrev mE : Type := va_G × ClassId × ClassId × ClassId × ClassId × Nat × Nat × Option Nat × (Nat → Nat) × (Nat → Nat)
abbrev mT (E : mE) : List (ClassId × FieldType) := [(E.2.1, .byte), (E.2.2.1, .int), (E.2.2.2.1, .boolean), (E.2.2.2.2.1, .object "OneDidAll$Lesson")]
abbrev m_ka (E : mE) : Nat := E.2.2.2.2.2.1
abbrev m_fa (E : mE) : Nat := E.2.2.2.2.2.2.1
abbrev m_fm (E : mE) : Option Nat := E.2.2.2.2.2.2.2.1
abbrev m_adK (E : mE) : Nat → Nat := E.2.2.2.2.2.2.2.2.1
abbrev m_adV (E : mE) : Nat → Nat := E.2.2.2.2.2.2.2.2.2
def mNF : List (String × Nat × String × String × String × String) := [("OneDidAll", 78, "OneDidAll$Group", "size", "I", "OneDidAll"), ("OneDidAll$Forecast", 64, "OneDidAll$Group", "size", "I", "OneDidAll"), ("OneDidAll", 133, "OneDidAll$Group", "week", "I", "OneDidAll"), ("OneDidAll$Forecast", 52, "OneDidAll$Group", "work", "I", "OneDidAll"), ("OneDidAll", 136, "OneDidAll$Group", "work", "I", "OneDidAll"), ("OneDidAll", 90, "OneDidAll$Group", "kinds", "[I", "OneDidAll"), ("OneDidAll", 94, "OneDidAll$Group", "vs", "[I", "OneDidAll"), ("OneDidAll", 97, "OneDidAll$Group", "skills", "[I", "OneDidAll"), ("OneDidAll", 100, "OneDidAll$Group", "wills", "[I", "OneDidAll"), ("OneDidAll$Forecast", 79, "OneDidAll$Group", "wills", "[I", "OneDidAll"), ("OneDidAll", 103, "OneDidAll$Group", "hours", "[I", "OneDidAll"), ("OneDidAll$Forecast", 60, "OneDidAll$Group", "hours", "[I", "OneDidAll"), ("OneDidAll$Forecast", 44, "OneDidAll$Group", "outs", "[Z", "OneDidAll"), ("OneDidAll", 106, "OneDidAll$Group", "outs", "[Z", "OneDidAll"), ("OneDidAll", 130, "OneDidAll$Group", "rows", "[I", "OneDidAll"), ("OneDidAll$Reader", 55, "OneDidAll$Lesson", "toldGoal", "I", "OneDidAll"), ("OneDidAll$Reader", 60, "OneDidAll$Lesson", "fair", "I", "OneDidAll"), ("OneDidAll$Group", 84, "OneDidAll$Lesson", "fair", "I", "OneDidAll"), ("OneDidAll", 143, "OneDidAll$Lesson", "fair", "I", "OneDidAll"), ("OneDidAll$Forecast", 76, "OneDidAll$Rows", "firsts", "[I", "OneDidAll"), ("OneDidAll", 256, "OneDidAll$Rows", "firsts", "[I", "OneDidAll"), ("OneDidAll$Forecast", 73, "OneDidAll$Rows", "seconds", "[I", "OneDidAll"), ("OneDidAll", 259, "OneDidAll$Rows", "seconds", "[I", "OneDidAll"), ("OneDidAll$Forecast", 70, "OneDidAll$Rows", "size", "I", "OneDidAll"), ("OneDidAll", 255, "OneDidAll$Rows", "size", "I", "OneDidAll"), ("OneDidAll$Forecast", 28, "OneDidAll$Room", "group", "LOneDidAll$Group;", "OneDidAll"), ("OneDidAll", 74, "OneDidAll$Room", "group", "LOneDidAll$Group;", "OneDidAll"), ("OneDidAll", 43, "OneDidAll$Room", "tape", "[B", "OneDidAll"), ("OneDidAll", 39, "OneDidAll$Room", "signs", "I", "OneDidAll"), ("OneDidAll", 62, "OneDidAll$Room", "lessons", "[LOneDidAll$Lesson;", "OneDidAll"), ("OneDidAll", 47, "OneDidAll$Room", "lessonCount", "I", "OneDidAll"), ("OneDidAll", 223, "OneDidAll$Room", "seen", "LOneDidAll$Rows;", "OneDidAll"), ("OneDidAll", 245, "OneDidAll$Room", "plan", "LOneDidAll$Rows;", "OneDidAll"), ("OneDidAll", 252, "OneDidAll$Room", "book", "LOneDidAll$Rows;", "OneDidAll"), ("OneDidAll", 177, "OneDidAll$Forecast", "trial", "LOneDidAll$Group;", "OneDidAll"), ("OneDidAll", 283, "OneDidAll$Acts", "kept", "[I", "OneDidAll"), ("OneDidAll", 262, "OneDidAll$Acts", "ran", "I", "OneDidAll"), ("OneDidAll", 265, "OneDidAll$Acts", "kind", "I", "OneDidAll"), ("OneDidAll", 268, "OneDidAll$Acts", "v", "I", "OneDidAll"), ("OneDidAll", 271, "OneDidAll$Acts", "i", "I", "OneDidAll"), ("OneDidAll", 59, "OneDidAll$Reader", "place", "I", "OneDidAll"), ("OneDidAll", 66, "OneDidAll$Reader", "lesson", "LOneDidAll$Lesson;", "OneDidAll")]
def mNM : List (String × Nat × MethodName × String) := [("OneDidAll", 11, ⟨"OneDidAll$Room", "<init>", "()V"⟩, "OneDidAll"), ("OneDidAll$Room", 11, ⟨"OneDidAll$Group", "<init>", "()V"⟩, "OneDidAll"), ("OneDidAll$Room", 35, ⟨"OneDidAll$Lesson", "<init>", "()V"⟩, "OneDidAll"), ("OneDidAll", 27, ⟨"OneDidAll$Forecast", "<init>", "()V"⟩, "OneDidAll"), ("OneDidAll$Forecast", 11, ⟨"OneDidAll$Group", "<init>", "()V"⟩, "OneDidAll"), ("OneDidAll$Forecast", 23, ⟨"OneDidAll$Lesson", "<init>", "()V"⟩, "OneDidAll"), ("OneDidAll", 34, ⟨"OneDidAll$Acts", "<init>", "()V"⟩, "OneDidAll"), ("OneDidAll$Reader", 20, ⟨"OneDidAll$Lesson", "<init>", "()V"⟩, "OneDidAll"), ("OneDidAll", 274, ⟨"OneDidAll$Acts", "thinks", "(III)I"⟩, "OneDidAll"), ("OneDidAll", 277, ⟨"OneDidAll$Acts", "writes", "(III)I"⟩, "OneDidAll"), ("OneDidAll", 280, ⟨"OneDidAll$Acts", "tells", "(III)I"⟩, "OneDidAll")]
def mSX : List String := ["pkvshw", "<=>", "pur ", "hirk ", "goal ", "fair ", "oal ", "air ", "ur ", "0123456789"]
def mSB : List (List Int32) := [[112, 107, 118, 115, 104, 119], [60, 61, 62], [112, 117, 114, 32], [104, 105, 114, 107, 32], [103, 111, 97, 108, 32], [102, 97, 105, 114, 32], [111, 97, 108, 32], [97, 105, 114, 32], [117, 114, 32], [48, 49, 50, 51, 52, 53, 54, 55, 56, 57]]
def mSL : List Nat := [6, 3, 4, 5, 5, 5, 4, 4, 3, 10]
def mSR : List (String × Nat × String × Nat) := [("OneDidAllModel", 84, "pkvshw", 0), ("OneDidAllModel", 90, "<=>", 1), ("OneDidAllModel", 102, "pur ", 2), ("OneDidAllModel", 108, "hirk ", 3), ("OneDidAllModel", 110, "goal ", 4), ("OneDidAllModel", 115, "fair ", 5), ("OneDidAll$Reader", 46, "oal ", 6), ("OneDidAll$Reader", 58, "air ", 7), ("OneDidAll$Reader", 63, "ur ", 8), ("OneDidAll$Reader", 65, "hirk ", 3), ("OneDidAll$Reader", 81, "pkvshw", 0), ("OneDidAll$Reader", 87, "<=>", 1), ("OneDidAll$Reader", 93, "0123456789", 9)]
def mKA : List Int32 := [-1, 0, 0, 0, 1, 2, 3]
def mFA : List Int32 := [1, 1, 2, 6, 24, 120, 720]
def mNest (E : mE) (U : State) : Prop := (∀ q ∈ mNF, va_Nw (.fieldLinkNest q.1 q.2.1 q.2.2.1 q.2.2.2.1 q.2.2.2.2.1 q.2.2.2.2.2) U) ∧ (∀ q ∈ mNM, va_Nw (.methodLinkNest q.1 q.2.1 q.2.2.1 q.2.2.2) U) ∧ (∀ q ∈ mSR, vk_R q.1 q.2.1 q.2.2.1 (m_adK E q.2.2.2) U) ∧ va_AO "OneDidAll$Lesson" U
theorem mNest_warm {E : mE} {s U : State} (hW : s.WarmedH U.vm) (h : mNest E s) : mNest E U := ⟨fun q hq => va_Nw.warmF hW (h.1 q hq), fun q hq => va_Nw.warmM hW (h.2.1 q hq), fun q hq => vk_R.warm hW (h.2.2.1 q hq), va_AO.moved hW.alike h.2.2.2⟩
theorem mNest_same {E : mE} {s U : State} (hv : U.vm = s.vm) (h : mNest E s) : mNest E U := ⟨fun q hq => va_Nw.same rfl hv.symm (h.1 q hq), fun q hq => va_Nw.same rfl hv.symm (h.2.1 q hq), fun q hq => vk_R.same hv (h.2.2.1 q hq), va_AO.moved (by rw [hv]; exact Vm.Alike.refl s.vm) h.2.2.2⟩
def mK (E : mE) (U : State) : Prop := va_K E.1 vwCl (mT E) U ∧ mNest E U
/-- the static rows and the texts: cells that no method here writes -/
def mG (E : mE) (A : Nat → Prop) (U : State) (H : Heap) : Prop := va_Z "OneDidAll" "KIND_ABOVE" "[I" (.ref (m_ka E)) A U H ∧ va_T .int (m_ka E) 7 (fun j => .int (mKA.getD j 0)) A U H ∧ va_Z "OneDidAll" "FACTORIALS" "[I" (.ref (m_fa E)) A U H ∧ va_T .int (m_fa E) 7 (fun j => .int (mFA.getD j 0)) A U H ∧ vk_S 10 mSL mSB (m_adK E) (m_adV E) A U H ∧ va_Z "java/lang/String" "COMPACT_STRINGS" "Z" (.int 1) A U H ∧ va_Z "jdk/internal/util/Preconditions" "SIOOBE_FORMATTER" "Ljava/util/function/BiFunction;" (va_rf (m_fm E)) A U H
theorem mG.moved {E : mE} {A : Nat → Prop} {u U : State} {H : Heap} (hvm : u.vm.Alike U.vm) (h : mG E A u H) : mG E A U H := ⟨h.1.moved hvm, h.2.1.moved hvm, h.2.2.1.moved hvm, h.2.2.2.1.moved hvm, h.2.2.2.2.1.moved hvm, h.2.2.2.2.2.1.moved hvm, h.2.2.2.2.2.2.moved hvm⟩
theorem mG.kept {E : mE} {A : Nat → Prop} {U : State} {H H1 : Heap} (h : mG E A U H) (hq : ∀ a : Nat, a < H.size → ¬ A a → H1[a]? = H[a]?) : mG E A U H1 := ⟨h.1.kept hq, h.2.1.kept hq, h.2.2.1.kept hq, h.2.2.2.1.kept hq, h.2.2.2.2.1.kept hq, h.2.2.2.2.2.1.kept hq, h.2.2.2.2.2.2.kept hq⟩
theorem mG.narrow {E : mE} {A B : Nat → Prop} {U : State} {H : Heap} (h : mG E A U H) (hAB : ∀ q, B q → A q) : mG E B U H := ⟨h.1.narrow hAB, h.2.1.narrow hAB, h.2.2.1.narrow hAB, h.2.2.2.1.narrow hAB, h.2.2.2.2.1.narrow hAB, h.2.2.2.2.2.1.narrow hAB, h.2.2.2.2.2.2.narrow hAB⟩
theorem mG.pass {E : mE} {A B : Nat → Prop} {s U : State} {H : Heap} {locs : List Loc} (h : mG E A s s.heap) (hS : va_S A s.heap H locs) (hW : s.WarmedH U.vm) (hAB : ∀ q, B q → A q) : mG E B U H := ((h.kept (fun q h1 h2 => hS.2.1 q h1 h2)).narrow hAB).moved hW.alike
def m_N : Nat := 2000
def jp {K β : Type} (k : K) (f : K → β) : β := f k
theorem m_jp {K α : Type} {k : K} {f : K → Option α} {t : α} (h : jp k f = some t) : ∃ k', k' = k ∧ f k' = some t := ⟨k, rfl, h⟩
theorem m_chk {α : Type} {c : Prop} [Decidable c] {a : Option α} {t : α} (h : (if c then a else none) = some t) : c ∧ a = some t := by
  by_cases hc : c
  · rw [if_pos hc] at h; exact ⟨hc, h⟩
  · rw [if_neg hc] at h; cases h
theorem m_pos {α : Type} {c : Prop} [Decidable c] {a b : Option α} {t : α} (hc : c) (h : (if c then a else b) = some t) : a = some t := by rw [if_pos hc] at h; exact h
theorem m_neg {α : Type} {c : Prop} [Decidable c] {a b : Option α} {t : α} (hc : ¬ c) (h : (if c then a else b) = some t) : b = some t := by rw [if_neg hc] at h; exact h
theorem m_bnd {α β : Type} {x : Option α} {f : α → Option β} {t : β} (h : Option.bind x f = some t) : ∃ v, x = some v ∧ f v = some t := by
  cases x with
  | none => cases h
  | some v => exact ⟨v, rfl, h⟩
def mIn (i : Int32) (n : Nat) : Bool := decide (¬ (i < 0 ∨ n ≤ i.toNatClampNeg))
theorem mIn_ok {i : Int32} {n : Nat} (h : mIn i n = true) : vp_in i n := (of_decide_eq_true h : ¬ (i < 0 ∨ n ≤ i.toNatClampNeg))
def mBit (x : Int32) : Bool := decide (x = 0 ∨ x = 1)
theorem mBit_nar {x : Int32} (h : mBit x = true) : narrow .boolean (.int x) = .int x := by
  rcases (of_decide_eq_true h : x = 0 ∨ x = 1) with rfl | rfl <;> rfl
theorem mBit_fit {x : Int32} (h : mBit x = true) : fits .boolean (.int x) = true := by
  rcases (of_decide_eq_true h : x = 0 ∨ x = 1) with rfl | rfl <;> decide
/-- a world's cells are apart by their places: so by their addresses -/
theorem m_mem {D : va_G} {cl : List vw_C} {ws : va_W} {H : Heap} (h : va_P D cl ws H) {q : Nat × va_E} (hq : q ∈ ws) : va_at D cl q H := by
  obtain ⟨k, hk⟩ := List.getElem?_of_mem hq
  exact h k q hk
/-- what is only read stays as it was at the start -/
theorem m_ro {D : va_G} {cl : List vw_C} {ro : va_W} {A : Nat → Prop} {H0 H : Heap} {locs : List Loc} (h : va_P D cl ro H0) (hA : ∀ (k : Nat) (q : Nat × va_E), ro[k]? = some q → ¬ A q.1) (hS : va_S A H0 H locs) : va_P D cl ro H :=
  fun k q hk => (h k q hk).kept (hS.2.1 q.1 (h k q hk).lt (hA k q hk))
def mPp (E : mE) (av : List Value) (ws : va_W) : Array Value → State → Prop := va_Pc av (fun U => va_P E.1 vwCl ws U.heap ∧ mK E U ∧ mG E (fun _ => False) U U.heap)
def mSp (v : Option Value) : Array Value → State → Outcome → State → Prop := fun _ st o t => o = .returned v ∧ t.heap = st.heap
def mPm (E : mE) (av : List Value) (sz : Nat) (ws ro : va_W) : Array Value → State → Prop := va_Pc av (fun U => U.heap.size = sz ∧ va_P E.1 vwCl ws U.heap ∧ mK E U ∧ va_D (fun _ => True) ws ∧ va_P E.1 vwCl ro U.heap ∧ (∀ (k : Nat) (q : Nat × va_E), ro[k]? = some q → ¬ va_A ws sz q.1) ∧ mG E (va_A ws sz) U U.heap)
def mSm (E : mE) (v : Option Value) (ws1 : va_W) (A : Nat → Prop) : Array Value → State → Outcome → State → Prop := fun _ st o t => (o = .returned v ∧ va_P E.1 vwCl ws1 t.heap ∧ va_D A ws1) ∧ va_F A st t
theorem mK_call {E : mE} {U : State} {g : JFrame} {mk : MethodId} {a : Array Value} (h : mK E U) : mK E (U.calling g mk a) := ⟨va_K.moved (u := U) (U := U.calling g mk a) (Vm.Alike.refl U.vm) h.1, mNest_same (s := U) (U := U.calling g mk a) rfl h.2⟩
theorem mK_warm {E : mE} {s U : State} (hW : s.WarmedH U.vm) (h : mK E s) : mK E U := ⟨va_K.moved hW.alike h.1, mNest_warm hW h.2⟩
theorem mPp_fb {E : mE} {av : List Value} {ws : va_W} : FrameBlind (mPp E av ws) := fun a U g mk q => by
  obtain ⟨q0, qP, qK, qG⟩ := q
  exact ⟨q0, qP, mK_call qK, mG.moved (u := U) (U := U.calling g mk a) (Vm.Alike.refl U.vm) qG⟩
theorem mPm_fb {E : mE} {av : List Value} {sz : Nat} {ws ro : va_W} : FrameBlind (mPm E av sz ws ro) := fun a U g mk q => by
  obtain ⟨q0, q1, qP, qK, qD, qR, qA, qG⟩ := q
  exact ⟨q0, q1, qP, mK_call qK, qD, qR, qA, mG.moved (u := U) (U := U.calling g mk a) (Vm.Alike.refl U.vm) qG⟩
section MB
variable {l : Launch} {y : MethodName} {ws ws' : List Cond} {rm : Room} {E : mE} {av : List Value} {bs ro ws1 : va_W} {v : Option Value} {cc : ByteArray} {maxL mc ms sz : Nat} {ret : Option FieldType}
theorem mOfP (hy : plainName y.cls = true) (hw : ws = Cond.code y cc maxL ret :: ws') (hn : (lg_sl av).length ≤ maxL)
    (body : ∀ p e s m args below meth c Q, Q = MQ below (mSp v) args s 0 0 (fun _ => False) → CallFix p m c cc maxL s args ws y.cls → meth.sig.returnType = ret → meth.locks = false → va_P E.1 vwCl bs s.heap → mK E s → mG E (fun _ => False) s s.heap → ∀ ls, lv_has ls maxL (lv_args 0 av) →
      W p l e rm s m args below meth c s.heap [] 0 0 Q (F0 m 0 ls [])) : Met l y ws rm (mPp E av bs) (mSp v) 0 0 (fun _ => False) := by
  refine Met.ofW (cc := cc) (maxL := maxL) (ret := ret) hy hw ?_
  intro p e s m args below meth c s₁ B hml hv
  obtain ⟨rfl, hP, hK, hG⟩ := hv
  have hl := lv_entry av hn
  rw [lg_entry_eq]
  exact body p e s m av.toArray below meth c _ rfl ⟨B.exec, B.bytes, hml, findClass_of_methodNamed B.named, atoms_spec (ws := ws) B.pre⟩ B.returns B.notSynchronized hP hK hG _ hl
theorem mOfM (hy : plainName y.cls = true) (hw : ws = Cond.code y cc maxL ret :: ws') (hn : (lg_sl av).length ≤ maxL)
    (body : ∀ p e s m args below meth c Q, ∀ A : Nat → Prop, Q = MQ below (mSm E v ws1 A) args s mc ms A → CallFix p m c cc maxL s args ws y.cls → meth.sig.returnType = ret → meth.locks = false → (meth.name = y.name) → (∀ q : Nat, s.heap.size ≤ q → A q) → va_P E.1 vwCl bs s.heap → va_D A bs → mK E s → mG E A s s.heap → va_P E.1 vwCl ro s.heap → (∀ (k : Nat) (q : Nat × va_E), ro[k]? = some q → ¬ A q.1) → ∀ ls, lv_has ls maxL (lv_args 0 av) →
      W p l e rm s m args below meth c s.heap [] 0 0 Q (F0 m 0 ls [])) : Met l y ws rm (mPm E av sz bs ro) (mSm E v ws1 (va_A bs sz)) mc ms (va_A bs sz) := by
  refine Met.ofW (cc := cc) (maxL := maxL) (ret := ret) hy hw ?_
  intro p e s m args below meth c s₁ B hml hv
  obtain ⟨rfl, hsz, hP, hK, hD0, hR, hRA, hG⟩ := hv
  subst hsz
  have hl := lv_entry av hn
  rw [lg_entry_eq]
  exact body p e s m av.toArray below meth c _ (va_A bs s.heap.size) rfl ⟨B.exec, B.bytes, hml, findClass_of_methodNamed B.named, atoms_spec (ws := ws) B.pre⟩ B.returns B.notSynchronized (name_of_methodNamed B.named B.method).1 (fun q h => Or.inr h) hP hD0.self hK hG hR hRA _ hl
end MB
section MC
variable {p : Program} {l : Launch} {e : Env} {R : Room} {s : State} {m : MethodId} {args : Array Value} {below : List Frame} {meth : Method} {c : Code} {H : Heap} {locs : List Loc} {cells slots : Nat} {Q : State → Prop} {pc : Nat} {ls : Array Slot} {rest st0 : List Value} {a : Array Value} {A0 A1 : Nat → Prop} {mc ms : Nat} {E : mE}
theorem m_goP {v : Option Value} (hr : va_Run p l e R s m args below meth c H locs cells slots 0 0 (F0 m pc ls st0) rest (mSp v a) (fun _ => False))
    (kk : W p l e R s m args below meth c H locs cells slots Q (F0 m (pc + 3) ls (v.toList ++ rest))) : W p l e R s m args below meth c H locs cells slots Q (F0 m pc ls st0) := by
  intro T hT X
  obtain ⟨v', st₀, t, T', L, h0, X', hL, e1, e2, ⟨hv, hh⟩, st⟩ := hr T hT X
  cases hv
  obtain ⟨t2, a1, b1⟩ := kk T' (by rw [e1, hh, h0]) (Stand.forget X' (fun q h => (hL q h).elim))
  exact ⟨t2, st t2 a1, b1⟩
theorem m_goM {v : Option Value} {w1 : va_W} {H0 : Heap} (hr : va_Run p l e R s m args below meth c H locs cells slots mc ms (F0 m pc ls st0) rest (mSm E v w1 A1 a) A1) (hS : va_S A0 H0 H locs) (hA : ∀ q, A1 q → A0 q)
    (kk : ∀ (H1 : Heap) (locs1 : List Loc), va_P E.1 vwCl w1 H1 → va_D A1 w1 → H.size ≤ H1.size → (∀ q : Nat, q < H.size → ¬ A1 q → H1[q]? = H[q]?) → va_S A0 H0 H1 locs1 → W p l e R s m args below meth c H1 locs1 (cells + mc) (slots + ms) Q (F0 m (pc + 3) ls (v.toList ++ rest))) : W p l e R s m args below meth c H locs cells slots Q (F0 m pc ls st0) := by
  intro T hT X
  obtain ⟨v', st₀, t, T', L, h0, X', hL, e1, e2, ⟨⟨hv, hp, hd⟩, hz, hk⟩, st⟩ := hr T hT X
  cases hv
  rw [h0] at hz hk
  obtain ⟨t2, a1, b1⟩ := kk T'.heap (locs ++ L) (by rw [e1]; exact hp) hd (by rw [e1]; exact hz) (fun q h1 h2 => by rw [e1]; exact hk q h1 h2)
    ⟨Nat.le_trans hS.1 (by rw [e1]; exact hz), fun q h1 h2 => by rw [e1, hk q (Nat.lt_of_lt_of_le h1 hS.1) (fun z => h2 (hA q z))]; exact hS.2.1 q h1 h2, fun q hq => by
      rcases List.mem_append.mp hq with h | h
      · exact hS.2.2 q h
      · exact hA _ (hL q h)⟩ T' rfl X'
  exact ⟨t2, st t2 a1, b1⟩
variable {y : MethodName} {bytes cc : ByteArray} {maxL nL n index : Nat} {ret : Option FieldType} {ws ws' : List Cond} {rm : Room} {Ts : List Cond} {own C : String} {b : Addr} {As : List Value} {v : Option Value} {bs ro w1 : va_W} {q : vw_C} {ci : Nat} {fs : List Value}
/-- a call of a method of an object, that leaves the heap as it was -/
theorem mVP (S : CallFix p m c cc nL s args Ts own) (hK : mK E s) (hGl : mG E A0 s s.heap) (hS : va_S A0 s.heap H locs) (hM : Met l y ws rm (mPp E (.ref b :: As) bs) (mSp v) 0 0 (fun _ => False)) (hG : GoodIn Ts (wsV own index C y ws)) (hw : ws = Cond.code y bytes maxL ret :: ws') (hrm : rm.cells = 0 ∧ rm.slots = 0)
    (hd : y.cls = C ∧ y.cls ≠ "java/lang/invoke/MethodHandle" ∧ y.cls ≠ "java/lang/invoke/VarHandle" ∧ (parseMethodDescriptor y.desc).map (fun d => d.parameters.length) = some n) (hR : rm.frames + 1 ≤ R.frames ∧ 8 + (maxL + 11) + rm.locals ≤ R.locals)
    (hP : va_P E.1 vwCl bs H) (hc : vwCl[ci]? = some q) (hq : q.1 = C) (he : bs[0]? = some (b, .inr (ci, fs))) (hn : As.length = n) (hl : ls.size = nL) (hst : st0 = As.reverse ++ .ref b :: rest) (hcat : (rest.map fun v => v.category).sum ≤ 8) (hroom : cells ≤ R.cells ∧ slots ≤ R.slots) (hdg : decode cc pc = .ok (.invokevirtual index, 3))
    (kk : W p l e R s m args below meth c H locs cells slots Q (F0 m (pc + 3) ls (v.toList ++ rest))) : W p l e R s m args below meth c H locs cells slots Q (F0 m pc ls st0) := by
  subst hq
  exact m_goP (va_runV (As := As) (rest := rest) S hM (cwV n S.2.2.2.2 hG hw hrm.1 hrm.2 hd hR) ⟨mPp_fb, va_recv hK.1 hP hc he, fun U hU hW => ⟨rfl, by rw [hU]; exact hP, mK_warm hW hK, by rw [hU]; exact hGl.pass hS hW (fun _ h => h.elim)⟩⟩ rfl hn hl hst (lv_room hcat) hdg hroom) kk
/-- a static method, likewise -/
theorem mSP (S : CallFix p m c cc nL s args Ts own) (hK : mK E s) (hGl : mG E A0 s s.heap) (hS : va_S A0 s.heap H locs) (hM : Met l y ws rm (mPp E As bs) (mSp v) 0 0 (fun _ => False)) (hG : GoodIn Ts (va_wsS own index y ws)) (hw : ws = Cond.code y bytes maxL ret :: ws') (hrm : rm.cells = 0 ∧ rm.slots = 0)
    (hd : y.cls ≠ "java/lang/invoke/MethodHandle" ∧ y.cls ≠ "java/lang/invoke/VarHandle" ∧ (parseMethodDescriptor y.desc).map (fun d => d.parameters.length) = some n) (hR : rm.frames + 1 ≤ R.frames ∧ 8 + (maxL + 11) + rm.locals ≤ R.locals)
    (hP : va_P E.1 vwCl bs H) (hn : As.length = n) (hl : ls.size = nL) (hst : st0 = As.reverse ++ rest) (hcat : (rest.map fun v => v.category).sum ≤ 8) (hroom : cells ≤ R.cells ∧ slots ≤ R.slots) (hdg : decode cc pc = .ok (.invokestatic index, 3))
    (kk : W p l e R s m args below meth c H locs cells slots Q (F0 m (pc + 3) ls (v.toList ++ rest))) : W p l e R s m args below meth c H locs cells slots Q (F0 m pc ls st0) :=
  m_goP (va_runS (As := As) (rest := rest) S hM (va_cwS n S.2.2.2.2 hG hw hrm.1 hrm.2 hd hR) ⟨mPp_fb, fun U hU hW => ⟨rfl, by rw [hU]; exact hP, mK_warm hW hK, by rw [hU]; exact hGl.pass hS hW (fun _ h => h.elim)⟩⟩ rfl hn hl hst (lv_room hcat) hdg hroom) kk
/-- a call of a method of an object, that changes its own cells alone -/
theorem mVM (S : CallFix p m c cc nL s args Ts own) (hK : mK E s) (hGl : mG E A0 s s.heap) (hM : Met l y ws rm (mPm E (.ref b :: As) H.size bs ro) (mSm E v w1 (va_A bs H.size)) mc ms (va_A bs H.size)) (hG : GoodIn Ts (wsV own index C y ws)) (hw : ws = Cond.code y bytes maxL ret :: ws') (hrm : rm.cells = mc ∧ rm.slots = ms)
    (hd : y.cls = C ∧ y.cls ≠ "java/lang/invoke/MethodHandle" ∧ y.cls ≠ "java/lang/invoke/VarHandle" ∧ (parseMethodDescriptor y.desc).map (fun d => d.parameters.length) = some n) (hR : rm.frames + 1 ≤ R.frames ∧ 8 + (maxL + 11) + rm.locals ≤ R.locals)
    (hP : va_P E.1 vwCl bs H) (hD : va_D A1 bs) (hRo : va_P E.1 vwCl ro H) (hRA : ∀ (k : Nat) (q : Nat × va_E), ro[k]? = some q → ¬ va_A bs H.size q.1) (hS : va_S A0 s.heap H locs) (hF : ∀ q, va_A bs H.size q → A0 q) (hc : vwCl[ci]? = some q) (hq : q.1 = C) (he : bs[0]? = some (b, .inr (ci, fs))) (hn : As.length = n) (hl : ls.size = nL) (hst : st0 = As.reverse ++ .ref b :: rest) (hcat : (rest.map fun v => v.category).sum ≤ 8) (hroom : cells + mc ≤ R.cells ∧ slots + ms ≤ R.slots) (hdg : decode cc pc = .ok (.invokevirtual index, 3))
    (kk : ∀ (H1 : Heap) (locs1 : List Loc), va_P E.1 vwCl w1 H1 → va_D (va_A bs H.size) w1 → H.size ≤ H1.size → (∀ q : Nat, q < H.size → ¬ va_A bs H.size q → H1[q]? = H[q]?) → va_S A0 s.heap H1 locs1 → W p l e R s m args below meth c H1 locs1 (cells + mc) (slots + ms) Q (F0 m (pc + 3) ls (v.toList ++ rest))) : W p l e R s m args below meth c H locs cells slots Q (F0 m pc ls st0) := by
  subst hq
  exact m_goM (va_runV (As := As) (rest := rest) S hM (cwV n S.2.2.2.2 hG hw hrm.1 hrm.2 hd hR) ⟨mPm_fb, va_recv hK.1 hP hc he, fun U hU hW => ⟨rfl, by rw [hU], by rw [hU]; exact hP, mK_warm hW hK, hD.weaken (fun _ _ _ _ => trivial), by rw [hU]; exact hRo, hRA, by rw [hU]; exact hGl.pass hS hW hF⟩⟩ rfl hn hl hst (lv_room hcat) hdg hroom) hS hF kk
/-- .. a nest mate's private one -/
theorem mVNM {host : String} (S : CallFix p m c cc nL s args Ts own) (hK : mK E s) (hGl : mG E A0 s s.heap) (hM : Met l y ws rm (mPm E (.ref b :: As) H.size bs ro) (mSm E v w1 (va_A bs H.size)) mc ms (va_A bs H.size)) (hG : GoodIn Ts ws) (hw : ws = Cond.code y bytes maxL ret :: ws') (hrm : rm.cells = mc ∧ rm.slots = ms)
    (hini : (Cond.initialized y.cls).before args s = true) (hl' : va_Nw (.methodLinkNest own index y host) s) (hin : (Cond.instanceMethod y).before args s = true) (hse : (Cond.selects C y y).before args s = true)
    (hd : y.cls ≠ "java/lang/invoke/MethodHandle" ∧ y.cls ≠ "java/lang/invoke/VarHandle" ∧ (parseMethodDescriptor y.desc).map (fun d => d.parameters.length) = some n) (hR : rm.frames + 1 ≤ R.frames ∧ 8 + (maxL + 11) + rm.locals ≤ R.locals)
    (hP : va_P E.1 vwCl bs H) (hD : va_D A1 bs) (hRo : va_P E.1 vwCl ro H) (hRA : ∀ (k : Nat) (q : Nat × va_E), ro[k]? = some q → ¬ va_A bs H.size q.1) (hS : va_S A0 s.heap H locs) (hF : ∀ q, va_A bs H.size q → A0 q) (hc : vwCl[ci]? = some q) (hq : q.1 = C) (he : bs[0]? = some (b, .inr (ci, fs))) (hn : As.length = n) (hl : ls.size = nL) (hst : st0 = As.reverse ++ .ref b :: rest) (hcat : (rest.map fun v => v.category).sum ≤ 8) (hroom : cells + mc ≤ R.cells ∧ slots + ms ≤ R.slots) (hdg : decode cc pc = .ok (.invokevirtual index, 3))
    (kk : ∀ (H1 : Heap) (locs1 : List Loc), va_P E.1 vwCl w1 H1 → va_D (va_A bs H.size) w1 → H.size ≤ H1.size → (∀ q : Nat, q < H.size → ¬ va_A bs H.size q → H1[q]? = H[q]?) → va_S A0 s.heap H1 locs1 → W p l e R s m args below meth c H1 locs1 (cells + mc) (slots + ms) Q (F0 m (pc + 3) ls (v.toList ++ rest))) : W p l e R s m args below meth c H locs cells slots Q (F0 m pc ls st0) := by
  subst hq
  exact m_goM (va_runVN (C := q.1) (As := As) (rest := rest) S hM ⟨va_cnB n S.2.2.2.2 hG hw hrm.1 hrm.2 hl' hini hd hR, hin, hse⟩ ⟨mPm_fb, va_recv hK.1 hP hc he, fun U hU hW => ⟨rfl, by rw [hU], by rw [hU]; exact hP, mK_warm hW hK, hD.weaken (fun _ _ _ _ => trivial), by rw [hU]; exact hRo, hRA, by rw [hU]; exact hGl.pass hS hW hF⟩⟩ rfl hn hl hst (lv_room hcat) hdg hroom) hS hF kk
/-- a text's own method -/
theorem mVPs (S : CallFix p m c cc nL s args Ts own) (hK : mK E s) (hGl : mG E A0 s s.heap) (hS : va_S A0 s.heap H locs) (hM : Met l y ws rm (mPp E (.ref b :: As) bs) (mSp v) 0 0 (fun _ => False)) (hG : GoodIn Ts (wsV own index "java/lang/String" y ws)) (hw : ws = Cond.code y bytes maxL ret :: ws') (hrm : rm.cells = 0 ∧ rm.slots = 0)
    (hd : y.cls = "java/lang/String" ∧ y.cls ≠ "java/lang/invoke/MethodHandle" ∧ y.cls ≠ "java/lang/invoke/VarHandle" ∧ (parseMethodDescriptor y.desc).map (fun d => d.parameters.length) = some n) (hR : rm.frames + 1 ≤ R.frames ∧ 8 + (maxL + 11) + rm.locals ≤ R.locals)
    (hP : va_P E.1 vwCl bs H) (hrecv : ∃ cell : Cell, H[b]? = some cell ∧ cell.vm.isStatics = false ∧ s.vm.findClass "java/lang/String" = some cell.cls) (hn : As.length = n) (hl : ls.size = nL) (hst : st0 = As.reverse ++ .ref b :: rest) (hcat : (rest.map fun v => v.category).sum ≤ 8) (hroom : cells ≤ R.cells ∧ slots ≤ R.slots) (hdg : decode cc pc = .ok (.invokevirtual index, 3))
    (kk : W p l e R s m args below meth c H locs cells slots Q (F0 m (pc + 3) ls (v.toList ++ rest))) : W p l e R s m args below meth c H locs cells slots Q (F0 m pc ls st0) :=
  m_goP (va_runV (As := As) (rest := rest) S hM (cwV n S.2.2.2.2 hG hw hrm.1 hrm.2 hd hR) ⟨mPp_fb, hrecv, fun U hU hW => ⟨rfl, by rw [hU]; exact hP, mK_warm hW hK, by rw [hU]; exact hGl.pass hS hW (fun _ h => h.elim)⟩⟩ rfl hn hl hst (lv_room hcat) hdg hroom) kk
end MC
theorem m_nil {D : va_G} {cl : List vw_C} {H : Heap} : va_P D cl [] H := fun k q h => by simp at h
theorem m_nilA {A : Nat → Prop} : ∀ (k : Nat) (q : Nat × va_E), ([] : va_W)[k]? = some q → ¬ A q.1 := fun k q h => by simp at h
theorem m_appA {A : Nat → Prop} {w1 w2 : va_W} (h1 : ∀ (k : Nat) (q : Nat × va_E), w1[k]? = some q → ¬ A q.1) (h2 : ∀ (k : Nat) (q : Nat × va_E), w2[k]? = some q → ¬ A q.1) : ∀ (k : Nat) (q : Nat × va_E), (w1 ++ w2)[k]? = some q → ¬ A q.1 := by
  intro k q h
  rcases List.mem_append.mp (List.mem_of_getElem? h) with h | h
  · obtain ⟨i, hi⟩ := List.getElem?_of_mem h
    exact h1 i q hi
  · obtain ⟨i, hi⟩ := List.getElem?_of_mem h
    exact h2 i q hi
/-- what the caller only reads is none of the callee's own cells -/
theorem m_roA {A0 : Nat → Prop} {ro wr wc : va_W} {sz : Nat} (hRA : ∀ (k : Nat) (q : Nat × va_E), ro[k]? = some q → ¬ A0 q.1) (hF : ∀ q, va_A wc sz q → A0 q) (is : List Nat) (hs : is.filterMap (fun i => ro[i]?) = wr) : ∀ (k : Nat) (q : Nat × va_E), wr[k]? = some q → ¬ va_A wc sz q.1 := by
  intro k q h h2
  subst hs
  obtain ⟨i, -, hi⟩ := List.mem_filterMap.mp (List.mem_of_getElem? h)
  exact hRA i q hi (hF _ h2)
/-- cells of the caller's world that are not among the callee's -/
theorem m_apart {A0 : Nat → Prop} {D : va_G} {cl : List vw_C} {ws wc wr : va_W} {H : Heap} (hP : va_P D cl ws H) (hD : va_D A0 ws) (isC isR : List Nat) (hC : isC.map (fun i => ws[i]?) = wc.map some) (hR : isR.map (fun i => ws[i]?) = wr.map some) (hdis : ∀ i ∈ isR, i ∉ isC) : ∀ (k : Nat) (q : Nat × va_E), wr[k]? = some q → ¬ va_A wc H.size q.1 := by
  have at' : ∀ {is : List Nat} {w : va_W}, is.map (fun i => ws[i]?) = w.map some → ∀ (k : Nat) (q : Nat × va_E), w[k]? = some q → ∃ i, is[k]? = some i ∧ ws[i]? = some q := by
    intro is w hs k q hq
    have h1 : (is.map (fun i => ws[i]?))[k]? = some (some q) := by rw [hs, List.getElem?_map, hq]; rfl
    rw [List.getElem?_map] at h1
    cases hi : is[k]? with
    | none => rw [hi] at h1; cases h1
    | some i => rw [hi] at h1; exact ⟨i, rfl, Option.some.inj h1⟩
  intro k q hq
  obtain ⟨i, h1, h2⟩ := at' hR k q hq
  have hl := (hP i q h2).lt
  rintro (⟨k2, e, h⟩ | h)
  · obtain ⟨j, h3, h4⟩ := at' hC k2 (q.1, e) h
    have hij := hD.1 i j q (q.1, e) h2 h4 rfl
    subst hij
    exact hdis i (List.mem_of_getElem? h1) (List.mem_of_getElem? h3)
  · omega
theorem m_back {A0 : Nat → Prop} {wc w1 : va_W} {sz : Nat} (hD1 : va_D (va_A wc sz) w1) (hF : ∀ q, va_A wc sz q → A0 q) : va_D A0 w1 := hD1.weaken (fun _ _ _ h => hF _ h)
/-- behind a call: the caller's world in its own order again -/
theorem m_join {A0 : Nat → Prop} {D : va_G} {cl : List vw_C} {ws wc w1 ws' : va_W} {H H1 : Heap} (hP : va_P D cl ws H) (hD : va_D A0 ws) (isC isR back : List Nat) (hC : isC.map (fun i => ws[i]?) = wc.map some) (hR : isR.map (fun i => ws[i]?) = (isR.filterMap (fun i => ws[i]?)).map some) (hn : va_nd isR = true) (hdis : ∀ i ∈ isR, i ∉ isC) (hnb : va_nd back = true) (hb : back.filterMap (fun i => (isR.filterMap (fun i => ws[i]?) ++ w1)[i]?) = ws') (hb2 : back.map (fun i => (isR.filterMap (fun i => ws[i]?) ++ w1)[i]?) = ws'.map some)
    (hk : ∀ q : Nat, q < H.size → ¬ va_A wc H.size q → H1[q]? = H[q]?) (hF : ∀ q, va_A wc H.size q → A0 q) (hP1 : va_P D cl w1 H1) (hD1 : va_D (va_A wc H.size) w1) : va_P D cl ws' H1 ∧ va_D A0 ws' := by
  obtain ⟨h1, h2⟩ := va_join hP hD isC isR hC hR hn hdis hk hF hP1 hD1
  exact ⟨h1.sub back hb, h2.sub back hnb hb2⟩
def mMin (x y : Int32) : Int32 := if y < x then y else x
def mMax (x y : Int32) : Int32 := if x < y then y else x
def mAbs (x : Int32) : Int32 := if 0 ≤ x then x else 0 - x
def mAbsL (x : Int64) : Int64 := if 0 < x then x else -x
def m_opt {α β : Type} (x : Option α) (e1 : β) (e2 : α → β) : β := match x with
  | none => e1
  | some r => e2 r
theorem m_on {α β : Type} {e1 : Option β} {e2 : α → Option β} {t : β} (h : m_opt none e1 e2 = some t) : e1 = some t := h
theorem m_os {α β : Type} {r : α} {e1 : Option β} {e2 : α → Option β} {t : β} (h : m_opt (some r) e1 e2 = some t) : e2 r = some t := h
theorem m_narB {x : Int32} (h : vp_nar .byte x = x) : narrow .byte (.int x) = .int x := congrArg Value.int h
theorem m_narC {x : Int32} (h : vp_nar .char x = x) : narrow .char (.int x) = .int x := congrArg Value.int h
/-- the first n of a row are bytes -/
def m_allB (f : Nat → Int32) (n : Int32) : Bool := (List.range n.toNatClampNeg).all (fun i => fits .byte (.int (f i)))
theorem m_fitB {f : Nat → Int32} {n : Int32} (h : m_allB f n = true) : ∀ i, i < n.toNatClampNeg → fits .byte (.int (f ((0 : Int32).toNatClampNeg + i))) = true := by
  intro i hi
  rw [show (0 : Int32).toNatClampNeg + i = i from Nat.zero_add i]
  exact List.all_eq_true.mp h i (List.mem_range.mpr hi)
def mRem (x y : Int32) : Int32 := x - x / y * y
def mRemL (x y : Int64) : Int64 := x - x / y * y
theorem vaD_iff {A : Nat → Prop} {ws : va_W} : va_D A ws ↔ ws.Pairwise (fun p q => p.1 ≠ q.1) ∧ ∀ q ∈ ws, A q.1 := by
  constructor
  · intro h
    refine ⟨List.pairwise_iff_getElem.mpr (fun i j hi hj hij he => ?_), fun q hq => ?_⟩
    · have := h.1 i j _ _ (List.getElem?_eq_getElem hi) (List.getElem?_eq_getElem hj) he
      omega
    · obtain ⟨k, hk⟩ := List.getElem?_of_mem hq
      exact h.2 k q hk
  · rintro ⟨h1, h2⟩
    refine ⟨fun i j p q hi hj he => ?_, fun k q hk => h2 q (List.mem_of_getElem? hk)⟩
    obtain ⟨li, rfl⟩ := List.getElem?_eq_some_iff.mp hi
    obtain ⟨lj, rfl⟩ := List.getElem?_eq_some_iff.mp hj
    rcases Nat.lt_trichotomy i j with h | h | h
    · exact absurd he (List.pairwise_iff_getElem.mp h1 i j li lj h)
    · exact h
    · exact absurd he.symm (List.pairwise_iff_getElem.mp h1 j i lj li h)
theorem vaP_iff {D : va_G} {cl : List vw_C} {ws : va_W} {H : Heap} : va_P D cl ws H ↔ ∀ q ∈ ws, va_at D cl q H := ⟨fun h q hq => m_mem h hq, fun h k q hk => h q (List.mem_of_getElem? hk)⟩
theorem m_p1 {A m C : va_W} : (A ++ (m ++ C)).Perm (m ++ (A ++ C)) := List.perm_append_comm_assoc A m C
theorem m_p2 {A m1 B m2 C : va_W} : (A ++ (m1 ++ (B ++ (m2 ++ C)))).Perm ((m1 ++ m2) ++ (A ++ (B ++ C))) := by
  refine List.Perm.trans m_p1 ?_
  rw [List.append_assoc]
  refine List.Perm.append_left m1 ?_
  refine List.Perm.trans (List.Perm.append_left A m_p1) ?_
  exact m_p1
theorem m_p2s {A m1 B m2 C : va_W} : (A ++ (m1 ++ (B ++ (m2 ++ C)))).Perm ((m2 ++ m1) ++ (A ++ (B ++ C))) := m_p2.trans (List.Perm.append_right _ List.perm_append_comm)
/-- the callee's cells out of the caller's world -/
theorem m_pre {A0 : Nat → Prop} {D : va_G} {cl : List vw_C} {ws wc rest : va_W} {H0 H : Heap} {locs : List Loc} (hp : ws.Perm (wc ++ rest)) (hP : va_P D cl ws H) (hD : va_D A0 ws) (hS : va_S A0 H0 H locs) (hA : ∀ q, H0.size ≤ q → A0 q) : va_P D cl wc H ∧ va_D A0 wc ∧ ∀ q, va_A wc H.size q → A0 q := by
  have h1 := vaP_iff.mp hP
  obtain ⟨h2, h3⟩ := vaD_iff.mp hD
  have h4 := (List.Perm.pairwise_iff (fun {x y} (h : x.1 ≠ y.1) => h.symm) hp).mp h2
  refine ⟨vaP_iff.mpr (fun q hq => h1 q (hp.mem_iff.mpr (List.mem_append_left _ hq))), vaD_iff.mpr ⟨(List.pairwise_append.mp h4).1, fun q hq => h3 q (hp.mem_iff.mpr (List.mem_append_left _ hq))⟩, ?_⟩
  rintro q (⟨k, e, h⟩ | h)
  · exact h3 (q, e) (hp.mem_iff.mpr (List.mem_append_left _ (List.mem_of_getElem? h)))
  · exact hA q (Nat.le_trans hS.1 h)
/-- .. and what came back beside the rest -/
theorem m_spl {A0 : Nat → Prop} {D : va_G} {cl : List vw_C} {ws ws' wc w1 rest : va_W} {H H1 : Heap} (hp : ws.Perm (wc ++ rest)) (hp' : ws'.Perm (w1 ++ rest)) (hP : va_P D cl ws H) (hD : va_D A0 ws)
    (hk : ∀ q : Nat, q < H.size → ¬ va_A wc H.size q → H1[q]? = H[q]?) (hF : ∀ q, va_A wc H.size q → A0 q) (hP1 : va_P D cl w1 H1) (hD1 : va_D (va_A wc H.size) w1) : va_P D cl ws' H1 ∧ va_D A0 ws' := by
  have h1 := vaP_iff.mp hP
  obtain ⟨h2, h3⟩ := vaD_iff.mp hD
  have h4 := (List.Perm.pairwise_iff (fun {x y} (h : x.1 ≠ y.1) => h.symm) hp).mp h2
  obtain ⟨h5, h6, h7⟩ := List.pairwise_append.mp h4
  obtain ⟨h8, h9⟩ := vaD_iff.mp hD1
  have hr : ∀ q ∈ rest, q.1 < H.size ∧ ¬ va_A wc H.size q.1 := by
    intro q hq
    have hl := (h1 q (hp.mem_iff.mpr (List.mem_append_right _ hq))).lt
    refine ⟨hl, ?_⟩
    rintro (⟨k, e, h⟩ | h)
    · exact h7 _ (List.mem_of_getElem? h) _ hq rfl
    · omega
  refine ⟨vaP_iff.mpr (fun q hq => ?_), vaD_iff.mpr ⟨(List.Perm.pairwise_iff (fun {x y} (h : x.1 ≠ y.1) => h.symm) hp').mpr (List.pairwise_append.mpr ⟨h8, h6, fun x hx y hy e => (hr y hy).2 (by rw [← e]; exact h9 x hx)⟩), fun q hq => ?_⟩⟩
  · rcases List.mem_append.mp (hp'.mem_iff.mp hq) with h | h
    · exact vaP_iff.mp hP1 q h
    · exact (h1 q (hp.mem_iff.mpr (List.mem_append_right _ h))).kept (hk q.1 (hr q h).1 (hr q h).2)
  · rcases List.mem_append.mp (hp'.mem_iff.mp hq) with h | h
    · exact hF _ (h9 q h)
    · exact h3 q (hp.mem_iff.mpr (List.mem_append_right _ h))
theorem m_cutP {D : va_G} {cl : List vw_C} {ws mid : va_W} {H : Heap} (h : va_P D cl ws H) (o z : Nat) (e : (ws.drop o).take z = mid) : va_P D cl mid H := vaP_iff.mpr (fun q hq => vaP_iff.mp h q (List.mem_of_mem_drop (List.mem_of_mem_take (by rw [e]; exact hq))))
/-- cells of the caller's that are beside the callee's -/
theorem m_apart2 {A0 : Nat → Prop} {D : va_G} {cl : List vw_C} {ws wc rest wr : va_W} {H : Heap} (hp : ws.Perm (wc ++ rest)) (hP : va_P D cl ws H) (hD : va_D A0 ws) (o z : Nat) (e : (rest.drop o).take z = wr) : ∀ (k : Nat) (q : Nat × va_E), wr[k]? = some q → ¬ va_A wc H.size q.1 := by
  obtain ⟨h2, -⟩ := vaD_iff.mp hD
  have h4 := (List.Perm.pairwise_iff (fun {x y} (h : x.1 ≠ y.1) => h.symm) hp).mp h2
  obtain ⟨-, -, h7⟩ := List.pairwise_append.mp h4
  intro k q hq
  have hm : q ∈ rest := List.mem_of_mem_drop (List.mem_of_mem_take (by rw [e]; exact List.mem_of_getElem? hq))
  have hl := (vaP_iff.mp hP q (hp.mem_iff.mpr (List.mem_append_right _ hm))).lt
  rintro (⟨k2, e2, h⟩ | h)
  · exact h7 _ (List.mem_of_getElem? h) _ hm rfl
  · omega
theorem m_mv {A m C : va_W} : (A ++ (m ++ C)).Perm (A ++ (C ++ m)) := List.Perm.append_left A List.perm_append_comm
theorem m_permP {D : va_G} {cl : List vw_C} {ws ws' : va_W} {H : Heap} (hp : ws.Perm ws') (h : va_P D cl ws H) : va_P D cl ws' H := vaP_iff.mpr (fun q hq => vaP_iff.mp h q (hp.mem_iff.mpr hq))
theorem m_permD {A : Nat → Prop} {ws ws' : va_W} (hp : ws.Perm ws') (h : va_D A ws) : va_D A ws' := by
  obtain ⟨h1, h2⟩ := vaD_iff.mp h
  exact vaD_iff.mpr ⟨(List.Perm.pairwise_iff (fun {x y} (h : x.1 ≠ y.1) => h.symm) hp).mp h1, fun q hq => h2 q (hp.mem_iff.mpr hq)⟩
