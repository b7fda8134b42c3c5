/-! Methods that make cells: their end names the addresses that came. -/
def mSx {S : Type} (E : mE) (v : S → Option Value) (ws1 : S → va_W) (P : S → Prop) (A : Nat → Prop) : Array Value → State → Outcome → State → Prop := fun _ st o t => (∃ u : S, o = .returned (v u) ∧ P u ∧ va_P E.1 vwCl (ws1 u) t.heap ∧ va_D A (ws1 u)) ∧ va_F A st t
theorem mOfX {l : Launch} {y : MethodName} {ws ws' : List Cond} {rm : Room} {E : mE} {av : List Value} {bs ro : va_W} {cc : ByteArray} {maxL mc ms sz : Nat} {ret : Option FieldType} (QA : (Nat → Prop) → Array Value → State → Outcome → State → Prop) (hy : plainName y.cls = true) (hw : ws = Cond.code y cc maxL ret :: ws') (hn : (lg_sl av).length ≤ maxL)
    (body : ∀ p e s m args below meth c Q, ∀ A : Nat → Prop, Q = MQ below (QA A) args s mc ms A → CallFix p m c cc maxL s args ws y.cls → meth.sig.returnType = ret → meth.locks = false → (meth.name = y.name) → (∀ q : Nat, s.heap.size ≤ q → A q) → va_P E.1 vwCl bs s.heap → va_D A bs → mK E s → mG E A s s.heap → va_P E.1 vwCl ro s.heap → (∀ (k : Nat) (q : Nat × va_E), ro[k]? = some q → ¬ A q.1) → ∀ ls, lv_has ls maxL (lv_args 0 av) →
      W p l e rm s m args below meth c s.heap [] 0 0 Q (F0 m 0 ls [])) : Met l y ws rm (mPm E av sz bs ro) (QA (va_A bs sz)) mc ms (va_A bs sz) := by
  refine Met.ofW (cc := cc) (maxL := maxL) (ret := ret) hy hw ?_
  intro p e s m args below meth c s₁ B hml hv
  obtain ⟨rfl, hsz, hP, hK, hD0, hR, hRA, hG⟩ := hv
  subst hsz
  have hl := lv_entry av hn
  rw [lg_entry_eq]
  exact body p e s m av.toArray below meth c _ (va_A bs s.heap.size) rfl ⟨B.exec, B.bytes, hml, findClass_of_methodNamed B.named, atoms_spec (ws := ws) B.pre⟩ B.returns B.notSynchronized (name_of_methodNamed B.named B.method).1 (fun q h => Or.inr h) hP hD0.self hK hG hR hRA _ hl
theorem m_cyI {E : mE} {cA : ClassId} {s : State} (h : va_K E.1 vwCl (mT E ++ [(cA, .int)]) s) : cA = E.2.2.1 := Option.some.inj ((h.2 4 _ rfl).2.symm.trans (h.2 1 _ rfl).2)
theorem m_cyZ {E : mE} {cA : ClassId} {s : State} (h : va_K E.1 vwCl (mT E ++ [(cA, .boolean)]) s) : cA = E.2.2.2.1 := Option.some.inj ((h.2 4 _ rfl).2.symm.trans (h.2 2 _ rfl).2)
theorem m_cyB {E : mE} {cA : ClassId} {s : State} (h : va_K E.1 vwCl (mT E ++ [(cA, .byte)]) s) : cA = E.2.1 := Option.some.inj ((h.2 4 _ rfl).2.symm.trans (h.2 0 _ rfl).2)
theorem m_cyL {E : mE} {cA : ClassId} {s : State} (h : va_K E.1 vwCl (mT E ++ [(cA, .object "OneDidAll$Lesson")]) s) : cA = E.2.2.2.2.1 := by
  obtain ⟨kA, comp, h1, h2, h3, h4⟩ := (h.2 4 _ rfl).2
  obtain ⟨kA', comp', g1, g2, g3, g4⟩ := (h.2 3 _ rfl).2
  exact Option.some.inj (h4.symm.trans g4)
section MX
variable {p : Program} {l : Launch} {e : Env} {R : Room} {s : State} {m : MethodId} {args : Array Value} {below : List Frame} {meth : Method} {c : Code} {H : Heap} {locs : List Loc} {cells slots : Nat} {Q : State → Prop} {pc : Nat} {ls : Array Slot} {rest st0 : List Value} {a : Array Value} {A0 A1 : Nat → Prop} {mc ms : Nat} {E : mE}
variable {S : Type} {v : S → Option Value} {w1 : S → va_W} {P : S → Prop}
theorem m_goX (hr : va_Run p l e R s m args below meth c H locs cells slots mc ms (F0 m pc ls st0) rest (mSx E v w1 P A1 a) A1) (hS : va_S A0 s.heap H locs) (hA : ∀ q, A1 q → A0 q)
    (kk : ∀ (u : S) (H1 : Heap) (locs1 : List Loc), P u → va_P E.1 vwCl (w1 u) H1 → va_D A1 (w1 u) → H.size ≤ H1.size → (∀ q : Nat, q < H.size → ¬ A1 q → H1[q]? = H[q]?) → va_S A0 s.heap H1 locs1 → W p l e R s m args below meth c H1 locs1 (cells + mc) (slots + ms) Q (F0 m (pc + 3) ls ((v u).toList ++ rest))) : W p l e R s m args below meth c H locs cells slots Q (F0 m pc ls st0) := by
  intro T hT X
  obtain ⟨v', st₀, t, T', L, h0, X', hL, e1, e2, ⟨⟨u, hv, hu, hp, hd⟩, hz, hk⟩, st⟩ := hr T hT X
  cases hv
  rw [h0] at hz hk
  obtain ⟨t2, a1, b1⟩ := kk u T'.heap (locs ++ L) hu (by rw [e1]; exact hp) hd (by rw [e1]; exact hz) (fun q h1 h2 => by rw [e1]; exact hk q h1 h2)
    ⟨Nat.le_trans hS.1 (by rw [e1]; exact hz), fun q h1 h2 => by rw [e1, hk q (Nat.lt_of_lt_of_le h1 hS.1) (fun z => h2 (hA q z))]; exact hS.2.1 q h1 h2, fun q hq => by
      rcases List.mem_append.mp hq with h | h
      · exact hS.2.2 q h
      · exact hA _ (hL q h)⟩ T' rfl X'
  exact ⟨t2, st t2 a1, b1⟩
variable {y : MethodName} {bytes cc : ByteArray} {maxL nL n index : Nat} {ret : Option FieldType} {ws ws' : List Cond} {rm : Room} {Ts : List Cond} {own C host : String} {b : Addr} {As : List Value} {bs ro : va_W} {q : vw_C} {ci : Nat} {fs : List Value}
/-- a constructor, by its plain link -/
theorem mIX (S' : CallFix p m c cc nL s args Ts own) (hK : mK E s) (hGl : mG E A0 s s.heap) (hM : Met l y ws rm (mPm E (.ref b :: As) H.size bs ro) (mSx E v w1 P (va_A bs H.size)) mc ms (va_A bs H.size)) (hG : GoodIn Ts ws) (hw : ws = Cond.code y bytes maxL none :: ws') (hrm : rm.cells = mc ∧ rm.slots = ms)
    (hini : (Cond.initialized y.cls).before args s = true) (hl' : (Cond.methodLink own index y).before args s = true) (hin : (Cond.instanceMethod y).before args s = true) (hy1 : y.name = "<init>")
    (hd : y.cls ≠ "java/lang/invoke/MethodHandle" ∧ y.cls ≠ "java/lang/invoke/VarHandle" ∧ (parseMethodDescriptor y.desc).map (fun d => d.parameters.length) = some n) (hR : rm.frames + 1 ≤ R.frames ∧ 8 + (maxL + 11) + rm.locals ≤ R.locals)
    (hP : va_P E.1 vwCl bs H) (hD : va_D A1 bs) (hRo : va_P E.1 vwCl ro H) (hRA : ∀ (k : Nat) (q : Nat × va_E), ro[k]? = some q → ¬ va_A bs H.size q.1) (hS : va_S A0 s.heap H locs) (hF : ∀ q, va_A bs H.size q → A0 q) (hn : As.length = n) (hl : ls.size = nL) (hst : st0 = As.reverse ++ .ref b :: rest) (hcat : (rest.map fun v => v.category).sum ≤ 8) (hroom : cells + mc ≤ R.cells ∧ slots + ms ≤ R.slots) (hdg : decode cc pc = .ok (.invokespecial index, 3))
    (kk : ∀ (u : S) (H1 : Heap) (locs1 : List Loc), P u → va_P E.1 vwCl (w1 u) H1 → va_D (va_A bs H.size) (w1 u) → H.size ≤ H1.size → (∀ q : Nat, q < H.size → ¬ va_A bs H.size q → H1[q]? = H[q]?) → va_S A0 s.heap H1 locs1 → W p l e R s m args below meth c H1 locs1 (cells + mc) (slots + ms) Q (F0 m (pc + 3) ls ((v u).toList ++ rest))) : W p l e R s m args below meth c H locs cells slots Q (F0 m pc ls st0) :=
  m_goX (va_runI (As := As) (rest := rest) S' hM (cwI n S'.2.2.2.2 hG hw hrm.1 hrm.2 hini hl' hin hy1 hd hR) ⟨mPm_fb, fun U hU hW => ⟨rfl, by rw [hU], by rw [hU]; exact hP, mK_warm hW hK, hD.weaken (fun _ _ _ _ => trivial), by rw [hU]; exact hRo, hRA, by rw [hU]; exact hGl.pass hS hW hF⟩⟩ rfl hn hl hst (lv_room hcat) hdg hroom) hS hF kk
/-- a nest mate's private constructor -/
theorem mINX (S' : CallFix p m c cc nL s args Ts own) (hK : mK E s) (hGl : mG E A0 s s.heap) (hM : Met l y ws rm (mPm E (.ref b :: As) H.size bs ro) (mSx E v w1 P (va_A bs H.size)) mc ms (va_A bs H.size)) (hG : GoodIn Ts ws) (hw : ws = Cond.code y bytes maxL none :: ws') (hrm : rm.cells = mc ∧ rm.slots = ms)
    (hini : (Cond.initialized y.cls).before args s = true) (hl' : va_Nw (.methodLinkNest own index y host) s) (hin : (Cond.instanceMethod y).before args s = true) (hy1 : y.name = "<init>")
    (hd : y.cls ≠ "java/lang/invoke/MethodHandle" ∧ y.cls ≠ "java/lang/invoke/VarHandle" ∧ (parseMethodDescriptor y.desc).map (fun d => d.parameters.length) = some n) (hR : rm.frames + 1 ≤ R.frames ∧ 8 + (maxL + 11) + rm.locals ≤ R.locals)
    (hP : va_P E.1 vwCl bs H) (hD : va_D A1 bs) (hRo : va_P E.1 vwCl ro H) (hRA : ∀ (k : Nat) (q : Nat × va_E), ro[k]? = some q → ¬ va_A bs H.size q.1) (hS : va_S A0 s.heap H locs) (hF : ∀ q, va_A bs H.size q → A0 q) (hn : As.length = n) (hl : ls.size = nL) (hst : st0 = As.reverse ++ .ref b :: rest) (hcat : (rest.map fun v => v.category).sum ≤ 8) (hroom : cells + mc ≤ R.cells ∧ slots + ms ≤ R.slots) (hdg : decode cc pc = .ok (.invokespecial index, 3))
    (kk : ∀ (u : S) (H1 : Heap) (locs1 : List Loc), P u → va_P E.1 vwCl (w1 u) H1 → va_D (va_A bs H.size) (w1 u) → H.size ≤ H1.size → (∀ q : Nat, q < H.size → ¬ va_A bs H.size q → H1[q]? = H[q]?) → va_S A0 s.heap H1 locs1 → W p l e R s m args below meth c H1 locs1 (cells + mc) (slots + ms) Q (F0 m (pc + 3) ls ((v u).toList ++ rest))) : W p l e R s m args below meth c H locs cells slots Q (F0 m pc ls st0) :=
  m_goX (va_runIN (As := As) (rest := rest) S' hM ⟨va_cnB n S'.2.2.2.2 hG hw hrm.1 hrm.2 hl' hini hd hR, hy1, hin⟩ ⟨mPm_fb, fun U hU hW => ⟨rfl, by rw [hU], by rw [hU]; exact hP, mK_warm hW hK, hD.weaken (fun _ _ _ _ => trivial), by rw [hU]; exact hRo, hRA, by rw [hU]; exact hGl.pass hS hW hF⟩⟩ rfl hn hl hst (lv_room hcat) hdg hroom) hS hF kk
end MX
