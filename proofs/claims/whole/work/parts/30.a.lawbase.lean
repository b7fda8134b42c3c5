/-! The law's own layer: the pool of lessons, the world, one row a call. -/
abbrev lwPS : Type := List (LessonA × LessonV)
def lwPc (E : mE) (ps : lwPS) : va_W := ps.flatMap (fun z => Lesson_c E z.1 z.2)
def lwQ : lwPS → Nat → Option LessonV
  | [] => fun _ => none
  | z :: ps => fun q => if q = Lessona_self z.1 then some z.2 else lwQ ps q
theorem lwQ_mem : ∀ {ps : lwPS} {q : Nat} {le : LessonV}, lwQ ps q = some le → ∃ ea : LessonA, (ea, le) ∈ ps ∧ Lessona_self ea = q := by
  intro ps
  induction ps with
  | nil => intro q le h; cases h
  | cons z ps ih =>
    intro q le h
    have h : (if q = Lessona_self z.1 then some z.2 else lwQ ps q) = some le := h
    by_cases e : q = Lessona_self z.1
    · rw [if_pos e] at h
      cases h
      exact ⟨z.1, List.mem_cons_self, e.symm⟩
    · rw [if_neg e] at h
      obtain ⟨ea, h1, h2⟩ := ih h
      exact ⟨ea, List.mem_cons_of_mem _ h1, h2⟩
theorem lwQ_none : ∀ {ps : lwPS} {q : Nat}, (∀ z ∈ ps, Lessona_self z.1 ≠ q) → lwQ ps q = none := by
  intro ps
  induction ps with
  | nil => intro q h; rfl
  | cons z ps ih =>
    intro q h
    show (if q = Lessona_self z.1 then some z.2 else lwQ ps q) = none
    rw [if_neg (fun e => h z List.mem_cons_self e.symm)]
    exact ih (fun w hw => h w (List.mem_cons_of_mem _ hw))
theorem lwPc_in {E : mE} : ∀ {ps : lwPS} {z : LessonA × LessonV}, z ∈ ps → ∃ rest, (lwPc E ps).Perm (Lesson_c E z.1 z.2 ++ rest) := by
  intro ps
  induction ps with
  | nil => intro z h; cases h
  | cons y ps ih =>
    intro z h
    rcases List.mem_cons.mp h with rfl | h
    · exact ⟨lwPc E ps, List.Perm.refl _⟩
    · obtain ⟨rest, hr⟩ := ih h
      exact ⟨Lesson_c E y.1 y.2 ++ rest, (List.Perm.append_left _ hr).trans m_p1⟩
/-- the law's world: the class, the reference, all lessons that were made -/
def lwW (E : mE) (a : OneA) (v : OneV) (am : ModelA) (m0 : ModelV) (ps : lwPS) : va_W := One_c E a v ++ (Model_c E am m0 ++ lwPc E ps)
def lwD (E : mE) (A0 : Nat → Prop) (a : OneA) (v : OneV) (am : ModelA) (m0 : ModelV) (ps : lwPS) (H : Heap) : Prop := va_P E.1 vwCl (lwW E a v am m0 ps) H ∧ va_D A0 (lwW E a v am m0 ps)
theorem lw_perm {E : mE} {a : OneA} {v : OneV} {am : ModelA} {m0 : ModelV} {ps : lwPS} : (lwW E a v am m0 ps).Perm (Model_c E am m0 ++ (One_c E a v ++ lwPc E ps)) := m_p1
/-- what is said of the pool -/
def lwL (ps : lwPS) (v : OneV) : Prop := LV (fun q => ∃ z ∈ ps, Lessona_self z.1 = q) v
theorem lw_hl {ps : lwPS} {v : OneV} {m0 : ModelV} (h : R (lwQ ps) v m0) : ∃ (ea : LessonA) (le : LessonV), (ea, le) ∈ ps ∧ HL (lwQ ps) (One_now v) (Model_s m0) (Lessona_self ea) le := by
  obtain ⟨⟨n, hg, ht, hl, hn, hs⟩, hi, ha⟩ := h
  obtain ⟨q, le, hH⟩ := room_lesson hl hn
  obtain ⟨ea, h1, rfl⟩ := lwQ_mem hH.2.1
  exact ⟨ea, le, h1, hH⟩
theorem lw_rp {E : mE} {ps : lwPS} {r : Nat} (h : ∃ z ∈ ps, Lessona_self z.1 = r) : ∃ (k : Nat) (fs : List Value), (lwPc E ps)[k]? = some (r, .inr (3, fs)) := by
  obtain ⟨z, hz, rfl⟩ := h
  obtain ⟨rest, hr⟩ := lwPc_in (E := E) hz
  have hm : (Lessona_self z.1, (.inr (3, [.ref (Lessona_code z.1), .int (Lesson_codes z.2), .ref (Lessona_worths z.1), .ref (Lessona_ends z.1), .int (Lesson_spurs z.2), .int (Lesson_toldGoal z.2), .int (Lesson_fair z.2)]) : va_E)) ∈ lwPc E ps := hr.mem_iff.mpr (List.mem_append_left _ List.mem_cons_self)
  obtain ⟨k, hk⟩ := List.getElem?_of_mem hm
  exact ⟨k, _, hk⟩
section LW
variable {p : Program} {l : Launch} {e : Env} {RM : Room} {s : State} {m : MethodId} {args : Array Value} {below : List Frame} {meth : Method} {c : Code} {H : Heap} {locs : List Loc} {cells slots : Nat} {QQ : State → Prop} {pc0 : Nat} {ls : Array Slot} {rest st0 : List Value} {A0 : Nat → Prop} {E : mE}
variable {y : MethodName} {bytes cc : ByteArray} {maxL nL n index : Nat} {ret : Option FieldType} {ws ws' : List Cond} {rm : Room} {Ts : List Cond} {own : String} {As : List Value} {a : OneA} {v v' : OneV} {am : ModelA} {m0 m1 : ModelV} {ps : lwPS} {ro : va_W} {r : Value}
/-- a call of the class that changes it -/
theorem lw_xm (S : CallFix p m c cc nL s args Ts own) (hK : mK E s) (hGl : mG E A0 s s.heap) (hA : ∀ q, s.heap.size ≤ q → A0 q) (hro : ∃ rest, (lwPc E ps).Perm (ro ++ rest))
    (hM : Met l y ws rm (mPm E (.ref (Onea_self a) :: As) H.size (One_c E a v) ro) (mSm E (some r) (One_c E a v') (va_A (One_c E a v) H.size)) 0 0 (va_A (One_c E a v) H.size)) (hG : GoodIn Ts (wsV own index RX7 y ws)) (hw : ws = Cond.code y bytes maxL ret :: ws') (hrm : rm.cells = 0 ∧ rm.slots = 0)
    (hd : y.cls = RX7 ∧ y.cls ≠ "java/lang/invoke/MethodHandle" ∧ y.cls ≠ "java/lang/invoke/VarHandle" ∧ (parseMethodDescriptor y.desc).map (fun d => d.parameters.length) = some n) (hR : rm.frames + 1 ≤ RM.frames ∧ 8 + (maxL + 11) + rm.locals ≤ RM.locals)
    (hW : lwD E A0 a v am m0 ps H) (hS : va_S A0 s.heap H locs) (hn : As.length = n) (hl : ls.size = nL) (hst : st0 = As.reverse ++ .ref (Onea_self a) :: rest) (hcat : (rest.map fun v => v.category).sum ≤ 8) (hroom : cells ≤ RM.cells ∧ slots ≤ RM.slots) (hdg : decode cc pc0 = .ok (.invokevirtual index, 3))
    (kk : ∀ (H1 : Heap) (locs1 : List Loc), lwD E A0 a v' am m0 ps H1 → va_S A0 s.heap H1 locs1 → W p l e RM s m args below meth c H1 locs1 cells slots QQ (F0 m (pc0 + 3) ls (r :: rest))) : W p l e RM s m args below meth c H locs cells slots QQ (F0 m pc0 ls st0) := by
  obtain ⟨hP, hD⟩ := hW
  obtain ⟨rest', hr⟩ := hro
  obtain ⟨hPc, hDc, hF⟩ := m_pre (List.Perm.refl _) hP hD hS hA
  have hRo : va_P E.1 vwCl ro H := vaP_iff.mpr (fun q hq => vaP_iff.mp hP q (List.mem_append_right _ (List.mem_append_right _ (hr.mem_iff.mpr (List.mem_append_left _ hq)))))
  have hp2 : (lwW E a v am m0 ps).Perm (One_c E a v ++ (ro ++ (Model_c E am m0 ++ rest'))) := List.Perm.append_left _ ((List.Perm.append_left _ hr).trans m_p1)
  have hRA := m_apart2 hp2 hP hD 0 ro.length (wr := ro) (by rw [List.drop_zero]; exact List.take_left)
  refine mVM (ci := 7) (n := n) S hK hGl hM hG hw hrm hd hR hPc hDc hRo hRA hS hF rfl rfl rfl hn hl hst hcat hroom hdg (fun H1 locs1 hP1 hD1 hz hk hS1 => ?_)
  exact kk H1 locs1 (m_spl (List.Perm.refl _) (List.Perm.refl _) hP hD hk hF hP1 hD1) hS1
/-- a call of the reference that changes it -/
theorem lw_mm (S : CallFix p m c cc nL s args Ts own) (hK : mK E s) (hGl : mG E A0 s s.heap) (hA : ∀ q, s.heap.size ≤ q → A0 q)
    (hM : Met l y ws rm (mPm E (.ref (Modela_self am) :: As) H.size (Model_c E am m0) []) (mSm E (some r) (Model_c E am m1) (va_A (Model_c E am m0) H.size)) 0 0 (va_A (Model_c E am m0) H.size)) (hG : GoodIn Ts (wsV own index RX8 y ws)) (hw : ws = Cond.code y bytes maxL ret :: ws') (hrm : rm.cells = 0 ∧ rm.slots = 0)
    (hd : y.cls = RX8 ∧ y.cls ≠ "java/lang/invoke/MethodHandle" ∧ y.cls ≠ "java/lang/invoke/VarHandle" ∧ (parseMethodDescriptor y.desc).map (fun d => d.parameters.length) = some n) (hR : rm.frames + 1 ≤ RM.frames ∧ 8 + (maxL + 11) + rm.locals ≤ RM.locals)
    (hW : lwD E A0 a v am m0 ps H) (hS : va_S A0 s.heap H locs) (hn : As.length = n) (hl : ls.size = nL) (hst : st0 = As.reverse ++ .ref (Modela_self am) :: rest) (hcat : (rest.map fun v => v.category).sum ≤ 8) (hroom : cells ≤ RM.cells ∧ slots ≤ RM.slots) (hdg : decode cc pc0 = .ok (.invokevirtual index, 3))
    (kk : ∀ (H1 : Heap) (locs1 : List Loc), lwD E A0 a v am m1 ps H1 → va_S A0 s.heap H1 locs1 → W p l e RM s m args below meth c H1 locs1 cells slots QQ (F0 m (pc0 + 3) ls (r :: rest))) : W p l e RM s m args below meth c H locs cells slots QQ (F0 m pc0 ls st0) := by
  obtain ⟨hP, hD⟩ := hW
  obtain ⟨hPc, hDc, hF⟩ := m_pre lw_perm hP hD hS hA
  refine mVM (ci := 8) (n := n) S hK hGl hM hG hw hrm hd hR hPc hDc m_nil m_nilA hS hF rfl rfl rfl hn hl hst hcat hroom hdg (fun H1 locs1 hP1 hD1 hz hk hS1 => ?_)
  exact kk H1 locs1 (m_spl lw_perm lw_perm hP hD hk hF hP1 hD1) hS1
/-- a call of the class that changes nothing -/
theorem lw_xp {bs : va_W} (S : CallFix p m c cc nL s args Ts own) (hK : mK E s) (hGl : mG E A0 s s.heap) (hbs : ∀ q ∈ bs, q ∈ lwW E a v am m0 ps) {fs : List Value} (he : bs[0]? = some (Onea_self a, .inr (7, fs)))
    (hM : Met l y ws rm (mPp E (.ref (Onea_self a) :: As) bs) (mSp (some r)) 0 0 (fun _ => False)) (hG : GoodIn Ts (wsV own index RX7 y ws)) (hw : ws = Cond.code y bytes maxL ret :: ws') (hrm : rm.cells = 0 ∧ rm.slots = 0)
    (hd : y.cls = RX7 ∧ y.cls ≠ "java/lang/invoke/MethodHandle" ∧ y.cls ≠ "java/lang/invoke/VarHandle" ∧ (parseMethodDescriptor y.desc).map (fun d => d.parameters.length) = some n) (hR : rm.frames + 1 ≤ RM.frames ∧ 8 + (maxL + 11) + rm.locals ≤ RM.locals)
    (hW : lwD E A0 a v am m0 ps H) (hS : va_S A0 s.heap H locs) (hn : As.length = n) (hl : ls.size = nL) (hst : st0 = As.reverse ++ .ref (Onea_self a) :: rest) (hcat : (rest.map fun v => v.category).sum ≤ 8) (hroom : cells ≤ RM.cells ∧ slots ≤ RM.slots) (hdg : decode cc pc0 = .ok (.invokevirtual index, 3))
    (kk : W p l e RM s m args below meth c H locs cells slots QQ (F0 m (pc0 + 3) ls (r :: rest))) : W p l e RM s m args below meth c H locs cells slots QQ (F0 m pc0 ls st0) :=
  mVP (ci := 7) (n := n) S hK hGl hS hM hG hw hrm hd hR (vaP_iff.mpr (fun q hq => vaP_iff.mp hW.1 q (hbs q hq))) rfl rfl he hn hl hst hcat hroom hdg kk
/-- a call of the reference that changes nothing -/
theorem lw_mp (S : CallFix p m c cc nL s args Ts own) (hK : mK E s) (hGl : mG E A0 s s.heap)
    (hM : Met l y ws rm (mPp E (.ref (Modela_self am) :: As) (Model_c E am m0)) (mSp (some r)) 0 0 (fun _ => False)) (hG : GoodIn Ts (wsV own index RX8 y ws)) (hw : ws = Cond.code y bytes maxL ret :: ws') (hrm : rm.cells = 0 ∧ rm.slots = 0)
    (hd : y.cls = RX8 ∧ y.cls ≠ "java/lang/invoke/MethodHandle" ∧ y.cls ≠ "java/lang/invoke/VarHandle" ∧ (parseMethodDescriptor y.desc).map (fun d => d.parameters.length) = some n) (hR : rm.frames + 1 ≤ RM.frames ∧ 8 + (maxL + 11) + rm.locals ≤ RM.locals)
    (hW : lwD E A0 a v am m0 ps H) (hS : va_S A0 s.heap H locs) (hn : As.length = n) (hl : ls.size = nL) (hst : st0 = As.reverse ++ .ref (Modela_self am) :: rest) (hcat : (rest.map fun v => v.category).sum ≤ 8) (hroom : cells ≤ RM.cells ∧ slots ≤ RM.slots) (hdg : decode cc pc0 = .ok (.invokevirtual index, 3))
    (kk : W p l e RM s m args below meth c H locs cells slots QQ (F0 m (pc0 + 3) ls (r :: rest))) : W p l e RM s m args below meth c H locs cells slots QQ (F0 m pc0 ls st0) :=
  mVP (ci := 8) (n := n) S hK hGl hS hM hG hw hrm hd hR (vaP_iff.mpr (fun q hq => vaP_iff.mp hW.1 q (lw_perm.mem_iff.mpr (List.mem_append_left _ hq)))) rfl rfl rfl hn hl hst hcat hroom hdg kk
/-- the class's call that makes a lesson -/
theorem lw_xs {T : Type} {mc ms : Nat} {vv : T → Option Value} {w1 : T → va_W} {PP : T → Prop} (S : CallFix p m c cc nL s args Ts own) (hK : mK E s) (hGl : mG E A0 s s.heap) (hA : ∀ q, s.heap.size ≤ q → A0 q)
    (hM : Met l y ws rm (mPm E (.ref (Onea_self a) :: As) H.size (One_c E a v) []) (mSx E vv w1 PP (va_A (One_c E a v) H.size)) mc ms (va_A (One_c E a v) H.size)) (hG : GoodIn Ts (wsV own index RX7 y ws)) (hw : ws = Cond.code y bytes maxL ret :: ws') (hrm : rm.cells = mc ∧ rm.slots = ms)
    (hd : y.cls = RX7 ∧ y.cls ≠ "java/lang/invoke/MethodHandle" ∧ y.cls ≠ "java/lang/invoke/VarHandle" ∧ (parseMethodDescriptor y.desc).map (fun d => d.parameters.length) = some n) (hR : rm.frames + 1 ≤ RM.frames ∧ 8 + (maxL + 11) + rm.locals ≤ RM.locals)
    (hW : lwD E A0 a v am m0 ps H) (hS : va_S A0 s.heap H locs) (hn : As.length = n) (hl : ls.size = nL) (hst : st0 = As.reverse ++ .ref (Onea_self a) :: rest) (hcat : (rest.map fun v => v.category).sum ≤ 8) (hroom : cells + mc ≤ RM.cells ∧ slots + ms ≤ RM.slots) (hdg : decode cc pc0 = .ok (.invokevirtual index, 3))
    (kk : ∀ (u : T) (H1 : Heap) (locs1 : List Loc), PP u → va_P E.1 vwCl (w1 u ++ (Model_c E am m0 ++ lwPc E ps)) H1 ∧ va_D A0 (w1 u ++ (Model_c E am m0 ++ lwPc E ps)) → va_S A0 s.heap H1 locs1 → W p l e RM s m args below meth c H1 locs1 (cells + mc) (slots + ms) QQ (F0 m (pc0 + 3) ls ((vv u).toList ++ rest))) : W p l e RM s m args below meth c H locs cells slots QQ (F0 m pc0 ls st0) := by
  obtain ⟨hP, hD⟩ := hW
  obtain ⟨hPc, hDc, hF⟩ := m_pre (List.Perm.refl _) hP hD hS hA
  refine m_goX (va_runV (C := RX7) (As := As) (rest := rest) S hM (cwV n S.2.2.2.2 hG hw hrm.1 hrm.2 hd hR) ⟨mPm_fb, va_recv hK.1 hPc (ci := 7) (q0 := 0) rfl rfl, fun U hU hW => ⟨rfl, by rw [hU], by rw [hU]; exact hPc, mK_warm hW hK, hDc.weaken (fun _ _ _ _ => trivial), m_nil, m_nilA, by rw [hU]; exact hGl.pass hS hW hF⟩⟩ rfl hn hl hst (lv_room hcat) hdg hroom) hS hF (fun u H1 locs1 hu hP1 hD1 hz hk hS1 => ?_)
  exact kk u H1 locs1 hu (m_spl (List.Perm.refl _) (List.Perm.refl _) hP hD hk hF hP1 hD1) hS1
end LW
/-- what the law's walk rests on -/
def lwG (E : mE) (p : Program) (s : State) (m : MethodId) (meth : Method) (c : Code) (b L : Nat) (xs : Nat → Int32) : Prop := lw_At p s m meth c b L xs ∧ mK E s ∧ mG E (fun q : Nat => s.heap.size ≤ q) s s.heap ∧ L ≤ 2560
/-- behind a call of the law both agree again -/
def lwN (E : mE) (p : Program) (l : Launch) (e : Env) (s : State) (m : MethodId) (below : List Frame) (meth : Method) (c : Code) (b : Nat) (a : OneA) (am : ModelA) (i j : Nat) : Prop := ∀ (v : OneV) (m0 : ModelV) (ps : lwPS) (H : Heap) (locs : List Loc) (ls : Array Slot), R (lwQ ps) v m0 → lwL ps v → lwD E (fun q : Nat => s.heap.size ≤ q) a v am m0 ps H → va_S (fun q : Nat => s.heap.size ≤ q) s.heap H locs → lv_has ls 4 [(0, .ref b), (1, .ref (Onea_self a)), (2, .ref (Modela_self am)), (3, .int (nI i))] → W p l e room_1 s m #[Value.ref b] below meth c H locs (84 + 5 * (j + 1)) (3200 + 132 * (j + 1)) (lw_Z below #[Value.ref b] s) (F0 m 1145 ls [])
theorem lw_in {i k L : Nat} (hk : k ≤ 4) (hi : i + 5 ≤ L) (hL : L ≤ 2560) : vp_in (nI i + nI k) L := by
  rw [nI_add]
  exact vp_in_nI (by omega) (by omega)
theorem lw_in0 {i L : Nat} (hi : i + 5 ≤ L) (hL : L ≤ 2560) : vp_in (nI i) L := vp_in_nI (by omega) (by omega)
theorem lw_sub {E : mE} {a : OneA} {v : OneV} {am : ModelA} {m0 : ModelV} {ps : lwPS} {ea : LessonA} {le : LessonV} (h : (ea, le) ∈ ps) : ∀ q ∈ One_c E a v ++ Lesson_c E ea le, q ∈ lwW E a v am m0 ps := by
  intro q hq
  rcases List.mem_append.mp hq with h1 | h1
  · exact List.mem_append_left _ h1
  · obtain ⟨rest, hr⟩ := lwPc_in (E := E) h
    exact List.mem_append_right _ (List.mem_append_right _ (hr.mem_iff.mpr (List.mem_append_left _ h1)))
theorem lw_cmp (x : Int64) : lg_cmp x x = 0 := by
  unfold lg_cmp
  rw [if_neg (fun h => absurd h (Int64.lt_irrefl)), if_pos rfl]
