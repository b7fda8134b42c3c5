/-! The law's school, its switch, its loop. -/
section LX
variable {p : Program} {l : Launch} {e : Env} {RM : Room} {s : State} {m : MethodId} {args : Array Value} {below : List Frame} {meth : Method} {c : Code} {H : Heap} {locs : List Loc} {cells slots : Nat} {QQ : State → Prop} {pc0 : Nat} {ls : Array Slot} {rest st0 : List Value} {A0 : Nat → Prop} {E : mE}
variable {y : MethodName} {bytes cc : ByteArray} {maxL nL n index mc ms : Nat} {ret : Option FieldType} {ws ws' : List Cond} {rm : Room} {Ts : List Cond} {own : String} {As : List Value} {a : OneA} {v v' : OneV} {am : ModelA} {m0 m1 : ModelV} {ps : lwPS} {r : Value}
/-- a call of the class that changes it, and may make cells that it drops -/
theorem lw_xmc (S : CallFix p m c cc nL s args Ts own) (hK : mK E s) (hGl : mG E A0 s s.heap) (hA : ∀ q, s.heap.size ≤ q → A0 q)
    (hM : Met l y ws rm (mPm E (.ref (Onea_self a) :: As) H.size (One_c E a v) []) (mSm E (some r) (One_c E a v') (va_A (One_c E a v) H.size)) mc ms (va_A (One_c E a v) H.size)) (hG : GoodIn Ts (wsV own index RX7 y ws)) (hw : ws = Cond.code y bytes maxL ret :: ws') (hrm : rm.cells = mc ∧ rm.slots = ms)
    (hd : y.cls = RX7 ∧ y.cls ≠ "java/lang/invoke/MethodHandle" ∧ y.cls ≠ "java/lang/invoke/VarHandle" ∧ (parseMethodDescriptor y.desc).map (fun d => d.parameters.length) = some n) (hR : rm.frames + 1 ≤ RM.frames ∧ 8 + (maxL + 11) + rm.locals ≤ RM.locals)
    (hW : lwD E A0 a v am m0 ps H) (hS : va_S A0 s.heap H locs) (hn : As.length = n) (hl : ls.size = nL) (hst : st0 = As.reverse ++ .ref (Onea_self a) :: rest) (hcat : (rest.map fun v => v.category).sum ≤ 8) (hroom : cells + mc ≤ RM.cells ∧ slots + ms ≤ RM.slots) (hdg : decode cc pc0 = .ok (.invokevirtual index, 3))
    (kk : ∀ (H1 : Heap) (locs1 : List Loc), lwD E A0 a v' am m0 ps H1 → va_S A0 s.heap H1 locs1 → W p l e RM s m args below meth c H1 locs1 (cells + mc) (slots + ms) QQ (F0 m (pc0 + 3) ls (r :: rest))) : W p l e RM s m args below meth c H locs cells slots QQ (F0 m pc0 ls st0) := by
  obtain ⟨hP, hD⟩ := hW
  obtain ⟨hPc, hDc, hF⟩ := m_pre (List.Perm.refl _) hP hD hS hA
  refine mVM (ci := 7) (n := n) S hK hGl hM hG hw hrm hd hR hPc hDc m_nil m_nilA hS hF rfl rfl rfl hn hl hst hcat hroom hdg (fun H1 locs1 hP1 hD1 hz hk hS1 => ?_)
  exact kk H1 locs1 (m_spl (List.Perm.refl _) (List.Perm.refl _) hP hD hk hF hP1 hD1) hS1
end LX
theorem lwL_mono {ps ps' : lwPS} {v : OneV} (h : ∀ z ∈ ps, z ∈ ps') (hV : lwL ps v) : lwL ps' v := ⟨fun i q hq => by
  obtain ⟨z, h1, h2⟩ := hV.1 i q hq
  exact ⟨z, h z h1, h2⟩, fun i q hq => by
  obtain ⟨z, h1, h2⟩ := hV.2 i q hq
  exact ⟨z, h z h1, h2⟩⟩
theorem lw_perm4 {A B C D : va_W} : ((A ++ B) ++ (C ++ D)).Perm (A ++ (C ++ (B ++ D))) := by
  rw [List.append_assoc]
  exact List.Perm.append_left _ m_p1
/-- a lesson that came is none of the pool's -/
theorem lw_new {E : mE} {A0 : Nat → Prop} {a : OneA} {v : OneV} {am : ModelA} {m0 : ModelV} {ps : lwPS} {u : LessonA} {le : LessonV} (h : va_D A0 ((One_c E a v ++ Lesson_c E u le) ++ (Model_c E am m0 ++ lwPc E ps))) : lwQ ps (Lessona_self u) = none := by
  obtain ⟨h1, -⟩ := vaD_iff.mp h
  obtain ⟨-, -, h2⟩ := List.pairwise_append.mp h1
  refine lwQ_none (fun z hz e => ?_)
  obtain ⟨rest, hr⟩ := lwPc_in (E := E) hz
  have m1 := List.mem_append_right (Model_c E am m0) (hr.mem_iff.mpr (List.mem_append_left rest (List.mem_cons_self (a := (Lessona_self z.1, (.inr (3, [.ref (Lessona_code z.1), .int (Lesson_codes z.2), .ref (Lessona_worths z.1), .ref (Lessona_ends z.1), .int (Lesson_spurs z.2), .int (Lesson_toldGoal z.2), .int (Lesson_fair z.2)]) : va_E))))))
  have m2 := List.mem_append_right (One_c E a v) (List.mem_cons_self (a := (Lessona_self u, (.inr (3, [.ref (Lessona_code u), .int (Lesson_codes le), .ref (Lessona_worths u), .ref (Lessona_ends u), .int (Lesson_spurs le), .int (Lesson_toldGoal le), .int (Lesson_fair le)]) : va_E))) (l := [(Lessona_code u, .inl (E.2.2.1, 100, .inl (Lesson_code le)))] ++ ([(Lessona_worths u, .inl (E.2.2.1, 10, .inl (Lesson_worths le)))] ++ ([(Lessona_ends u, .inl (E.2.2.1, 10, .inl (Lesson_ends le)))]))))
  exact h2 _ m2 _ m1 e.symm
theorem lw_q0 {E : mE} {A0 : Nat → Prop} {a : OneA} {v : OneV} {am : ModelA} {m0 : ModelV} {ps : lwPS} {H : Heap} (h : lwD E A0 a v am m0 ps H) : lwQ ps H.size = none := by
  refine lwQ_none (fun z hz e => ?_)
  obtain ⟨rest, hr⟩ := lwPc_in (E := E) hz
  have m1 := List.mem_append_right (One_c E a v) (List.mem_append_right (Model_c E am m0) (hr.mem_iff.mpr (List.mem_append_left rest (List.mem_cons_self (a := (Lessona_self z.1, (.inr (3, [.ref (Lessona_code z.1), .int (Lesson_codes z.2), .ref (Lessona_worths z.1), .ref (Lessona_ends z.1), .int (Lesson_spurs z.2), .int (Lesson_toldGoal z.2), .int (Lesson_fair z.2)]) : va_E)))))))
  have h2 := (vaP_iff.mp h.1 _ m1).lt
  exact absurd h2 (by rw [show ((Lessona_self z.1, (.inr (3, [.ref (Lessona_code z.1), .int (Lesson_codes z.2), .ref (Lessona_worths z.1), .ref (Lessona_ends z.1), .int (Lesson_spurs z.2), .int (Lesson_toldGoal z.2), .int (Lesson_fair z.2)]) : va_E)) : Nat × va_E).1 = H.size from e]; exact Nat.lt_irrefl _)
set_option maxRecDepth 100000 in
set_option maxHeartbeats 1000000 in
theorem lwc_school {E : mE} {p : Program} {l : Launch} {e : Env} {s : State} {m : MethodId} {below : List Frame} {meth : Method} {c : Code} {b L i j : Nat} {xs : Nat → Int32} {a : OneA} {am : ModelA} {v : OneV} {m0 : ModelV} {ps : lwPS} {H : Heap} {locs : List Loc} {ls : Array Slot} (C : lwG E p s m meth c b L xs) (hi : i + 5 ≤ L) (hj : j ≤ 511) (hQ : R (lwQ ps) v m0) (hV : lwL ps v) (hW : lwD E (fun q : Nat => s.heap.size ≤ q) a v am m0 ps H) (hS : va_S (fun q : Nat => s.heap.size ≤ q) s.heap H locs) (hl : lv_has ls 4 [(0, .ref b), (1, .ref (Onea_self a)), (2, .ref (Modela_self am)), (3, .int (nI i))]) (hN : lwN E p l e s m below meth c b a am i j) : W p l e room_1 s m #[Value.ref b] below meth c H locs (84 + 5 * j) (3200 + 132 * j) (lw_Z below #[Value.ref b] s) (F0 m 207 ls []) := by
  obtain ⟨⟨hx, hb, hr, hml, hown, hts, hX, hbl, hlocks, hgv⟩, hK, hGl, hL⟩ := C
  have hA : ∀ q : Nat, s.heap.size ≤ q → (fun q : Nat => s.heap.size ≤ q) q := fun _ h => h
  have hbA : ¬ (fun q : Nat => s.heap.size ≤ q) b := Nat.not_le.mpr hbl
  have CF : CallFix p m c cL_law 4 s #[Value.ref b] wsL_law RL := ⟨hx, hb, hml, hown, fun w h => hts w (wsL_law_in w h)⟩
  have hro : 84 + 5 * j ≤ room_1.cells ∧ 3200 + 132 * j ≤ room_1.slots := ⟨Nat.le_trans (show 84 + 5 * j ≤ 2639 by omega) (Nat.le_of_ble_eq_true rfl), Nat.le_trans (show 3200 + 132 * j ≤ 70652 by omega) (Nat.le_of_ble_eq_true rfl)⟩
  have hro5 : 84 + 5 * j + 5 ≤ room_1.cells ∧ 3200 + 132 * j + 132 ≤ room_1.slots := ⟨Nat.le_trans (show 84 + 5 * j + 5 ≤ 2644 by omega) (Nat.le_of_ble_eq_true rfl), Nat.le_trans (show 3200 + 132 * j + 132 ≤ 70784 by omega) (Nat.le_of_ble_eq_true rfl)⟩
  obtain ⟨L', l1, l2⟩ : ∃ L', L' ≤ 5 ∧ Room_lessonCount (One_now v) = nI L' := by
    obtain ⟨⟨n, hg, ht, ⟨L', h1, h2, h3⟩, hn⟩, hi, ha⟩ := hQ
    exact ⟨L', h1, h2⟩
  refine lv_aload_n hx hb dL_law_207 rfl (lv_at hl 1 rfl) ?_
  by_cases hf : L' = 5
  · subst hf
    have e2 := sim_school_full hQ l2
    have hc : ¬ Room_lessonCount (One_now v) < 5 := by rw [l2]; decide
    refine lw_xmc (n := 0) (rest := []) (As := []) (v' := v) (r := .int (-4)) CF hK hGl hA (c_X7_school_full l E a v hc H.size) gL_law_X7_school rfl ⟨rfl, rfl⟩ (by decide +kernel) ⟨Nat.le_of_ble_eq_true rfl, Nat.le_of_ble_eq_true rfl⟩ hW hS rfl hl.1 rfl (Nat.le_of_ble_eq_true rfl) hro5 dL_law_208 (fun H locs hW hS => ?_)
    refine lv_aload_n hx hb dL_law_211 rfl (lv_at hl 2 rfl) ?_
    refine lw_mm (n := 0) (rest := [.int (-4)]) (As := []) (m1 := m0) (r := .int (-4)) CF hK hGl hA (c_X8_school l E am m0 _ e2 H.size) gL_law_X8_school rfl ⟨rfl, rfl⟩ (by decide +kernel) ⟨Nat.le_of_ble_eq_true rfl, Nat.le_of_ble_eq_true rfl⟩ hW hS rfl hl.1 rfl (Nat.le_of_ble_eq_true rfl) hro5 dL_law_212 (fun H locs hW hS => ?_)
    refine lv_icmp_eq (tgt := 1145) hx hb dL_law_215 (by decide) (fun _ => ?_) (fun h => absurd rfl h)
    refine W.widen (k := 84 + 5 * (j + 1)) (n := 3200 + 132 * (j + 1)) (by omega) (by omega) ?_
    exact hN v m0 ps H locs ls hQ hV hW hS hl
  · have hL5 : L' < 5 := by omega
    have hc : Room_lessonCount (One_now v) < 5 := by rw [l2]; exact nI_lt (b := 5) hL5 (by omega)
    obtain ⟨t0, h0⟩ : ∃ t0, fn_X7_school v H.size = some t0 := by
      obtain ⟨ans, v', le', m', h1, h2⟩ := sim_school hQ l2 hL5 (lw_q0 hW)
      exact ⟨_, h1⟩
    obtain ⟨t, ht⟩ := Classical.axiomOfChoice (r := fun (q : Nat) (z : Int32 × OneV × LessonV) => fn_X7_school v q = some z) (fun q => school_any h0 q)
    refine lw_xs (n := 0) (rest := []) (As := []) CF hK hGl hA (c_X7_school l E a v hc t ht H.size) gL_law_X7_school rfl ⟨rfl, rfl⟩ (by decide +kernel) ⟨Nat.le_of_ble_eq_true rfl, Nat.le_of_ble_eq_true rfl⟩ hW hS rfl hl.1 rfl (Nat.le_of_ble_eq_true rfl) hro5 dL_law_208 (fun u H locs hu hW hS => ?_)
    have hq : lwQ ps (Lessona_self u) = none := lw_new hW.2
    obtain ⟨ans, v1, le1, m1, e1, e2, hR1⟩ := sim_school hQ l2 hL5 hq
    have et : t (Lessona_self u) = (ans, v1, le1) := Option.some.inj ((ht _).symm.trans e1)
    rw [et] at hW
    rw [et]
    have hW1 : lwD E (fun q : Nat => s.heap.size ≤ q) a v1 am m0 ((u, le1) :: ps) H := ⟨m_permP lw_perm4 hW.1, m_permD lw_perm4 hW.2⟩
    have hV1 : lwL ((u, le1) :: ps) v1 := li_school e1 (lwL_mono (fun z hz => List.mem_cons_of_mem _ hz) hV) ⟨(u, le1), List.mem_cons_self, rfl⟩
    have hR2 : R (lwQ ((u, le1) :: ps)) v1 m1 := hR1
    refine lv_aload_n hx hb dL_law_211 rfl (lv_at hl 2 rfl) ?_
    refine lw_mm (n := 0) (rest := [.int ans]) (As := []) (m1 := m1) (r := .int ans) CF hK hGl hA (c_X8_school l E am m0 _ e2 H.size) gL_law_X8_school rfl ⟨rfl, rfl⟩ (by decide +kernel) ⟨Nat.le_of_ble_eq_true rfl, Nat.le_of_ble_eq_true rfl⟩ hW1 hS rfl hl.1 rfl (Nat.le_of_ble_eq_true rfl) hro5 dL_law_212 (fun H locs hW hS => ?_)
    refine lv_icmp_eq (tgt := 1145) hx hb dL_law_215 (by decide) (fun _ => ?_) (fun h => absurd rfl h)
    refine W.widen (k := 84 + 5 * (j + 1)) (n := 3200 + 132 * (j + 1)) (by omega) (by omega) ?_
    exact hN v1 m1 _ H locs ls hR2 hV1 hW hS hl
theorem lw_63 (x : Int32) : ∃ k, k < 64 ∧ x &&& 63 = nI k := by
  refine ⟨(x.toBitVec &&& 63#32).toNat, ?_, ?_⟩
  · rw [BitVec.toNat_and]
    exact Nat.lt_of_le_of_lt Nat.and_le_right (by decide)
  · apply Int32.toBitVec_inj.mp
    show x.toBitVec &&& 63#32 = BitVec.ofNat 32 (x.toBitVec &&& 63#32).toNat
    rw [BitVec.ofNat_toNat, BitVec.setWidth_eq]
theorem lw_switch {E : mE} {p : Program} {l : Launch} {e : Env} {s : State} {m : MethodId} {below : List Frame} {meth : Method} {c : Code} {b L i j : Nat} {xs : Nat → Int32} {a : OneA} {am : ModelA} {v : OneV} {m0 : ModelV} {ps : lwPS} {H : Heap} {locs : List Loc} {ls : Array Slot} (C : lwG E p s m meth c b L xs) (hi : i + 5 ≤ L) (hj : j ≤ 511) (hQ : R (lwQ ps) v m0) (hV : lwL ps v) (hW : lwD E (fun q : Nat => s.heap.size ≤ q) a v am m0 ps H) (hS : va_S (fun q : Nat => s.heap.size ≤ q) s.heap H locs) (hl : lv_has ls 4 [(0, .ref b), (1, .ref (Onea_self a)), (2, .ref (Modela_self am)), (3, .int (nI i))]) (hN : lwN E p l e s m below meth c b a am i j) : W p l e room_1 s m #[Value.ref b] below meth c H locs (84 + 5 * j) (3200 + 132 * j) (lw_Z below #[Value.ref b] s) (F0 m 26 ls []) := by
  have C0 := C
  obtain ⟨⟨hx, hb, hr, hml, hown, hts, hX, hbl, hlocks, hgv⟩, hK, hGl, hL⟩ := C
  have hA : ∀ q : Nat, s.heap.size ≤ q → (fun q : Nat => s.heap.size ≤ q) q := fun _ h => h
  have hbA : ¬ (fun q : Nat => s.heap.size ≤ q) b := Nat.not_le.mpr hbl
  have CF : CallFix p m c cL_law 4 s #[Value.ref b] wsL_law RL := ⟨hx, hb, hml, hown, fun w h => hts w (wsL_law_in w h)⟩
  have hro : 84 + 5 * j ≤ room_1.cells ∧ 3200 + 132 * j ≤ room_1.slots := ⟨Nat.le_trans (show 84 + 5 * j ≤ 2639 by omega) (Nat.le_of_ble_eq_true rfl), Nat.le_trans (show 3200 + 132 * j ≤ 70652 by omega) (Nat.le_of_ble_eq_true rfl)⟩
  refine lv_aload_n hx hb dL_law_26 rfl (lv_at hl 0 rfl) ?_
  refine lv_iload_n hx hb dL_law_27 rfl (lv_at hl 3 rfl) ?_
  refine va_sld hx hb hX hbl hbA hS (lw_in0 hi hL) dL_law_28 ?_
  refine lv_bipush (v := 63) hx hb dL_law_29 (by decide) ?_
  refine lv_iand hx hb dL_law_31 ?_
  obtain ⟨k, hk, ek⟩ := lw_63 (xs (nI i).toNatClampNeg)
  rw [ek]
  by_cases hb33 : 33 < k
  · refine lv_tableOut (tgt := 1145) hx hb dL_law_32 (Or.inr (by rw [nI_toInt (by omega)]; omega)) (by decide) ?_
    refine W.widen (k := 84 + 5 * (j + 1)) (n := 3200 + 132 * (j + 1)) (by omega) (by omega) ?_
    exact hN v m0 ps H locs ls hQ hV hW hS hl
  · have h34 : k = 0 ∨ k = 1 ∨ k = 2 ∨ k = 3 ∨ k = 4 ∨ k = 5 ∨ k = 6 ∨ k = 7 ∨ k = 8 ∨ k = 9 ∨ k = 10 ∨ k = 11 ∨ k = 12 ∨ k = 13 ∨ k = 14 ∨ k = 15 ∨ k = 16 ∨ k = 17 ∨ k = 18 ∨ k = 19 ∨ k = 20 ∨ k = 21 ∨ k = 22 ∨ k = 23 ∨ k = 24 ∨ k = 25 ∨ k = 26 ∨ k = 27 ∨ k = 28 ∨ k = 29 ∨ k = 30 ∨ k = 31 ∨ k = 32 ∨ k = 33 := by omega
    rcases h34 with rfl | rfl | rfl | rfl | rfl | rfl | rfl | rfl | rfl | rfl | rfl | rfl | rfl | rfl | rfl | rfl | rfl | rfl | rfl | rfl | rfl | rfl | rfl | rfl | rfl | rfl | rfl | rfl | rfl | rfl | rfl | rfl | rfl | rfl
    · exact lv_tableIn (off := 152) (tgt := 184) hx hb dL_law_32 (by decide) (by decide) rfl (by decide) (lwc_feed C0 hi hj hQ hV hW hS hl hN)
    · exact lv_tableIn (off := 175) (tgt := 207) hx hb dL_law_32 (by decide) (by decide) rfl (by decide) (lwc_school C0 hi hj hQ hV hW hS hl hN)
    · exact lv_tableIn (off := 188) (tgt := 220) hx hb dL_law_32 (by decide) (by decide) rfl (by decide) (lwc_pupil C0 hi hj hQ hV hW hS hl hN)
    · exact lv_tableIn (off := 241) (tgt := 273) hx hb dL_law_32 (by decide) (by decide) rfl (by decide) (lwc_of C0 hi hj hQ hV hW hS hl hN)
    · exact lv_tableIn (off := 274) (tgt := 306) hx hb dL_law_32 (by decide) (by decide) rfl (by decide) (lwc_row C0 hi hj hQ hV hW hS hl hN)
    · exact lv_tableIn (off := 317) (tgt := 349) hx hb dL_law_32 (by decide) (by decide) rfl (by decide) (lwc_will C0 hi hj hQ hV hW hS hl hN)
    · exact lv_tableIn (off := 350) (tgt := 382) hx hb dL_law_32 (by decide) (by decide) rfl (by decide) (lwc_out C0 hi hj hQ hV hW hS hl hN)
    · exact lv_tableIn (off := 399) (tgt := 431) hx hb dL_law_32 (by decide) (by decide) rfl (by decide) (lwc_told C0 hi hj hQ hV hW hS hl hN)
    · exact lv_tableIn (off := 422) (tgt := 454) hx hb dL_law_32 (by decide) (by decide) rfl (by decide) (lwc_mark C0 hi hj hQ hV hW hS hl hN)
    · exact lv_tableIn (off := 455) (tgt := 487) hx hb dL_law_32 (by decide) (by decide) rfl (by decide) (lwc_pass C0 hi hj hQ hV hW hS hl hN)
    · exact lv_tableIn (off := 478) (tgt := 510) hx hb dL_law_32 (by decide) (by decide) rfl (by decide) (lwc_on C0 hi hj hQ hV hW hS hl hN)
    · exact lv_tableIn (off := 511) (tgt := 543) hx hb dL_law_32 (by decide) (by decide) rfl (by decide) (lwc_ready C0 hi hj hQ hV hW hS hl hN)
    · exact lv_tableIn (off := 524) (tgt := 556) hx hb dL_law_32 (by decide) (by decide) rfl (by decide) (lwc_spread C0 hi hj hQ hV hW hS hl hN)
    · exact lv_tableIn (off := 547) (tgt := 579) hx hb dL_law_32 (by decide) (by decide) rfl (by decide) (lwc_nearest C0 hi hj hQ hV hW hS hl hN)
    · exact lv_tableIn (off := 560) (tgt := 592) hx hb dL_law_32 (by decide) (by decide) rfl (by decide) (lwc_throwOut C0 hi hj hQ hV hW hS hl hN)
    · exact lv_tableIn (off := 573) (tgt := 605) hx hb dL_law_32 (by decide) (by decide) rfl (by decide) (lwc_alone C0 hi hj hQ hV hW hS hl hN)
    · exact lv_tableIn (off := 596) (tgt := 628) hx hb dL_law_32 (by decide) (by decide) rfl (by decide) (lwc_team C0 hi hj hQ hV hW hS hl hN)
    · exact lv_tableIn (off := 629) (tgt := 661) hx hb dL_law_32 (by decide) (by decide) rfl (by decide) (lwc_split C0 hi hj hQ hV hW hS hl hN)
    · exact lv_tableIn (off := 652) (tgt := 684) hx hb dL_law_32 (by decide) (by decide) rfl (by decide) (lwc_part C0 hi hj hQ hV hW hS hl hN)
    · exact lv_tableIn (off := 686) (tgt := 718) hx hb dL_law_32 (by decide) (by decide) rfl (by decide) (lwc_see C0 hi hj hQ hV hW hS hl hN)
    · exact lv_tableIn (off := 719) (tgt := 751) hx hb dL_law_32 (by decide) (by decide) rfl (by decide) (lwc_skilled C0 hi hj hQ hV hW hS hl hN)
    · exact lv_tableIn (off := 752) (tgt := 784) hx hb dL_law_32 (by decide) (by decide) rfl (by decide) (lwc_firm C0 hi hj hQ hV hW hS hl hN)
    · exact lv_tableIn (off := 785) (tgt := 817) hx hb dL_law_32 (by decide) (by decide) rfl (by decide) (lwc_odds C0 hi hj hQ hV hW hS hl hN)
    · exact lv_tableIn (off := 829) (tgt := 861) hx hb dL_law_32 (by decide) (by decide) rfl (by decide) (lwc_mean C0 hi hj hQ hV hW hS hl hN)
    · exact lv_tableIn (off := 863) (tgt := 895) hx hb dL_law_32 (by decide) (by decide) rfl (by decide) (lwc_plan C0 hi hj hQ hV hW hS hl hN)
    · exact lv_tableIn (off := 896) (tgt := 928) hx hb dL_law_32 (by decide) (by decide) rfl (by decide) (lwc_done C0 hi hj hQ hV hW hS hl hN)
    · exact lv_tableIn (off := 919) (tgt := 951) hx hb dL_law_32 (by decide) (by decide) rfl (by decide) (lwc_book C0 hi hj hQ hV hW hS hl hN)
    · exact lv_tableIn (off := 952) (tgt := 984) hx hb dL_law_32 (by decide) (by decide) rfl (by decide) (lwc_looked C0 hi hj hQ hV hW hS hl hN)
    · exact lv_tableIn (off := 965) (tgt := 997) hx hb dL_law_32 (by decide) (by decide) rfl (by decide) (lwc_act C0 hi hj hQ hV hW hS hl hN)
    · exact lv_tableIn (off := 1008) (tgt := 1040) hx hb dL_law_32 (by decide) (by decide) rfl (by decide) (lwc_trace C0 hi hj hQ hV hW hS hl hN)
    · exact lv_tableIn (off := 1031) (tgt := 1063) hx hb dL_law_32 (by decide) (by decide) rfl (by decide) (lwc_as C0 hi hj hQ hV hW hS hl hN)
    · exact lv_tableIn (off := 1064) (tgt := 1096) hx hb dL_law_32 (by decide) (by decide) rfl (by decide) (lwc_image C0 hi hj hQ hV hW hS hl hN)
    · exact lv_tableIn (off := 1077) (tgt := 1109) hx hb dL_law_32 (by decide) (by decide) rfl (by decide) (lwc_undo C0 hi hj hQ hV hW hS hl hN)
    · exact lv_tableIn (off := 1090) (tgt := 1122) hx hb dL_law_32 (by decide) (by decide) rfl (by decide) (lwc_count C0 hi hj hQ hV hW hS hl hN)
/-- THE LAW'S LOOP: at its head both agree -/
theorem lw_loop {E : mE} {p : Program} {l : Launch} {e : Env} {s : State} {m : MethodId} {below : List Frame} {meth : Method} {c : Code} {b L : Nat} {xs : Nat → Int32} {a : OneA} {am : ModelA} (C : lwG E p s m meth c b L xs) : ∀ (n j : Nat), 5 * j ≤ L → L + 1 ≤ 5 * j + n → ∀ (v : OneV) (m0 : ModelV) (ps : lwPS) (H : Heap) (locs : List Loc) (ls : Array Slot), R (lwQ ps) v m0 → lwL ps v → lwD E (fun q : Nat => s.heap.size ≤ q) a v am m0 ps H → va_S (fun q : Nat => s.heap.size ≤ q) s.heap H locs → lv_has ls 4 [(0, .ref b), (1, .ref (Onea_self a)), (2, .ref (Modela_self am)), (3, .int (nI (5 * j)))] → W p l e room_1 s m #[Value.ref b] below meth c H locs (84 + 5 * j) (3200 + 132 * j) (lw_Z below #[Value.ref b] s) (F0 m 18 ls []) := by
  have C0 := C
  obtain ⟨⟨hx, hb, hr, hml, hown, hts, hX, hbl, hlocks, hgv⟩, hK, hGl, hL⟩ := C
  have hbA : ¬ (fun q : Nat => s.heap.size ≤ q) b := Nat.not_le.mpr hbl
  intro n
  induction n with
  | zero =>
    intro j h1 h2
    exact absurd h2 (by omega)
  | succ n ih =>
    intro j h1 h2 v m0 ps H locs ls hQ hV hW hS hl
    refine lv_iload_n hx hb dL_law_18 rfl (lv_at hl 3 rfl) ?_
    refine lv_aload_n hx hb dL_law_19 rfl (lv_at hl 0 rfl) ?_
    refine va_slen hx hb hX hbl hbA hS dL_law_20 ?_
    refine lv_iconst (v := 5) hx hb dL_law_21 (by decide) ?_
    refine lv_isub hx hb dL_law_22 ?_
    have hsub : (Int32.ofNat L - 5).toInt = (L : Int) - 5 := pk_sub_toInt (a := L) (b := 5) (by omega) (by omega)
    have hti : (nI (5 * j)).toInt = ((5 * j : Nat) : Int) := nI_toInt (by omega)
    refine lv_icmp_gt (tgt := 1151) hx hb dL_law_23 (by decide) (fun c1 => ?_) (fun c1 => ?_)
    · refine lv_iconst (v := 1) hx hb dL_law_1151 (by decide) ?_
      refine va_forget (fun q hq => hS.2.2 q hq) ?_
      refine W.widen (k := 600000) (n := 7302250) (by omega) (by omega) ?_
      exact lw_ret hx hb hr hlocks dL_law_1152
    · rw [Int32.lt_iff_toInt_lt, hsub, hti] at c1
      have hi : 5 * j + 5 ≤ L := by omega
      refine lw_switch C0 hi (by omega) hQ hV hW hS hl (fun v m0 ps H locs ls hQ hV hW hS hl => ?_)
      refine lv_iinc (v := nI (5 * (j + 1))) (lv' := [(3, .int (nI (5 * (j + 1)))), (0, .ref b), (1, .ref (Onea_self a)), (2, .ref (Modela_self am))]) hx hb dL_law_1145 hl (k := 3) rfl (nI_add (5 * j) 5) (by decide) rfl (fun ls hl => ?_)
      refine lv_goto (tgt := 18) hx hb dL_law_1148 (by decide) ?_
      exact ih (j + 1) (by omega) (by omega) v m0 ps H locs ls hQ hV hW hS (lv_sub hl [1, 2, 3, 0] rfl)
