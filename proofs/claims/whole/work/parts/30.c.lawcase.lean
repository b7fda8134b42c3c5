/-! The law, case by case. -/
set_option maxRecDepth 100000 in
set_option maxHeartbeats 1000000 in
theorem lwc_spread {E : mE} {p : Program} {l : Launch} {e : Env} {s : State} {m : MethodId} {below : List Frame} {meth : Method} {c : Code} {b L i j : Nat} {xs : Nat → Int32} {a : OneA} {am : ModelA} {v : OneV} {m0 : ModelV} {ps : lwPS} {H : Heap} {locs : List Loc} {ls : Array Slot} (C : lwG E p s m meth c b L xs) (hi : i + 5 ≤ L) (hj : j ≤ 511) (hQ : R (lwQ ps) v m0) (hV : lwL ps v) (hW : lwD E (fun q : Nat => s.heap.size ≤ q) a v am m0 ps H) (hS : va_S (fun q : Nat => s.heap.size ≤ q) s.heap H locs) (hl : lv_has ls 4 [(0, .ref b), (1, .ref (Onea_self a)), (2, .ref (Modela_self am)), (3, .int (nI i))]) (hN : lwN E p l e s m below meth c b a am i j) : W p l e room_1 s m #[Value.ref b] below meth c H locs (84 + 5 * j) (3200 + 132 * j) (lw_Z below #[Value.ref b] s) (F0 m 556 ls []) := by
  obtain ⟨⟨hx, hb, hr, hml, hown, hts, hX, hbl, hlocks, hgv⟩, hK, hGl, hL⟩ := C
  have hA : ∀ q : Nat, s.heap.size ≤ q → (fun q : Nat => s.heap.size ≤ q) q := fun _ h => h
  have hbA : ¬ (fun q : Nat => s.heap.size ≤ q) b := Nat.not_le.mpr hbl
  have CF : CallFix p m c cL_law 4 s #[Value.ref b] wsL_law RL := ⟨hx, hb, hml, hown, fun w h => hts w (wsL_law_in w h)⟩
  have hro : 84 + 5 * j ≤ room_1.cells ∧ 3200 + 132 * j ≤ room_1.slots := ⟨Nat.le_trans (show 84 + 5 * j ≤ 2639 by omega) (Nat.le_of_ble_eq_true rfl), Nat.le_trans (show 3200 + 132 * j ≤ 70652 by omega) (Nat.le_of_ble_eq_true rfl)⟩
  obtain ⟨ea, le, hmem, hH⟩ := lw_hl hQ
  obtain ⟨ans, e1, e2⟩ := sim_spread hQ hH (xs (nI i + 1).toNatClampNeg)
  refine lv_aload_n hx hb dL_law_556 rfl (lv_at hl 1 rfl) ?_
  refine lv_aload_n hx hb dL_law_557 rfl (lv_at hl 0 rfl) ?_
  refine lv_iload_n hx hb dL_law_558 rfl (lv_at hl 3 rfl) ?_
  refine lv_iconst (v := 1) hx hb dL_law_559 (by decide) ?_
  refine lv_iadd hx hb dL_law_560 ?_
  refine va_sld hx hb hX hbl hbA hS (lw_in (k := 1) (by omega) hi hL) dL_law_561 ?_
  refine lw_xp (n := 1) (rest := []) (As := [.int (xs (nI i + 1).toNatClampNeg)]) (r := .int ans) CF hK hGl (lw_sub hmem) rfl (c_X7_spread l E a v ea le _ _ e1) gL_law_X7_spread rfl ⟨rfl, rfl⟩ (by decide +kernel) ⟨Nat.le_of_ble_eq_true rfl, Nat.le_of_ble_eq_true rfl⟩ hW hS rfl hl.1 rfl (Nat.le_of_ble_eq_true rfl) hro dL_law_562 ?_
  refine lv_aload_n hx hb dL_law_565 rfl (lv_at hl 2 rfl) ?_
  refine lv_aload_n hx hb dL_law_566 rfl (lv_at hl 0 rfl) ?_
  refine lv_iload_n hx hb dL_law_567 rfl (lv_at hl 3 rfl) ?_
  refine lv_iconst (v := 1) hx hb dL_law_568 (by decide) ?_
  refine lv_iadd hx hb dL_law_569 ?_
  refine va_sld hx hb hX hbl hbA hS (lw_in (k := 1) (by omega) hi hL) dL_law_570 ?_
  refine lw_mp (n := 1) (rest := [.int ans]) (As := [.int (xs (nI i + 1).toNatClampNeg)]) (r := .int ans) CF hK hGl (c_X8_spread l E am m0 _ _ e2) gL_law_X8_spread rfl ⟨rfl, rfl⟩ (by decide +kernel) ⟨Nat.le_of_ble_eq_true rfl, Nat.le_of_ble_eq_true rfl⟩ hW hS rfl hl.1 rfl (Nat.le_of_ble_eq_true rfl) hro dL_law_571 ?_
  refine lv_icmp_eq (tgt := 1145) hx hb dL_law_574 (by decide) (fun _ => ?_) (fun h => absurd rfl h)
  refine W.widen (k := 84 + 5 * (j + 1)) (n := 3200 + 132 * (j + 1)) (by omega) (by omega) ?_
  exact hN v m0 ps H locs ls hQ hV hW hS hl
set_option maxRecDepth 100000 in
set_option maxHeartbeats 1000000 in
theorem lwc_nearest {E : mE} {p : Program} {l : Launch} {e : Env} {s : State} {m : MethodId} {below : List Frame} {meth : Method} {c : Code} {b L i j : Nat} {xs : Nat → Int32} {a : OneA} {am : ModelA} {v : OneV} {m0 : ModelV} {ps : lwPS} {H : Heap} {locs : List Loc} {ls : Array Slot} (C : lwG E p s m meth c b L xs) (hi : i + 5 ≤ L) (hj : j ≤ 511) (hQ : R (lwQ ps) v m0) (hV : lwL ps v) (hW : lwD E (fun q : Nat => s.heap.size ≤ q) a v am m0 ps H) (hS : va_S (fun q : Nat => s.heap.size ≤ q) s.heap H locs) (hl : lv_has ls 4 [(0, .ref b), (1, .ref (Onea_self a)), (2, .ref (Modela_self am)), (3, .int (nI i))]) (hN : lwN E p l e s m below meth c b a am i j) : W p l e room_1 s m #[Value.ref b] below meth c H locs (84 + 5 * j) (3200 + 132 * j) (lw_Z below #[Value.ref b] s) (F0 m 579 ls []) := by
  obtain ⟨⟨hx, hb, hr, hml, hown, hts, hX, hbl, hlocks, hgv⟩, hK, hGl, hL⟩ := C
  have hA : ∀ q : Nat, s.heap.size ≤ q → (fun q : Nat => s.heap.size ≤ q) q := fun _ h => h
  have hbA : ¬ (fun q : Nat => s.heap.size ≤ q) b := Nat.not_le.mpr hbl
  have CF : CallFix p m c cL_law 4 s #[Value.ref b] wsL_law RL := ⟨hx, hb, hml, hown, fun w h => hts w (wsL_law_in w h)⟩
  have hro : 84 + 5 * j ≤ room_1.cells ∧ 3200 + 132 * j ≤ room_1.slots := ⟨Nat.le_trans (show 84 + 5 * j ≤ 2639 by omega) (Nat.le_of_ble_eq_true rfl), Nat.le_trans (show 3200 + 132 * j ≤ 70652 by omega) (Nat.le_of_ble_eq_true rfl)⟩
  obtain ⟨ea, le, hmem, hH⟩ := lw_hl hQ
  obtain ⟨ans, e1, e2⟩ := sim_nearest hQ hH 
  refine lv_aload_n hx hb dL_law_579 rfl (lv_at hl 1 rfl) ?_
  refine lw_xp (n := 0) (rest := []) (As := []) (r := .int ans) CF hK hGl (lw_sub hmem) rfl (c_X7_nearest l E a v ea le  _ e1) gL_law_X7_nearest rfl ⟨rfl, rfl⟩ (by decide +kernel) ⟨Nat.le_of_ble_eq_true rfl, Nat.le_of_ble_eq_true rfl⟩ hW hS rfl hl.1 rfl (Nat.le_of_ble_eq_true rfl) hro dL_law_580 ?_
  refine lv_aload_n hx hb dL_law_583 rfl (lv_at hl 2 rfl) ?_
  refine lw_mp (n := 0) (rest := [.int ans]) (As := []) (r := .int ans) CF hK hGl (c_X8_nearest l E am m0  _ e2) gL_law_X8_nearest rfl ⟨rfl, rfl⟩ (by decide +kernel) ⟨Nat.le_of_ble_eq_true rfl, Nat.le_of_ble_eq_true rfl⟩ hW hS rfl hl.1 rfl (Nat.le_of_ble_eq_true rfl) hro dL_law_584 ?_
  refine lv_icmp_eq (tgt := 1145) hx hb dL_law_587 (by decide) (fun _ => ?_) (fun h => absurd rfl h)
  refine W.widen (k := 84 + 5 * (j + 1)) (n := 3200 + 132 * (j + 1)) (by omega) (by omega) ?_
  exact hN v m0 ps H locs ls hQ hV hW hS hl
set_option maxRecDepth 100000 in
set_option maxHeartbeats 1000000 in
theorem lwc_throwOut {E : mE} {p : Program} {l : Launch} {e : Env} {s : State} {m : MethodId} {below : List Frame} {meth : Method} {c : Code} {b L i j : Nat} {xs : Nat → Int32} {a : OneA} {am : ModelA} {v : OneV} {m0 : ModelV} {ps : lwPS} {H : Heap} {locs : List Loc} {ls : Array Slot} (C : lwG E p s m meth c b L xs) (hi : i + 5 ≤ L) (hj : j ≤ 511) (hQ : R (lwQ ps) v m0) (hV : lwL ps v) (hW : lwD E (fun q : Nat => s.heap.size ≤ q) a v am m0 ps H) (hS : va_S (fun q : Nat => s.heap.size ≤ q) s.heap H locs) (hl : lv_has ls 4 [(0, .ref b), (1, .ref (Onea_self a)), (2, .ref (Modela_self am)), (3, .int (nI i))]) (hN : lwN E p l e s m below meth c b a am i j) : W p l e room_1 s m #[Value.ref b] below meth c H locs (84 + 5 * j) (3200 + 132 * j) (lw_Z below #[Value.ref b] s) (F0 m 592 ls []) := by
  obtain ⟨⟨hx, hb, hr, hml, hown, hts, hX, hbl, hlocks, hgv⟩, hK, hGl, hL⟩ := C
  have hA : ∀ q : Nat, s.heap.size ≤ q → (fun q : Nat => s.heap.size ≤ q) q := fun _ h => h
  have hbA : ¬ (fun q : Nat => s.heap.size ≤ q) b := Nat.not_le.mpr hbl
  have CF : CallFix p m c cL_law 4 s #[Value.ref b] wsL_law RL := ⟨hx, hb, hml, hown, fun w h => hts w (wsL_law_in w h)⟩
  have hro : 84 + 5 * j ≤ room_1.cells ∧ 3200 + 132 * j ≤ room_1.slots := ⟨Nat.le_trans (show 84 + 5 * j ≤ 2639 by omega) (Nat.le_of_ble_eq_true rfl), Nat.le_trans (show 3200 + 132 * j ≤ 70652 by omega) (Nat.le_of_ble_eq_true rfl)⟩
  obtain ⟨ea, le, hmem, hH⟩ := lw_hl hQ
  obtain ⟨ans, v1, m1, e1, e2, hR1⟩ := sim_throwOut hQ hH 
  refine lv_aload_n hx hb dL_law_592 rfl (lv_at hl 1 rfl) ?_
  refine lw_xm (n := 0) (rest := []) (As := []) (v' := v1) (r := .int ans) CF hK hGl hA (lwPc_in hmem) (c_X7_throwOut l E a v ea le  _ e1 H.size) gL_law_X7_throwOut rfl ⟨rfl, rfl⟩ (by decide +kernel) ⟨Nat.le_of_ble_eq_true rfl, Nat.le_of_ble_eq_true rfl⟩ hW hS rfl hl.1 rfl (Nat.le_of_ble_eq_true rfl) hro dL_law_593 (fun H locs hW hS => ?_)
  refine lv_aload_n hx hb dL_law_596 rfl (lv_at hl 2 rfl) ?_
  refine lw_mm (n := 0) (rest := [.int ans]) (As := []) (m1 := m1) (r := .int ans) CF hK hGl hA (c_X8_throwOut l E am m0  _ e2 H.size) gL_law_X8_throwOut rfl ⟨rfl, rfl⟩ (by decide +kernel) ⟨Nat.le_of_ble_eq_true rfl, Nat.le_of_ble_eq_true rfl⟩ hW hS rfl hl.1 rfl (Nat.le_of_ble_eq_true rfl) hro dL_law_597 (fun H locs hW hS => ?_)
  refine lv_icmp_eq (tgt := 1145) hx hb dL_law_600 (by decide) (fun _ => ?_) (fun h => absurd rfl h)
  refine W.widen (k := 84 + 5 * (j + 1)) (n := 3200 + 132 * (j + 1)) (by omega) (by omega) ?_
  exact hN v1 m1 ps H locs ls hR1 (li_throwOut e1 hV) hW hS hl
set_option maxRecDepth 100000 in
set_option maxHeartbeats 1000000 in
theorem lwc_alone {E : mE} {p : Program} {l : Launch} {e : Env} {s : State} {m : MethodId} {below : List Frame} {meth : Method} {c : Code} {b L i j : Nat} {xs : Nat → Int32} {a : OneA} {am : ModelA} {v : OneV} {m0 : ModelV} {ps : lwPS} {H : Heap} {locs : List Loc} {ls : Array Slot} (C : lwG E p s m meth c b L xs) (hi : i + 5 ≤ L) (hj : j ≤ 511) (hQ : R (lwQ ps) v m0) (hV : lwL ps v) (hW : lwD E (fun q : Nat => s.heap.size ≤ q) a v am m0 ps H) (hS : va_S (fun q : Nat => s.heap.size ≤ q) s.heap H locs) (hl : lv_has ls 4 [(0, .ref b), (1, .ref (Onea_self a)), (2, .ref (Modela_self am)), (3, .int (nI i))]) (hN : lwN E p l e s m below meth c b a am i j) : W p l e room_1 s m #[Value.ref b] below meth c H locs (84 + 5 * j) (3200 + 132 * j) (lw_Z below #[Value.ref b] s) (F0 m 605 ls []) := by
  obtain ⟨⟨hx, hb, hr, hml, hown, hts, hX, hbl, hlocks, hgv⟩, hK, hGl, hL⟩ := C
  have hA : ∀ q : Nat, s.heap.size ≤ q → (fun q : Nat => s.heap.size ≤ q) q := fun _ h => h
  have hbA : ¬ (fun q : Nat => s.heap.size ≤ q) b := Nat.not_le.mpr hbl
  have CF : CallFix p m c cL_law 4 s #[Value.ref b] wsL_law RL := ⟨hx, hb, hml, hown, fun w h => hts w (wsL_law_in w h)⟩
  have hro : 84 + 5 * j ≤ room_1.cells ∧ 3200 + 132 * j ≤ room_1.slots := ⟨Nat.le_trans (show 84 + 5 * j ≤ 2639 by omega) (Nat.le_of_ble_eq_true rfl), Nat.le_trans (show 3200 + 132 * j ≤ 70652 by omega) (Nat.le_of_ble_eq_true rfl)⟩
  obtain ⟨ea, le, hmem, hH⟩ := lw_hl hQ
  obtain ⟨ans, v1, m1, e1, e2, hR1⟩ := sim_alone hQ hH (xs (nI i + 1).toNatClampNeg)
  refine lv_aload_n hx hb dL_law_605 rfl (lv_at hl 1 rfl) ?_
  refine lv_aload_n hx hb dL_law_606 rfl (lv_at hl 0 rfl) ?_
  refine lv_iload_n hx hb dL_law_607 rfl (lv_at hl 3 rfl) ?_
  refine lv_iconst (v := 1) hx hb dL_law_608 (by decide) ?_
  refine lv_iadd hx hb dL_law_609 ?_
  refine va_sld hx hb hX hbl hbA hS (lw_in (k := 1) (by omega) hi hL) dL_law_610 ?_
  refine lw_xm (n := 1) (rest := []) (As := [.int (xs (nI i + 1).toNatClampNeg)]) (v' := v1) (r := .int ans) CF hK hGl hA (lwPc_in hmem) (c_X7_alone l E a v ea le _ _ e1 H.size) gL_law_X7_alone rfl ⟨rfl, rfl⟩ (by decide +kernel) ⟨Nat.le_of_ble_eq_true rfl, Nat.le_of_ble_eq_true rfl⟩ hW hS rfl hl.1 rfl (Nat.le_of_ble_eq_true rfl) hro dL_law_611 (fun H locs hW hS => ?_)
  refine lv_aload_n hx hb dL_law_614 rfl (lv_at hl 2 rfl) ?_
  refine lv_aload_n hx hb dL_law_615 rfl (lv_at hl 0 rfl) ?_
  refine lv_iload_n hx hb dL_law_616 rfl (lv_at hl 3 rfl) ?_
  refine lv_iconst (v := 1) hx hb dL_law_617 (by decide) ?_
  refine lv_iadd hx hb dL_law_618 ?_
  refine va_sld hx hb hX hbl hbA hS (lw_in (k := 1) (by omega) hi hL) dL_law_619 ?_
  refine lw_mm (n := 1) (rest := [.int ans]) (As := [.int (xs (nI i + 1).toNatClampNeg)]) (m1 := m1) (r := .int ans) CF hK hGl hA (c_X8_alone l E am m0 _ _ e2 H.size) gL_law_X8_alone rfl ⟨rfl, rfl⟩ (by decide +kernel) ⟨Nat.le_of_ble_eq_true rfl, Nat.le_of_ble_eq_true rfl⟩ hW hS rfl hl.1 rfl (Nat.le_of_ble_eq_true rfl) hro dL_law_620 (fun H locs hW hS => ?_)
  refine lv_icmp_eq (tgt := 1145) hx hb dL_law_623 (by decide) (fun _ => ?_) (fun h => absurd rfl h)
  refine W.widen (k := 84 + 5 * (j + 1)) (n := 3200 + 132 * (j + 1)) (by omega) (by omega) ?_
  exact hN v1 m1 ps H locs ls hR1 (li_alone e1 hV) hW hS hl
set_option maxRecDepth 100000 in
set_option maxHeartbeats 1000000 in
theorem lwc_team {E : mE} {p : Program} {l : Launch} {e : Env} {s : State} {m : MethodId} {below : List Frame} {meth : Method} {c : Code} {b L i j : Nat} {xs : Nat → Int32} {a : OneA} {am : ModelA} {v : OneV} {m0 : ModelV} {ps : lwPS} {H : Heap} {locs : List Loc} {ls : Array Slot} (C : lwG E p s m meth c b L xs) (hi : i + 5 ≤ L) (hj : j ≤ 511) (hQ : R (lwQ ps) v m0) (hV : lwL ps v) (hW : lwD E (fun q : Nat => s.heap.size ≤ q) a v am m0 ps H) (hS : va_S (fun q : Nat => s.heap.size ≤ q) s.heap H locs) (hl : lv_has ls 4 [(0, .ref b), (1, .ref (Onea_self a)), (2, .ref (Modela_self am)), (3, .int (nI i))]) (hN : lwN E p l e s m below meth c b a am i j) : W p l e room_1 s m #[Value.ref b] below meth c H locs (84 + 5 * j) (3200 + 132 * j) (lw_Z below #[Value.ref b] s) (F0 m 628 ls []) := by
  obtain ⟨⟨hx, hb, hr, hml, hown, hts, hX, hbl, hlocks, hgv⟩, hK, hGl, hL⟩ := C
  have hA : ∀ q : Nat, s.heap.size ≤ q → (fun q : Nat => s.heap.size ≤ q) q := fun _ h => h
  have hbA : ¬ (fun q : Nat => s.heap.size ≤ q) b := Nat.not_le.mpr hbl
  have CF : CallFix p m c cL_law 4 s #[Value.ref b] wsL_law RL := ⟨hx, hb, hml, hown, fun w h => hts w (wsL_law_in w h)⟩
  have hro : 84 + 5 * j ≤ room_1.cells ∧ 3200 + 132 * j ≤ room_1.slots := ⟨Nat.le_trans (show 84 + 5 * j ≤ 2639 by omega) (Nat.le_of_ble_eq_true rfl), Nat.le_trans (show 3200 + 132 * j ≤ 70652 by omega) (Nat.le_of_ble_eq_true rfl)⟩
  obtain ⟨ea, le, hmem, hH⟩ := lw_hl hQ
  obtain ⟨ans, v1, m1, e1, e2, hR1⟩ := sim_team hQ hH (xs (nI i + 1).toNatClampNeg) (xs (nI i + 2).toNatClampNeg)
  refine lv_aload_n hx hb dL_law_628 rfl (lv_at hl 1 rfl) ?_
  refine lv_aload_n hx hb dL_law_629 rfl (lv_at hl 0 rfl) ?_
  refine lv_iload_n hx hb dL_law_630 rfl (lv_at hl 3 rfl) ?_
  refine lv_iconst (v := 1) hx hb dL_law_631 (by decide) ?_
  refine lv_iadd hx hb dL_law_632 ?_
  refine va_sld hx hb hX hbl hbA hS (lw_in (k := 1) (by omega) hi hL) dL_law_633 ?_
  refine lv_aload_n hx hb dL_law_634 rfl (lv_at hl 0 rfl) ?_
  refine lv_iload_n hx hb dL_law_635 rfl (lv_at hl 3 rfl) ?_
  refine lv_iconst (v := 2) hx hb dL_law_636 (by decide) ?_
  refine lv_iadd hx hb dL_law_637 ?_
  refine va_sld hx hb hX hbl hbA hS (lw_in (k := 2) (by omega) hi hL) dL_law_638 ?_
  refine lw_xm (n := 2) (rest := []) (As := [.int (xs (nI i + 1).toNatClampNeg), .int (xs (nI i + 2).toNatClampNeg)]) (v' := v1) (r := .int ans) CF hK hGl hA (lwPc_in hmem) (c_X7_team l E a v ea le _ _ _ e1 H.size) gL_law_X7_team rfl ⟨rfl, rfl⟩ (by decide +kernel) ⟨Nat.le_of_ble_eq_true rfl, Nat.le_of_ble_eq_true rfl⟩ hW hS rfl hl.1 rfl (Nat.le_of_ble_eq_true rfl) hro dL_law_639 (fun H locs hW hS => ?_)
  refine lv_aload_n hx hb dL_law_642 rfl (lv_at hl 2 rfl) ?_
  refine lv_aload_n hx hb dL_law_643 rfl (lv_at hl 0 rfl) ?_
  refine lv_iload_n hx hb dL_law_644 rfl (lv_at hl 3 rfl) ?_
  refine lv_iconst (v := 1) hx hb dL_law_645 (by decide) ?_
  refine lv_iadd hx hb dL_law_646 ?_
  refine va_sld hx hb hX hbl hbA hS (lw_in (k := 1) (by omega) hi hL) dL_law_647 ?_
  refine lv_aload_n hx hb dL_law_648 rfl (lv_at hl 0 rfl) ?_
  refine lv_iload_n hx hb dL_law_649 rfl (lv_at hl 3 rfl) ?_
  refine lv_iconst (v := 2) hx hb dL_law_650 (by decide) ?_
  refine lv_iadd hx hb dL_law_651 ?_
  refine va_sld hx hb hX hbl hbA hS (lw_in (k := 2) (by omega) hi hL) dL_law_652 ?_
  refine lw_mm (n := 2) (rest := [.int ans]) (As := [.int (xs (nI i + 1).toNatClampNeg), .int (xs (nI i + 2).toNatClampNeg)]) (m1 := m1) (r := .int ans) CF hK hGl hA (c_X8_team l E am m0 _ _ _ e2 H.size) gL_law_X8_team rfl ⟨rfl, rfl⟩ (by decide +kernel) ⟨Nat.le_of_ble_eq_true rfl, Nat.le_of_ble_eq_true rfl⟩ hW hS rfl hl.1 rfl (Nat.le_of_ble_eq_true rfl) hro dL_law_653 (fun H locs hW hS => ?_)
  refine lv_icmp_eq (tgt := 1145) hx hb dL_law_656 (by decide) (fun _ => ?_) (fun h => absurd rfl h)
  refine W.widen (k := 84 + 5 * (j + 1)) (n := 3200 + 132 * (j + 1)) (by omega) (by omega) ?_
  exact hN v1 m1 ps H locs ls hR1 (li_team e1 hV) hW hS hl
set_option maxRecDepth 100000 in
set_option maxHeartbeats 1000000 in
theorem lwc_split {E : mE} {p : Program} {l : Launch} {e : Env} {s : State} {m : MethodId} {below : List Frame} {meth : Method} {c : Code} {b L i j : Nat} {xs : Nat → Int32} {a : OneA} {am : ModelA} {v : OneV} {m0 : ModelV} {ps : lwPS} {H : Heap} {locs : List Loc} {ls : Array Slot} (C : lwG E p s m meth c b L xs) (hi : i + 5 ≤ L) (hj : j ≤ 511) (hQ : R (lwQ ps) v m0) (hV : lwL ps v) (hW : lwD E (fun q : Nat => s.heap.size ≤ q) a v am m0 ps H) (hS : va_S (fun q : Nat => s.heap.size ≤ q) s.heap H locs) (hl : lv_has ls 4 [(0, .ref b), (1, .ref (Onea_self a)), (2, .ref (Modela_self am)), (3, .int (nI i))]) (hN : lwN E p l e s m below meth c b a am i j) : W p l e room_1 s m #[Value.ref b] below meth c H locs (84 + 5 * j) (3200 + 132 * j) (lw_Z below #[Value.ref b] s) (F0 m 661 ls []) := by
  obtain ⟨⟨hx, hb, hr, hml, hown, hts, hX, hbl, hlocks, hgv⟩, hK, hGl, hL⟩ := C
  have hA : ∀ q : Nat, s.heap.size ≤ q → (fun q : Nat => s.heap.size ≤ q) q := fun _ h => h
  have hbA : ¬ (fun q : Nat => s.heap.size ≤ q) b := Nat.not_le.mpr hbl
  have CF : CallFix p m c cL_law 4 s #[Value.ref b] wsL_law RL := ⟨hx, hb, hml, hown, fun w h => hts w (wsL_law_in w h)⟩
  have hro : 84 + 5 * j ≤ room_1.cells ∧ 3200 + 132 * j ≤ room_1.slots := ⟨Nat.le_trans (show 84 + 5 * j ≤ 2639 by omega) (Nat.le_of_ble_eq_true rfl), Nat.le_trans (show 3200 + 132 * j ≤ 70652 by omega) (Nat.le_of_ble_eq_true rfl)⟩
  obtain ⟨ea, le, hmem, hH⟩ := lw_hl hQ
  obtain ⟨ans, v1, m1, e1, e2, hR1⟩ := sim_split hQ hH (xs (nI i + 1).toNatClampNeg)
  refine lv_aload_n hx hb dL_law_661 rfl (lv_at hl 1 rfl) ?_
  refine lv_aload_n hx hb dL_law_662 rfl (lv_at hl 0 rfl) ?_
  refine lv_iload_n hx hb dL_law_663 rfl (lv_at hl 3 rfl) ?_
  refine lv_iconst (v := 1) hx hb dL_law_664 (by decide) ?_
  refine lv_iadd hx hb dL_law_665 ?_
  refine va_sld hx hb hX hbl hbA hS (lw_in (k := 1) (by omega) hi hL) dL_law_666 ?_
  refine lw_xm (n := 1) (rest := []) (As := [.int (xs (nI i + 1).toNatClampNeg)]) (v' := v1) (r := .int ans) CF hK hGl hA (lwPc_in hmem) (c_X7_split l E a v ea le _ _ e1 H.size) gL_law_X7_split rfl ⟨rfl, rfl⟩ (by decide +kernel) ⟨Nat.le_of_ble_eq_true rfl, Nat.le_of_ble_eq_true rfl⟩ hW hS rfl hl.1 rfl (Nat.le_of_ble_eq_true rfl) hro dL_law_667 (fun H locs hW hS => ?_)
  refine lv_aload_n hx hb dL_law_670 rfl (lv_at hl 2 rfl) ?_
  refine lv_aload_n hx hb dL_law_671 rfl (lv_at hl 0 rfl) ?_
  refine lv_iload_n hx hb dL_law_672 rfl (lv_at hl 3 rfl) ?_
  refine lv_iconst (v := 1) hx hb dL_law_673 (by decide) ?_
  refine lv_iadd hx hb dL_law_674 ?_
  refine va_sld hx hb hX hbl hbA hS (lw_in (k := 1) (by omega) hi hL) dL_law_675 ?_
  refine lw_mm (n := 1) (rest := [.int ans]) (As := [.int (xs (nI i + 1).toNatClampNeg)]) (m1 := m1) (r := .int ans) CF hK hGl hA (c_X8_split l E am m0 _ _ e2 H.size) gL_law_X8_split rfl ⟨rfl, rfl⟩ (by decide +kernel) ⟨Nat.le_of_ble_eq_true rfl, Nat.le_of_ble_eq_true rfl⟩ hW hS rfl hl.1 rfl (Nat.le_of_ble_eq_true rfl) hro dL_law_676 (fun H locs hW hS => ?_)
  refine lv_icmp_eq (tgt := 1145) hx hb dL_law_679 (by decide) (fun _ => ?_) (fun h => absurd rfl h)
  refine W.widen (k := 84 + 5 * (j + 1)) (n := 3200 + 132 * (j + 1)) (by omega) (by omega) ?_
  exact hN v1 m1 ps H locs ls hR1 (li_split e1 hV) hW hS hl
set_option maxRecDepth 100000 in
set_option maxHeartbeats 1000000 in
theorem lwc_part {E : mE} {p : Program} {l : Launch} {e : Env} {s : State} {m : MethodId} {below : List Frame} {meth : Method} {c : Code} {b L i j : Nat} {xs : Nat → Int32} {a : OneA} {am : ModelA} {v : OneV} {m0 : ModelV} {ps : lwPS} {H : Heap} {locs : List Loc} {ls : Array Slot} (C : lwG E p s m meth c b L xs) (hi : i + 5 ≤ L) (hj : j ≤ 511) (hQ : R (lwQ ps) v m0) (hV : lwL ps v) (hW : lwD E (fun q : Nat => s.heap.size ≤ q) a v am m0 ps H) (hS : va_S (fun q : Nat => s.heap.size ≤ q) s.heap H locs) (hl : lv_has ls 4 [(0, .ref b), (1, .ref (Onea_self a)), (2, .ref (Modela_self am)), (3, .int (nI i))]) (hN : lwN E p l e s m below meth c b a am i j) : W p l e room_1 s m #[Value.ref b] below meth c H locs (84 + 5 * j) (3200 + 132 * j) (lw_Z below #[Value.ref b] s) (F0 m 684 ls []) := by
  obtain ⟨⟨hx, hb, hr, hml, hown, hts, hX, hbl, hlocks, hgv⟩, hK, hGl, hL⟩ := C
  have hA : ∀ q : Nat, s.heap.size ≤ q → (fun q : Nat => s.heap.size ≤ q) q := fun _ h => h
  have hbA : ¬ (fun q : Nat => s.heap.size ≤ q) b := Nat.not_le.mpr hbl
  have CF : CallFix p m c cL_law 4 s #[Value.ref b] wsL_law RL := ⟨hx, hb, hml, hown, fun w h => hts w (wsL_law_in w h)⟩
  have hro : 84 + 5 * j ≤ room_1.cells ∧ 3200 + 132 * j ≤ room_1.slots := ⟨Nat.le_trans (show 84 + 5 * j ≤ 2639 by omega) (Nat.le_of_ble_eq_true rfl), Nat.le_trans (show 3200 + 132 * j ≤ 70652 by omega) (Nat.le_of_ble_eq_true rfl)⟩
  obtain ⟨ea, le, hmem, hH⟩ := lw_hl hQ
  obtain ⟨ans, v1, m1, e1, e2, hR1⟩ := sim_part hQ hH (xs (nI i + 1).toNatClampNeg) (xs (nI i + 2).toNatClampNeg)
  refine lv_aload_n hx hb dL_law_684 rfl (lv_at hl 1 rfl) ?_
  refine lv_aload_n hx hb dL_law_685 rfl (lv_at hl 0 rfl) ?_
  refine lv_iload_n hx hb dL_law_686 rfl (lv_at hl 3 rfl) ?_
  refine lv_iconst (v := 1) hx hb dL_law_687 (by decide) ?_
  refine lv_iadd hx hb dL_law_688 ?_
  refine va_sld hx hb hX hbl hbA hS (lw_in (k := 1) (by omega) hi hL) dL_law_689 ?_
  refine lv_aload_n hx hb dL_law_690 rfl (lv_at hl 0 rfl) ?_
  refine lv_iload_n hx hb dL_law_691 rfl (lv_at hl 3 rfl) ?_
  refine lv_iconst (v := 2) hx hb dL_law_692 (by decide) ?_
  refine lv_iadd hx hb dL_law_693 ?_
  refine va_sld hx hb hX hbl hbA hS (lw_in (k := 2) (by omega) hi hL) dL_law_694 ?_
  refine lw_xm (n := 2) (rest := []) (As := [.int (xs (nI i + 1).toNatClampNeg), .int (xs (nI i + 2).toNatClampNeg)]) (v' := v1) (r := .long ans) CF hK hGl hA (lwPc_in hmem) (c_X7_part l E a v ea le _ _ _ e1 H.size) gL_law_X7_part rfl ⟨rfl, rfl⟩ (by decide +kernel) ⟨Nat.le_of_ble_eq_true rfl, Nat.le_of_ble_eq_true rfl⟩ hW hS rfl hl.1 rfl (Nat.le_of_ble_eq_true rfl) hro dL_law_695 (fun H locs hW hS => ?_)
  refine lv_aload_n hx hb dL_law_698 rfl (lv_at hl 2 rfl) ?_
  refine lv_aload_n hx hb dL_law_699 rfl (lv_at hl 0 rfl) ?_
  refine lv_iload_n hx hb dL_law_700 rfl (lv_at hl 3 rfl) ?_
  refine lv_iconst (v := 1) hx hb dL_law_701 (by decide) ?_
  refine lv_iadd hx hb dL_law_702 ?_
  refine va_sld hx hb hX hbl hbA hS (lw_in (k := 1) (by omega) hi hL) dL_law_703 ?_
  refine lv_aload_n hx hb dL_law_704 rfl (lv_at hl 0 rfl) ?_
  refine lv_iload_n hx hb dL_law_705 rfl (lv_at hl 3 rfl) ?_
  refine lv_iconst (v := 2) hx hb dL_law_706 (by decide) ?_
  refine lv_iadd hx hb dL_law_707 ?_
  refine va_sld hx hb hX hbl hbA hS (lw_in (k := 2) (by omega) hi hL) dL_law_708 ?_
  refine lw_mm (n := 2) (rest := [.long ans]) (As := [.int (xs (nI i + 1).toNatClampNeg), .int (xs (nI i + 2).toNatClampNeg)]) (m1 := m1) (r := .long ans) CF hK hGl hA (c_X8_part l E am m0 _ _ _ e2 H.size) gL_law_X8_part rfl ⟨rfl, rfl⟩ (by decide +kernel) ⟨Nat.le_of_ble_eq_true rfl, Nat.le_of_ble_eq_true rfl⟩ hW hS rfl hl.1 rfl (Nat.le_of_ble_eq_true rfl) hro dL_law_709 (fun H locs hW hS => ?_)
  refine W.lcmp hx hb dL_law_712 ?_
  refine lv_if_eq (tgt := 1145) hx hb dL_law_713 (by decide) (fun _ => ?_) (fun h => absurd (lw_cmp ans) h)
  refine W.widen (k := 84 + 5 * (j + 1)) (n := 3200 + 132 * (j + 1)) (by omega) (by omega) ?_
  exact hN v1 m1 ps H locs ls hR1 (li_part e1 hV) hW hS hl
set_option maxRecDepth 100000 in
set_option maxHeartbeats 1000000 in
theorem lwc_see {E : mE} {p : Program} {l : Launch} {e : Env} {s : State} {m : MethodId} {below : List Frame} {meth : Method} {c : Code} {b L i j : Nat} {xs : Nat → Int32} {a : OneA} {am : ModelA} {v : OneV} {m0 : ModelV} {ps : lwPS} {H : Heap} {locs : List Loc} {ls : Array Slot} (C : lwG E p s m meth c b L xs) (hi : i + 5 ≤ L) (hj : j ≤ 511) (hQ : R (lwQ ps) v m0) (hV : lwL ps v) (hW : lwD E (fun q : Nat => s.heap.size ≤ q) a v am m0 ps H) (hS : va_S (fun q : Nat => s.heap.size ≤ q) s.heap H locs) (hl : lv_has ls 4 [(0, .ref b), (1, .ref (Onea_self a)), (2, .ref (Modela_self am)), (3, .int (nI i))]) (hN : lwN E p l e s m below meth c b a am i j) : W p l e room_1 s m #[Value.ref b] below meth c H locs (84 + 5 * j) (3200 + 132 * j) (lw_Z below #[Value.ref b] s) (F0 m 718 ls []) := by
  obtain ⟨⟨hx, hb, hr, hml, hown, hts, hX, hbl, hlocks, hgv⟩, hK, hGl, hL⟩ := C
  have hA : ∀ q : Nat, s.heap.size ≤ q → (fun q : Nat => s.heap.size ≤ q) q := fun _ h => h
  have hbA : ¬ (fun q : Nat => s.heap.size ≤ q) b := Nat.not_le.mpr hbl
  have CF : CallFix p m c cL_law 4 s #[Value.ref b] wsL_law RL := ⟨hx, hb, hml, hown, fun w h => hts w (wsL_law_in w h)⟩
  have hro : 84 + 5 * j ≤ room_1.cells ∧ 3200 + 132 * j ≤ room_1.slots := ⟨Nat.le_trans (show 84 + 5 * j ≤ 2639 by omega) (Nat.le_of_ble_eq_true rfl), Nat.le_trans (show 3200 + 132 * j ≤ 70652 by omega) (Nat.le_of_ble_eq_true rfl)⟩
  obtain ⟨ans, v1, m1, e1, e2, hR1⟩ := sim_see hQ (xs (nI i + 1).toNatClampNeg) (xs (nI i + 2).toNatClampNeg)
  refine lv_aload_n hx hb dL_law_718 rfl (lv_at hl 1 rfl) ?_
  refine lv_aload_n hx hb dL_law_719 rfl (lv_at hl 0 rfl) ?_
  refine lv_iload_n hx hb dL_law_720 rfl (lv_at hl 3 rfl) ?_
  refine lv_iconst (v := 1) hx hb dL_law_721 (by decide) ?_
  refine lv_iadd hx hb dL_law_722 ?_
  refine va_sld hx hb hX hbl hbA hS (lw_in (k := 1) (by omega) hi hL) dL_law_723 ?_
  refine lv_aload_n hx hb dL_law_724 rfl (lv_at hl 0 rfl) ?_
  refine lv_iload_n hx hb dL_law_725 rfl (lv_at hl 3 rfl) ?_
  refine lv_iconst (v := 2) hx hb dL_law_726 (by decide) ?_
  refine lv_iadd hx hb dL_law_727 ?_
  refine va_sld hx hb hX hbl hbA hS (lw_in (k := 2) (by omega) hi hL) dL_law_728 ?_
  refine lw_xm (n := 2) (rest := []) (As := [.int (xs (nI i + 1).toNatClampNeg), .int (xs (nI i + 2).toNatClampNeg)]) (v' := v1) (r := .int ans) CF hK hGl hA ⟨lwPc E ps, List.Perm.refl _⟩ (c_X7_see l E a v _ _ _ e1 H.size) gL_law_X7_see rfl ⟨rfl, rfl⟩ (by decide +kernel) ⟨Nat.le_of_ble_eq_true rfl, Nat.le_of_ble_eq_true rfl⟩ hW hS rfl hl.1 rfl (Nat.le_of_ble_eq_true rfl) hro dL_law_729 (fun H locs hW hS => ?_)
  refine lv_aload_n hx hb dL_law_732 rfl (lv_at hl 2 rfl) ?_
  refine lv_aload_n hx hb dL_law_733 rfl (lv_at hl 0 rfl) ?_
  refine lv_iload_n hx hb dL_law_734 rfl (lv_at hl 3 rfl) ?_
  refine lv_iconst (v := 1) hx hb dL_law_735 (by decide) ?_
  refine lv_iadd hx hb dL_law_736 ?_
  refine va_sld hx hb hX hbl hbA hS (lw_in (k := 1) (by omega) hi hL) dL_law_737 ?_
  refine lv_aload_n hx hb dL_law_738 rfl (lv_at hl 0 rfl) ?_
  refine lv_iload_n hx hb dL_law_739 rfl (lv_at hl 3 rfl) ?_
  refine lv_iconst (v := 2) hx hb dL_law_740 (by decide) ?_
  refine lv_iadd hx hb dL_law_741 ?_
  refine va_sld hx hb hX hbl hbA hS (lw_in (k := 2) (by omega) hi hL) dL_law_742 ?_
  refine lw_mm (n := 2) (rest := [.int ans]) (As := [.int (xs (nI i + 1).toNatClampNeg), .int (xs (nI i + 2).toNatClampNeg)]) (m1 := m1) (r := .int ans) CF hK hGl hA (c_X8_see l E am m0 _ _ _ e2 H.size) gL_law_X8_see rfl ⟨rfl, rfl⟩ (by decide +kernel) ⟨Nat.le_of_ble_eq_true rfl, Nat.le_of_ble_eq_true rfl⟩ hW hS rfl hl.1 rfl (Nat.le_of_ble_eq_true rfl) hro dL_law_743 (fun H locs hW hS => ?_)
  refine lv_icmp_eq (tgt := 1145) hx hb dL_law_746 (by decide) (fun _ => ?_) (fun h => absurd rfl h)
  refine W.widen (k := 84 + 5 * (j + 1)) (n := 3200 + 132 * (j + 1)) (by omega) (by omega) ?_
  exact hN v1 m1 ps H locs ls hR1 (li_see e1 hV) hW hS hl
set_option maxRecDepth 100000 in
set_option maxHeartbeats 1000000 in
theorem lwc_skilled {E : mE} {p : Program} {l : Launch} {e : Env} {s : State} {m : MethodId} {below : List Frame} {meth : Method} {c : Code} {b L i j : Nat} {xs : Nat → Int32} {a : OneA} {am : ModelA} {v : OneV} {m0 : ModelV} {ps : lwPS} {H : Heap} {locs : List Loc} {ls : Array Slot} (C : lwG E p s m meth c b L xs) (hi : i + 5 ≤ L) (hj : j ≤ 511) (hQ : R (lwQ ps) v m0) (hV : lwL ps v) (hW : lwD E (fun q : Nat => s.heap.size ≤ q) a v am m0 ps H) (hS : va_S (fun q : Nat => s.heap.size ≤ q) s.heap H locs) (hl : lv_has ls 4 [(0, .ref b), (1, .ref (Onea_self a)), (2, .ref (Modela_self am)), (3, .int (nI i))]) (hN : lwN E p l e s m below meth c b a am i j) : W p l e room_1 s m #[Value.ref b] below meth c H locs (84 + 5 * j) (3200 + 132 * j) (lw_Z below #[Value.ref b] s) (F0 m 751 ls []) := by
  obtain ⟨⟨hx, hb, hr, hml, hown, hts, hX, hbl, hlocks, hgv⟩, hK, hGl, hL⟩ := C
  have hA : ∀ q : Nat, s.heap.size ≤ q → (fun q : Nat => s.heap.size ≤ q) q := fun _ h => h
  have hbA : ¬ (fun q : Nat => s.heap.size ≤ q) b := Nat.not_le.mpr hbl
  have CF : CallFix p m c cL_law 4 s #[Value.ref b] wsL_law RL := ⟨hx, hb, hml, hown, fun w h => hts w (wsL_law_in w h)⟩
  have hro : 84 + 5 * j ≤ room_1.cells ∧ 3200 + 132 * j ≤ room_1.slots := ⟨Nat.le_trans (show 84 + 5 * j ≤ 2639 by omega) (Nat.le_of_ble_eq_true rfl), Nat.le_trans (show 3200 + 132 * j ≤ 70652 by omega) (Nat.le_of_ble_eq_true rfl)⟩
  obtain ⟨ea, le, hmem, hH⟩ := lw_hl hQ
  obtain ⟨ans, v1, m1, e1, e2, hR1⟩ := sim_skilled hQ hH (xs (nI i + 1).toNatClampNeg) (xs (nI i + 2).toNatClampNeg)
  refine lv_aload_n hx hb dL_law_751 rfl (lv_at hl 1 rfl) ?_
  refine lv_aload_n hx hb dL_law_752 rfl (lv_at hl 0 rfl) ?_
  refine lv_iload_n hx hb dL_law_753 rfl (lv_at hl 3 rfl) ?_
  refine lv_iconst (v := 1) hx hb dL_law_754 (by decide) ?_
  refine lv_iadd hx hb dL_law_755 ?_
  refine va_sld hx hb hX hbl hbA hS (lw_in (k := 1) (by omega) hi hL) dL_law_756 ?_
  refine lv_aload_n hx hb dL_law_757 rfl (lv_at hl 0 rfl) ?_
  refine lv_iload_n hx hb dL_law_758 rfl (lv_at hl 3 rfl) ?_
  refine lv_iconst (v := 2) hx hb dL_law_759 (by decide) ?_
  refine lv_iadd hx hb dL_law_760 ?_
  refine va_sld hx hb hX hbl hbA hS (lw_in (k := 2) (by omega) hi hL) dL_law_761 ?_
  refine lw_xm (n := 2) (rest := []) (As := [.int (xs (nI i + 1).toNatClampNeg), .int (xs (nI i + 2).toNatClampNeg)]) (v' := v1) (r := .int ans) CF hK hGl hA (lwPc_in hmem) (c_X7_skilled l E a v ea le _ _ _ e1 H.size) gL_law_X7_skilled rfl ⟨rfl, rfl⟩ (by decide +kernel) ⟨Nat.le_of_ble_eq_true rfl, Nat.le_of_ble_eq_true rfl⟩ hW hS rfl hl.1 rfl (Nat.le_of_ble_eq_true rfl) hro dL_law_762 (fun H locs hW hS => ?_)
  refine lv_aload_n hx hb dL_law_765 rfl (lv_at hl 2 rfl) ?_
  refine lv_aload_n hx hb dL_law_766 rfl (lv_at hl 0 rfl) ?_
  refine lv_iload_n hx hb dL_law_767 rfl (lv_at hl 3 rfl) ?_
  refine lv_iconst (v := 1) hx hb dL_law_768 (by decide) ?_
  refine lv_iadd hx hb dL_law_769 ?_
  refine va_sld hx hb hX hbl hbA hS (lw_in (k := 1) (by omega) hi hL) dL_law_770 ?_
  refine lv_aload_n hx hb dL_law_771 rfl (lv_at hl 0 rfl) ?_
  refine lv_iload_n hx hb dL_law_772 rfl (lv_at hl 3 rfl) ?_
  refine lv_iconst (v := 2) hx hb dL_law_773 (by decide) ?_
  refine lv_iadd hx hb dL_law_774 ?_
  refine va_sld hx hb hX hbl hbA hS (lw_in (k := 2) (by omega) hi hL) dL_law_775 ?_
  refine lw_mm (n := 2) (rest := [.int ans]) (As := [.int (xs (nI i + 1).toNatClampNeg), .int (xs (nI i + 2).toNatClampNeg)]) (m1 := m1) (r := .int ans) CF hK hGl hA (c_X8_skilled l E am m0 _ _ _ e2 H.size) gL_law_X8_skilled rfl ⟨rfl, rfl⟩ (by decide +kernel) ⟨Nat.le_of_ble_eq_true rfl, Nat.le_of_ble_eq_true rfl⟩ hW hS rfl hl.1 rfl (Nat.le_of_ble_eq_true rfl) hro dL_law_776 (fun H locs hW hS => ?_)
  refine lv_icmp_eq (tgt := 1145) hx hb dL_law_779 (by decide) (fun _ => ?_) (fun h => absurd rfl h)
  refine W.widen (k := 84 + 5 * (j + 1)) (n := 3200 + 132 * (j + 1)) (by omega) (by omega) ?_
  exact hN v1 m1 ps H locs ls hR1 (li_skilled e1 hV) hW hS hl
set_option maxRecDepth 100000 in
set_option maxHeartbeats 1000000 in
theorem lwc_firm {E : mE} {p : Program} {l : Launch} {e : Env} {s : State} {m : MethodId} {below : List Frame} {meth : Method} {c : Code} {b L i j : Nat} {xs : Nat → Int32} {a : OneA} {am : ModelA} {v : OneV} {m0 : ModelV} {ps : lwPS} {H : Heap} {locs : List Loc} {ls : Array Slot} (C : lwG E p s m meth c b L xs) (hi : i + 5 ≤ L) (hj : j ≤ 511) (hQ : R (lwQ ps) v m0) (hV : lwL ps v) (hW : lwD E (fun q : Nat => s.heap.size ≤ q) a v am m0 ps H) (hS : va_S (fun q : Nat => s.heap.size ≤ q) s.heap H locs) (hl : lv_has ls 4 [(0, .ref b), (1, .ref (Onea_self a)), (2, .ref (Modela_self am)), (3, .int (nI i))]) (hN : lwN E p l e s m below meth c b a am i j) : W p l e room_1 s m #[Value.ref b] below meth c H locs (84 + 5 * j) (3200 + 132 * j) (lw_Z below #[Value.ref b] s) (F0 m 784 ls []) := by
  obtain ⟨⟨hx, hb, hr, hml, hown, hts, hX, hbl, hlocks, hgv⟩, hK, hGl, hL⟩ := C
  have hA : ∀ q : Nat, s.heap.size ≤ q → (fun q : Nat => s.heap.size ≤ q) q := fun _ h => h
  have hbA : ¬ (fun q : Nat => s.heap.size ≤ q) b := Nat.not_le.mpr hbl
  have CF : CallFix p m c cL_law 4 s #[Value.ref b] wsL_law RL := ⟨hx, hb, hml, hown, fun w h => hts w (wsL_law_in w h)⟩
  have hro : 84 + 5 * j ≤ room_1.cells ∧ 3200 + 132 * j ≤ room_1.slots := ⟨Nat.le_trans (show 84 + 5 * j ≤ 2639 by omega) (Nat.le_of_ble_eq_true rfl), Nat.le_trans (show 3200 + 132 * j ≤ 70652 by omega) (Nat.le_of_ble_eq_true rfl)⟩
  obtain ⟨ea, le, hmem, hH⟩ := lw_hl hQ
  obtain ⟨ans, v1, m1, e1, e2, hR1⟩ := sim_firm hQ hH (xs (nI i + 1).toNatClampNeg) (xs (nI i + 2).toNatClampNeg)
  refine lv_aload_n hx hb dL_law_784 rfl (lv_at hl 1 rfl) ?_
  refine lv_aload_n hx hb dL_law_785 rfl (lv_at hl 0 rfl) ?_
  refine lv_iload_n hx hb dL_law_786 rfl (lv_at hl 3 rfl) ?_
  refine lv_iconst (v := 1) hx hb dL_law_787 (by decide) ?_
  refine lv_iadd hx hb dL_law_788 ?_
  refine va_sld hx hb hX hbl hbA hS (lw_in (k := 1) (by omega) hi hL) dL_law_789 ?_
  refine lv_aload_n hx hb dL_law_790 rfl (lv_at hl 0 rfl) ?_
  refine lv_iload_n hx hb dL_law_791 rfl (lv_at hl 3 rfl) ?_
  refine lv_iconst (v := 2) hx hb dL_law_792 (by decide) ?_
  refine lv_iadd hx hb dL_law_793 ?_
  refine va_sld hx hb hX hbl hbA hS (lw_in (k := 2) (by omega) hi hL) dL_law_794 ?_
  refine lw_xm (n := 2) (rest := []) (As := [.int (xs (nI i + 1).toNatClampNeg), .int (xs (nI i + 2).toNatClampNeg)]) (v' := v1) (r := .int ans) CF hK hGl hA (lwPc_in hmem) (c_X7_firm l E a v ea le _ _ _ e1 H.size) gL_law_X7_firm rfl ⟨rfl, rfl⟩ (by decide +kernel) ⟨Nat.le_of_ble_eq_true rfl, Nat.le_of_ble_eq_true rfl⟩ hW hS rfl hl.1 rfl (Nat.le_of_ble_eq_true rfl) hro dL_law_795 (fun H locs hW hS => ?_)
  refine lv_aload_n hx hb dL_law_798 rfl (lv_at hl 2 rfl) ?_
  refine lv_aload_n hx hb dL_law_799 rfl (lv_at hl 0 rfl) ?_
  refine lv_iload_n hx hb dL_law_800 rfl (lv_at hl 3 rfl) ?_
  refine lv_iconst (v := 1) hx hb dL_law_801 (by decide) ?_
  refine lv_iadd hx hb dL_law_802 ?_
  refine va_sld hx hb hX hbl hbA hS (lw_in (k := 1) (by omega) hi hL) dL_law_803 ?_
  refine lv_aload_n hx hb dL_law_804 rfl (lv_at hl 0 rfl) ?_
  refine lv_iload_n hx hb dL_law_805 rfl (lv_at hl 3 rfl) ?_
  refine lv_iconst (v := 2) hx hb dL_law_806 (by decide) ?_
  refine lv_iadd hx hb dL_law_807 ?_
  refine va_sld hx hb hX hbl hbA hS (lw_in (k := 2) (by omega) hi hL) dL_law_808 ?_
  refine lw_mm (n := 2) (rest := [.int ans]) (As := [.int (xs (nI i + 1).toNatClampNeg), .int (xs (nI i + 2).toNatClampNeg)]) (m1 := m1) (r := .int ans) CF hK hGl hA (c_X8_firm l E am m0 _ _ _ e2 H.size) gL_law_X8_firm rfl ⟨rfl, rfl⟩ (by decide +kernel) ⟨Nat.le_of_ble_eq_true rfl, Nat.le_of_ble_eq_true rfl⟩ hW hS rfl hl.1 rfl (Nat.le_of_ble_eq_true rfl) hro dL_law_809 (fun H locs hW hS => ?_)
  refine lv_icmp_eq (tgt := 1145) hx hb dL_law_812 (by decide) (fun _ => ?_) (fun h => absurd rfl h)
  refine W.widen (k := 84 + 5 * (j + 1)) (n := 3200 + 132 * (j + 1)) (by omega) (by omega) ?_
  exact hN v1 m1 ps H locs ls hR1 (li_firm e1 hV) hW hS hl
set_option maxRecDepth 100000 in
set_option maxHeartbeats 1000000 in
theorem lwc_odds {E : mE} {p : Program} {l : Launch} {e : Env} {s : State} {m : MethodId} {below : List Frame} {meth : Method} {c : Code} {b L i j : Nat} {xs : Nat → Int32} {a : OneA} {am : ModelA} {v : OneV} {m0 : ModelV} {ps : lwPS} {H : Heap} {locs : List Loc} {ls : Array Slot} (C : lwG E p s m meth c b L xs) (hi : i + 5 ≤ L) (hj : j ≤ 511) (hQ : R (lwQ ps) v m0) (hV : lwL ps v) (hW : lwD E (fun q : Nat => s.heap.size ≤ q) a v am m0 ps H) (hS : va_S (fun q : Nat => s.heap.size ≤ q) s.heap H locs) (hl : lv_has ls 4 [(0, .ref b), (1, .ref (Onea_self a)), (2, .ref (Modela_self am)), (3, .int (nI i))]) (hN : lwN E p l e s m below meth c b a am i j) : W p l e room_1 s m #[Value.ref b] below meth c H locs (84 + 5 * j) (3200 + 132 * j) (lw_Z below #[Value.ref b] s) (F0 m 817 ls []) := by
  obtain ⟨⟨hx, hb, hr, hml, hown, hts, hX, hbl, hlocks, hgv⟩, hK, hGl, hL⟩ := C
  have hA : ∀ q : Nat, s.heap.size ≤ q → (fun q : Nat => s.heap.size ≤ q) q := fun _ h => h
  have hbA : ¬ (fun q : Nat => s.heap.size ≤ q) b := Nat.not_le.mpr hbl
  have CF : CallFix p m c cL_law 4 s #[Value.ref b] wsL_law RL := ⟨hx, hb, hml, hown, fun w h => hts w (wsL_law_in w h)⟩
  have hro : 84 + 5 * j ≤ room_1.cells ∧ 3200 + 132 * j ≤ room_1.slots := ⟨Nat.le_trans (show 84 + 5 * j ≤ 2639 by omega) (Nat.le_of_ble_eq_true rfl), Nat.le_trans (show 3200 + 132 * j ≤ 70652 by omega) (Nat.le_of_ble_eq_true rfl)⟩
  obtain ⟨ea, le, hmem, hH⟩ := lw_hl hQ
  obtain ⟨ans, v1, m1, e1, e2, hR1⟩ := sim_odds hQ hH (xs (nI i + 1).toNatClampNeg) (xs (nI i + 2).toNatClampNeg) (xs (nI i + 3).toNatClampNeg)
  refine lv_aload_n hx hb dL_law_817 rfl (lv_at hl 1 rfl) ?_
  refine lv_aload_n hx hb dL_law_818 rfl (lv_at hl 0 rfl) ?_
  refine lv_iload_n hx hb dL_law_819 rfl (lv_at hl 3 rfl) ?_
  refine lv_iconst (v := 1) hx hb dL_law_820 (by decide) ?_
  refine lv_iadd hx hb dL_law_821 ?_
  refine va_sld hx hb hX hbl hbA hS (lw_in (k := 1) (by omega) hi hL) dL_law_822 ?_
  refine lv_aload_n hx hb dL_law_823 rfl (lv_at hl 0 rfl) ?_
  refine lv_iload_n hx hb dL_law_824 rfl (lv_at hl 3 rfl) ?_
  refine lv_iconst (v := 2) hx hb dL_law_825 (by decide) ?_
  refine lv_iadd hx hb dL_law_826 ?_
  refine va_sld hx hb hX hbl hbA hS (lw_in (k := 2) (by omega) hi hL) dL_law_827 ?_
  refine lv_aload_n hx hb dL_law_828 rfl (lv_at hl 0 rfl) ?_
  refine lv_iload_n hx hb dL_law_829 rfl (lv_at hl 3 rfl) ?_
  refine lv_iconst (v := 3) hx hb dL_law_830 (by decide) ?_
  refine lv_iadd hx hb dL_law_831 ?_
  refine va_sld hx hb hX hbl hbA hS (lw_in (k := 3) (by omega) hi hL) dL_law_832 ?_
  refine lw_xm (n := 3) (rest := []) (As := [.int (xs (nI i + 1).toNatClampNeg), .int (xs (nI i + 2).toNatClampNeg), .int (xs (nI i + 3).toNatClampNeg)]) (v' := v1) (r := .long ans) CF hK hGl hA (lwPc_in hmem) (c_X7_odds l E a v ea le _ _ _ _ e1 H.size) gL_law_X7_odds rfl ⟨rfl, rfl⟩ (by decide +kernel) ⟨Nat.le_of_ble_eq_true rfl, Nat.le_of_ble_eq_true rfl⟩ hW hS rfl hl.1 rfl (Nat.le_of_ble_eq_true rfl) hro dL_law_833 (fun H locs hW hS => ?_)
  refine lv_aload_n hx hb dL_law_836 rfl (lv_at hl 2 rfl) ?_
  refine lv_aload_n hx hb dL_law_837 rfl (lv_at hl 0 rfl) ?_
  refine lv_iload_n hx hb dL_law_838 rfl (lv_at hl 3 rfl) ?_
  refine lv_iconst (v := 1) hx hb dL_law_839 (by decide) ?_
  refine lv_iadd hx hb dL_law_840 ?_
  refine va_sld hx hb hX hbl hbA hS (lw_in (k := 1) (by omega) hi hL) dL_law_841 ?_
  refine lv_aload_n hx hb dL_law_842 rfl (lv_at hl 0 rfl) ?_
  refine lv_iload_n hx hb dL_law_843 rfl (lv_at hl 3 rfl) ?_
  refine lv_iconst (v := 2) hx hb dL_law_844 (by decide) ?_
  refine lv_iadd hx hb dL_law_845 ?_
  refine va_sld hx hb hX hbl hbA hS (lw_in (k := 2) (by omega) hi hL) dL_law_846 ?_
  refine lv_aload_n hx hb dL_law_847 rfl (lv_at hl 0 rfl) ?_
  refine lv_iload_n hx hb dL_law_848 rfl (lv_at hl 3 rfl) ?_
  refine lv_iconst (v := 3) hx hb dL_law_849 (by decide) ?_
  refine lv_iadd hx hb dL_law_850 ?_
  refine va_sld hx hb hX hbl hbA hS (lw_in (k := 3) (by omega) hi hL) dL_law_851 ?_
  refine lw_mm (n := 3) (rest := [.long ans]) (As := [.int (xs (nI i + 1).toNatClampNeg), .int (xs (nI i + 2).toNatClampNeg), .int (xs (nI i + 3).toNatClampNeg)]) (m1 := m1) (r := .long ans) CF hK hGl hA (c_X8_odds l E am m0 _ _ _ _ e2 H.size) gL_law_X8_odds rfl ⟨rfl, rfl⟩ (by decide +kernel) ⟨Nat.le_of_ble_eq_true rfl, Nat.le_of_ble_eq_true rfl⟩ hW hS rfl hl.1 rfl (Nat.le_of_ble_eq_true rfl) hro dL_law_852 (fun H locs hW hS => ?_)
  refine W.lcmp hx hb dL_law_855 ?_
  refine lv_if_eq (tgt := 1145) hx hb dL_law_856 (by decide) (fun _ => ?_) (fun h => absurd (lw_cmp ans) h)
  refine W.widen (k := 84 + 5 * (j + 1)) (n := 3200 + 132 * (j + 1)) (by omega) (by omega) ?_
  exact hN v1 m1 ps H locs ls hR1 (li_odds e1 hV) hW hS hl
set_option maxRecDepth 100000 in
set_option maxHeartbeats 1000000 in
theorem lwc_mean {E : mE} {p : Program} {l : Launch} {e : Env} {s : State} {m : MethodId} {below : List Frame} {meth : Method} {c : Code} {b L i j : Nat} {xs : Nat → Int32} {a : OneA} {am : ModelA} {v : OneV} {m0 : ModelV} {ps : lwPS} {H : Heap} {locs : List Loc} {ls : Array Slot} (C : lwG E p s m meth c b L xs) (hi : i + 5 ≤ L) (hj : j ≤ 511) (hQ : R (lwQ ps) v m0) (hV : lwL ps v) (hW : lwD E (fun q : Nat => s.heap.size ≤ q) a v am m0 ps H) (hS : va_S (fun q : Nat => s.heap.size ≤ q) s.heap H locs) (hl : lv_has ls 4 [(0, .ref b), (1, .ref (Onea_self a)), (2, .ref (Modela_self am)), (3, .int (nI i))]) (hN : lwN E p l e s m below meth c b a am i j) : W p l e room_1 s m #[Value.ref b] below meth c H locs (84 + 5 * j) (3200 + 132 * j) (lw_Z below #[Value.ref b] s) (F0 m 861 ls []) := by
  obtain ⟨⟨hx, hb, hr, hml, hown, hts, hX, hbl, hlocks, hgv⟩, hK, hGl, hL⟩ := C
  have hA : ∀ q : Nat, s.heap.size ≤ q → (fun q : Nat => s.heap.size ≤ q) q := fun _ h => h
  have hbA : ¬ (fun q : Nat => s.heap.size ≤ q) b := Nat.not_le.mpr hbl
  have CF : CallFix p m c cL_law 4 s #[Value.ref b] wsL_law RL := ⟨hx, hb, hml, hown, fun w h => hts w (wsL_law_in w h)⟩
  have hro : 84 + 5 * j ≤ room_1.cells ∧ 3200 + 132 * j ≤ room_1.slots := ⟨Nat.le_trans (show 84 + 5 * j ≤ 2639 by omega) (Nat.le_of_ble_eq_true rfl), Nat.le_trans (show 3200 + 132 * j ≤ 70652 by omega) (Nat.le_of_ble_eq_true rfl)⟩
  obtain ⟨ea, le, hmem, hH⟩ := lw_hl hQ
  obtain ⟨ans, v1, m1, e1, e2, hR1⟩ := sim_mean hQ hH (xs (nI i + 1).toNatClampNeg) (xs (nI i + 2).toNatClampNeg)
  refine lv_aload_n hx hb dL_law_861 rfl (lv_at hl 1 rfl) ?_
  refine lv_aload_n hx hb dL_law_862 rfl (lv_at hl 0 rfl) ?_
  refine lv_iload_n hx hb dL_law_863 rfl (lv_at hl 3 rfl) ?_
  refine lv_iconst (v := 1) hx hb dL_law_864 (by decide) ?_
  refine lv_iadd hx hb dL_law_865 ?_
  refine va_sld hx hb hX hbl hbA hS (lw_in (k := 1) (by omega) hi hL) dL_law_866 ?_
  refine lv_aload_n hx hb dL_law_867 rfl (lv_at hl 0 rfl) ?_
  refine lv_iload_n hx hb dL_law_868 rfl (lv_at hl 3 rfl) ?_
  refine lv_iconst (v := 2) hx hb dL_law_869 (by decide) ?_
  refine lv_iadd hx hb dL_law_870 ?_
  refine va_sld hx hb hX hbl hbA hS (lw_in (k := 2) (by omega) hi hL) dL_law_871 ?_
  refine lw_xm (n := 2) (rest := []) (As := [.int (xs (nI i + 1).toNatClampNeg), .int (xs (nI i + 2).toNatClampNeg)]) (v' := v1) (r := .long ans) CF hK hGl hA (lwPc_in hmem) (c_X7_mean l E a v ea le _ _ _ e1 H.size) gL_law_X7_mean rfl ⟨rfl, rfl⟩ (by decide +kernel) ⟨Nat.le_of_ble_eq_true rfl, Nat.le_of_ble_eq_true rfl⟩ hW hS rfl hl.1 rfl (Nat.le_of_ble_eq_true rfl) hro dL_law_872 (fun H locs hW hS => ?_)
  refine lv_aload_n hx hb dL_law_875 rfl (lv_at hl 2 rfl) ?_
  refine lv_aload_n hx hb dL_law_876 rfl (lv_at hl 0 rfl) ?_
  refine lv_iload_n hx hb dL_law_877 rfl (lv_at hl 3 rfl) ?_
  refine lv_iconst (v := 1) hx hb dL_law_878 (by decide) ?_
  refine lv_iadd hx hb dL_law_879 ?_
  refine va_sld hx hb hX hbl hbA hS (lw_in (k := 1) (by omega) hi hL) dL_law_880 ?_
  refine lv_aload_n hx hb dL_law_881 rfl (lv_at hl 0 rfl) ?_
  refine lv_iload_n hx hb dL_law_882 rfl (lv_at hl 3 rfl) ?_
  refine lv_iconst (v := 2) hx hb dL_law_883 (by decide) ?_
  refine lv_iadd hx hb dL_law_884 ?_
  refine va_sld hx hb hX hbl hbA hS (lw_in (k := 2) (by omega) hi hL) dL_law_885 ?_
  refine lw_mm (n := 2) (rest := [.long ans]) (As := [.int (xs (nI i + 1).toNatClampNeg), .int (xs (nI i + 2).toNatClampNeg)]) (m1 := m1) (r := .long ans) CF hK hGl hA (c_X8_mean l E am m0 _ _ _ e2 H.size) gL_law_X8_mean rfl ⟨rfl, rfl⟩ (by decide +kernel) ⟨Nat.le_of_ble_eq_true rfl, Nat.le_of_ble_eq_true rfl⟩ hW hS rfl hl.1 rfl (Nat.le_of_ble_eq_true rfl) hro dL_law_886 (fun H locs hW hS => ?_)
  refine W.lcmp hx hb dL_law_889 ?_
  refine lv_if_eq (tgt := 1145) hx hb dL_law_890 (by decide) (fun _ => ?_) (fun h => absurd (lw_cmp ans) h)
  refine W.widen (k := 84 + 5 * (j + 1)) (n := 3200 + 132 * (j + 1)) (by omega) (by omega) ?_
  exact hN v1 m1 ps H locs ls hR1 (li_mean e1 hV) hW hS hl
