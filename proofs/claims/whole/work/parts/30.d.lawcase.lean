/-! The law, case by case. -/
set_option maxRecDepth 100000 in
set_option maxHeartbeats 1000000 in
theorem lwc_plan {E : mE} {p : Program} {l : Launch} {e : Env} {s : State} {m : MethodId} {below : List Frame} {meth : Method} {c : Code} {b L i j : Nat} {xs : Nat → Int32} {a : OneA} {am : ModelA} {v : OneV} {m0 : ModelV} {ps : lwPS} {H : Heap} {locs : List Loc} {ls : Array Slot} (C : lwG E p s m meth c b L xs) (hi : i + 5 ≤ L) (hj : j ≤ 511) (hQ : R (lwQ ps) v m0) (hV : lwL ps v) (hW : lwD E (fun q : Nat => s.heap.size ≤ q) a v am m0 ps H) (hS : va_S (fun q : Nat => s.heap.size ≤ q) s.heap H locs) (hl : lv_has ls 4 [(0, .ref b), (1, .ref (Onea_self a)), (2, .ref (Modela_self am)), (3, .int (nI i))]) (hN : lwN E p l e s m below meth c b a am i j) : W p l e room_1 s m #[Value.ref b] below meth c H locs (84 + 5 * j) (3200 + 132 * j) (lw_Z below #[Value.ref b] s) (F0 m 895 ls []) := by
  obtain ⟨⟨hx, hb, hr, hml, hown, hts, hX, hbl, hlocks, hgv⟩, hK, hGl, hL⟩ := C
  have hA : ∀ q : Nat, s.heap.size ≤ q → (fun q : Nat => s.heap.size ≤ q) q := fun _ h => h
  have hbA : ¬ (fun q : Nat => s.heap.size ≤ q) b := Nat.not_le.mpr hbl
  have CF : CallFix p m c cL_law 4 s #[Value.ref b] wsL_law RL := ⟨hx, hb, hml, hown, fun w h => hts w (wsL_law_in w h)⟩
  have hro : 84 + 5 * j ≤ room_1.cells ∧ 3200 + 132 * j ≤ room_1.slots := ⟨Nat.le_trans (show 84 + 5 * j ≤ 2639 by omega) (Nat.le_of_ble_eq_true rfl), Nat.le_trans (show 3200 + 132 * j ≤ 70652 by omega) (Nat.le_of_ble_eq_true rfl)⟩
  obtain ⟨ans, v1, m1, e1, e2, hR1⟩ := sim_plan hQ (xs (nI i + 1).toNatClampNeg) (xs (nI i + 2).toNatClampNeg)
  refine lv_aload_n hx hb dL_law_895 rfl (lv_at hl 1 rfl) ?_
  refine lv_aload_n hx hb dL_law_896 rfl (lv_at hl 0 rfl) ?_
  refine lv_iload_n hx hb dL_law_897 rfl (lv_at hl 3 rfl) ?_
  refine lv_iconst (v := 1) hx hb dL_law_898 (by decide) ?_
  refine lv_iadd hx hb dL_law_899 ?_
  refine va_sld hx hb hX hbl hbA hS (lw_in (k := 1) (by omega) hi hL) dL_law_900 ?_
  refine lv_aload_n hx hb dL_law_901 rfl (lv_at hl 0 rfl) ?_
  refine lv_iload_n hx hb dL_law_902 rfl (lv_at hl 3 rfl) ?_
  refine lv_iconst (v := 2) hx hb dL_law_903 (by decide) ?_
  refine lv_iadd hx hb dL_law_904 ?_
  refine va_sld hx hb hX hbl hbA hS (lw_in (k := 2) (by omega) hi hL) dL_law_905 ?_
  refine lw_xm (n := 2) (rest := []) (As := [.int (xs (nI i + 1).toNatClampNeg), .int (xs (nI i + 2).toNatClampNeg)]) (v' := v1) (r := .int ans) CF hK hGl hA ⟨lwPc E ps, List.Perm.refl _⟩ (c_X7_plan l E a v _ _ _ e1 H.size) gL_law_X7_plan rfl ⟨rfl, rfl⟩ (by decide +kernel) ⟨Nat.le_of_ble_eq_true rfl, Nat.le_of_ble_eq_true rfl⟩ hW hS rfl hl.1 rfl (Nat.le_of_ble_eq_true rfl) hro dL_law_906 (fun H locs hW hS => ?_)
  refine lv_aload_n hx hb dL_law_909 rfl (lv_at hl 2 rfl) ?_
  refine lv_aload_n hx hb dL_law_910 rfl (lv_at hl 0 rfl) ?_
  refine lv_iload_n hx hb dL_law_911 rfl (lv_at hl 3 rfl) ?_
  refine lv_iconst (v := 1) hx hb dL_law_912 (by decide) ?_
  refine lv_iadd hx hb dL_law_913 ?_
  refine va_sld hx hb hX hbl hbA hS (lw_in (k := 1) (by omega) hi hL) dL_law_914 ?_
  refine lv_aload_n hx hb dL_law_915 rfl (lv_at hl 0 rfl) ?_
  refine lv_iload_n hx hb dL_law_916 rfl (lv_at hl 3 rfl) ?_
  refine lv_iconst (v := 2) hx hb dL_law_917 (by decide) ?_
  refine lv_iadd hx hb dL_law_918 ?_
  refine va_sld hx hb hX hbl hbA hS (lw_in (k := 2) (by omega) hi hL) dL_law_919 ?_
  refine lw_mm (n := 2) (rest := [.int ans]) (As := [.int (xs (nI i + 1).toNatClampNeg), .int (xs (nI i + 2).toNatClampNeg)]) (m1 := m1) (r := .int ans) CF hK hGl hA (c_X8_plan l E am m0 _ _ _ e2 H.size) gL_law_X8_plan rfl ⟨rfl, rfl⟩ (by decide +kernel) ⟨Nat.le_of_ble_eq_true rfl, Nat.le_of_ble_eq_true rfl⟩ hW hS rfl hl.1 rfl (Nat.le_of_ble_eq_true rfl) hro dL_law_920 (fun H locs hW hS => ?_)
  refine lv_icmp_eq (tgt := 1145) hx hb dL_law_923 (by decide) (fun _ => ?_) (fun h => absurd rfl h)
  refine W.widen (k := 84 + 5 * (j + 1)) (n := 3200 + 132 * (j + 1)) (by omega) (by omega) ?_
  exact hN v1 m1 ps H locs ls hR1 (li_plan e1 hV) hW hS hl
set_option maxRecDepth 100000 in
set_option maxHeartbeats 1000000 in
theorem lwc_done {E : mE} {p : Program} {l : Launch} {e : Env} {s : State} {m : MethodId} {below : List Frame} {meth : Method} {c : Code} {b L i j : Nat} {xs : Nat → Int32} {a : OneA} {am : ModelA} {v : OneV} {m0 : ModelV} {ps : lwPS} {H : Heap} {locs : List Loc} {ls : Array Slot} (C : lwG E p s m meth c b L xs) (hi : i + 5 ≤ L) (hj : j ≤ 511) (hQ : R (lwQ ps) v m0) (hV : lwL ps v) (hW : lwD E (fun q : Nat => s.heap.size ≤ q) a v am m0 ps H) (hS : va_S (fun q : Nat => s.heap.size ≤ q) s.heap H locs) (hl : lv_has ls 4 [(0, .ref b), (1, .ref (Onea_self a)), (2, .ref (Modela_self am)), (3, .int (nI i))]) (hN : lwN E p l e s m below meth c b a am i j) : W p l e room_1 s m #[Value.ref b] below meth c H locs (84 + 5 * j) (3200 + 132 * j) (lw_Z below #[Value.ref b] s) (F0 m 928 ls []) := by
  obtain ⟨⟨hx, hb, hr, hml, hown, hts, hX, hbl, hlocks, hgv⟩, hK, hGl, hL⟩ := C
  have hA : ∀ q : Nat, s.heap.size ≤ q → (fun q : Nat => s.heap.size ≤ q) q := fun _ h => h
  have hbA : ¬ (fun q : Nat => s.heap.size ≤ q) b := Nat.not_le.mpr hbl
  have CF : CallFix p m c cL_law 4 s #[Value.ref b] wsL_law RL := ⟨hx, hb, hml, hown, fun w h => hts w (wsL_law_in w h)⟩
  have hro : 84 + 5 * j ≤ room_1.cells ∧ 3200 + 132 * j ≤ room_1.slots := ⟨Nat.le_trans (show 84 + 5 * j ≤ 2639 by omega) (Nat.le_of_ble_eq_true rfl), Nat.le_trans (show 3200 + 132 * j ≤ 70652 by omega) (Nat.le_of_ble_eq_true rfl)⟩
  obtain ⟨ea, le, hmem, hH⟩ := lw_hl hQ
  obtain ⟨ans, v1, m1, e1, e2, hR1⟩ := sim_done hQ hH (xs (nI i + 1).toNatClampNeg)
  refine lv_aload_n hx hb dL_law_928 rfl (lv_at hl 1 rfl) ?_
  refine lv_aload_n hx hb dL_law_929 rfl (lv_at hl 0 rfl) ?_
  refine lv_iload_n hx hb dL_law_930 rfl (lv_at hl 3 rfl) ?_
  refine lv_iconst (v := 1) hx hb dL_law_931 (by decide) ?_
  refine lv_iadd hx hb dL_law_932 ?_
  refine va_sld hx hb hX hbl hbA hS (lw_in (k := 1) (by omega) hi hL) dL_law_933 ?_
  refine lw_xm (n := 1) (rest := []) (As := [.int (xs (nI i + 1).toNatClampNeg)]) (v' := v1) (r := .int ans) CF hK hGl hA (lwPc_in hmem) (c_X7_done l E a v ea le _ _ e1 H.size) gL_law_X7_done rfl ⟨rfl, rfl⟩ (by decide +kernel) ⟨Nat.le_of_ble_eq_true rfl, Nat.le_of_ble_eq_true rfl⟩ hW hS rfl hl.1 rfl (Nat.le_of_ble_eq_true rfl) hro dL_law_934 (fun H locs hW hS => ?_)
  refine lv_aload_n hx hb dL_law_937 rfl (lv_at hl 2 rfl) ?_
  refine lv_aload_n hx hb dL_law_938 rfl (lv_at hl 0 rfl) ?_
  refine lv_iload_n hx hb dL_law_939 rfl (lv_at hl 3 rfl) ?_
  refine lv_iconst (v := 1) hx hb dL_law_940 (by decide) ?_
  refine lv_iadd hx hb dL_law_941 ?_
  refine va_sld hx hb hX hbl hbA hS (lw_in (k := 1) (by omega) hi hL) dL_law_942 ?_
  refine lw_mm (n := 1) (rest := [.int ans]) (As := [.int (xs (nI i + 1).toNatClampNeg)]) (m1 := m1) (r := .int ans) CF hK hGl hA (c_X8_done l E am m0 _ _ e2 H.size) gL_law_X8_done rfl ⟨rfl, rfl⟩ (by decide +kernel) ⟨Nat.le_of_ble_eq_true rfl, Nat.le_of_ble_eq_true rfl⟩ hW hS rfl hl.1 rfl (Nat.le_of_ble_eq_true rfl) hro dL_law_943 (fun H locs hW hS => ?_)
  refine lv_icmp_eq (tgt := 1145) hx hb dL_law_946 (by decide) (fun _ => ?_) (fun h => absurd rfl h)
  refine W.widen (k := 84 + 5 * (j + 1)) (n := 3200 + 132 * (j + 1)) (by omega) (by omega) ?_
  exact hN v1 m1 ps H locs ls hR1 (li_done e1 hV) hW hS hl
set_option maxRecDepth 100000 in
set_option maxHeartbeats 1000000 in
theorem lwc_book {E : mE} {p : Program} {l : Launch} {e : Env} {s : State} {m : MethodId} {below : List Frame} {meth : Method} {c : Code} {b L i j : Nat} {xs : Nat → Int32} {a : OneA} {am : ModelA} {v : OneV} {m0 : ModelV} {ps : lwPS} {H : Heap} {locs : List Loc} {ls : Array Slot} (C : lwG E p s m meth c b L xs) (hi : i + 5 ≤ L) (hj : j ≤ 511) (hQ : R (lwQ ps) v m0) (hV : lwL ps v) (hW : lwD E (fun q : Nat => s.heap.size ≤ q) a v am m0 ps H) (hS : va_S (fun q : Nat => s.heap.size ≤ q) s.heap H locs) (hl : lv_has ls 4 [(0, .ref b), (1, .ref (Onea_self a)), (2, .ref (Modela_self am)), (3, .int (nI i))]) (hN : lwN E p l e s m below meth c b a am i j) : W p l e room_1 s m #[Value.ref b] below meth c H locs (84 + 5 * j) (3200 + 132 * j) (lw_Z below #[Value.ref b] s) (F0 m 951 ls []) := by
  obtain ⟨⟨hx, hb, hr, hml, hown, hts, hX, hbl, hlocks, hgv⟩, hK, hGl, hL⟩ := C
  have hA : ∀ q : Nat, s.heap.size ≤ q → (fun q : Nat => s.heap.size ≤ q) q := fun _ h => h
  have hbA : ¬ (fun q : Nat => s.heap.size ≤ q) b := Nat.not_le.mpr hbl
  have CF : CallFix p m c cL_law 4 s #[Value.ref b] wsL_law RL := ⟨hx, hb, hml, hown, fun w h => hts w (wsL_law_in w h)⟩
  have hro : 84 + 5 * j ≤ room_1.cells ∧ 3200 + 132 * j ≤ room_1.slots := ⟨Nat.le_trans (show 84 + 5 * j ≤ 2639 by omega) (Nat.le_of_ble_eq_true rfl), Nat.le_trans (show 3200 + 132 * j ≤ 70652 by omega) (Nat.le_of_ble_eq_true rfl)⟩
  obtain ⟨ans, v1, m1, e1, e2, hR1⟩ := sim_book hQ (xs (nI i + 1).toNatClampNeg) (xs (nI i + 2).toNatClampNeg)
  refine lv_aload_n hx hb dL_law_951 rfl (lv_at hl 1 rfl) ?_
  refine lv_aload_n hx hb dL_law_952 rfl (lv_at hl 0 rfl) ?_
  refine lv_iload_n hx hb dL_law_953 rfl (lv_at hl 3 rfl) ?_
  refine lv_iconst (v := 1) hx hb dL_law_954 (by decide) ?_
  refine lv_iadd hx hb dL_law_955 ?_
  refine va_sld hx hb hX hbl hbA hS (lw_in (k := 1) (by omega) hi hL) dL_law_956 ?_
  refine lv_aload_n hx hb dL_law_957 rfl (lv_at hl 0 rfl) ?_
  refine lv_iload_n hx hb dL_law_958 rfl (lv_at hl 3 rfl) ?_
  refine lv_iconst (v := 2) hx hb dL_law_959 (by decide) ?_
  refine lv_iadd hx hb dL_law_960 ?_
  refine va_sld hx hb hX hbl hbA hS (lw_in (k := 2) (by omega) hi hL) dL_law_961 ?_
  refine lw_xm (n := 2) (rest := []) (As := [.int (xs (nI i + 1).toNatClampNeg), .int (xs (nI i + 2).toNatClampNeg)]) (v' := v1) (r := .int ans) CF hK hGl hA ⟨lwPc E ps, List.Perm.refl _⟩ (c_X7_book l E a v _ _ _ e1 H.size) gL_law_X7_book rfl ⟨rfl, rfl⟩ (by decide +kernel) ⟨Nat.le_of_ble_eq_true rfl, Nat.le_of_ble_eq_true rfl⟩ hW hS rfl hl.1 rfl (Nat.le_of_ble_eq_true rfl) hro dL_law_962 (fun H locs hW hS => ?_)
  refine lv_aload_n hx hb dL_law_965 rfl (lv_at hl 2 rfl) ?_
  refine lv_aload_n hx hb dL_law_966 rfl (lv_at hl 0 rfl) ?_
  refine lv_iload_n hx hb dL_law_967 rfl (lv_at hl 3 rfl) ?_
  refine lv_iconst (v := 1) hx hb dL_law_968 (by decide) ?_
  refine lv_iadd hx hb dL_law_969 ?_
  refine va_sld hx hb hX hbl hbA hS (lw_in (k := 1) (by omega) hi hL) dL_law_970 ?_
  refine lv_aload_n hx hb dL_law_971 rfl (lv_at hl 0 rfl) ?_
  refine lv_iload_n hx hb dL_law_972 rfl (lv_at hl 3 rfl) ?_
  refine lv_iconst (v := 2) hx hb dL_law_973 (by decide) ?_
  refine lv_iadd hx hb dL_law_974 ?_
  refine va_sld hx hb hX hbl hbA hS (lw_in (k := 2) (by omega) hi hL) dL_law_975 ?_
  refine lw_mm (n := 2) (rest := [.int ans]) (As := [.int (xs (nI i + 1).toNatClampNeg), .int (xs (nI i + 2).toNatClampNeg)]) (m1 := m1) (r := .int ans) CF hK hGl hA (c_X8_book l E am m0 _ _ _ e2 H.size) gL_law_X8_book rfl ⟨rfl, rfl⟩ (by decide +kernel) ⟨Nat.le_of_ble_eq_true rfl, Nat.le_of_ble_eq_true rfl⟩ hW hS rfl hl.1 rfl (Nat.le_of_ble_eq_true rfl) hro dL_law_976 (fun H locs hW hS => ?_)
  refine lv_icmp_eq (tgt := 1145) hx hb dL_law_979 (by decide) (fun _ => ?_) (fun h => absurd rfl h)
  refine W.widen (k := 84 + 5 * (j + 1)) (n := 3200 + 132 * (j + 1)) (by omega) (by omega) ?_
  exact hN v1 m1 ps H locs ls hR1 (li_book e1 hV) hW hS hl
set_option maxRecDepth 100000 in
set_option maxHeartbeats 1000000 in
theorem lwc_looked {E : mE} {p : Program} {l : Launch} {e : Env} {s : State} {m : MethodId} {below : List Frame} {meth : Method} {c : Code} {b L i j : Nat} {xs : Nat → Int32} {a : OneA} {am : ModelA} {v : OneV} {m0 : ModelV} {ps : lwPS} {H : Heap} {locs : List Loc} {ls : Array Slot} (C : lwG E p s m meth c b L xs) (hi : i + 5 ≤ L) (hj : j ≤ 511) (hQ : R (lwQ ps) v m0) (hV : lwL ps v) (hW : lwD E (fun q : Nat => s.heap.size ≤ q) a v am m0 ps H) (hS : va_S (fun q : Nat => s.heap.size ≤ q) s.heap H locs) (hl : lv_has ls 4 [(0, .ref b), (1, .ref (Onea_self a)), (2, .ref (Modela_self am)), (3, .int (nI i))]) (hN : lwN E p l e s m below meth c b a am i j) : W p l e room_1 s m #[Value.ref b] below meth c H locs (84 + 5 * j) (3200 + 132 * j) (lw_Z below #[Value.ref b] s) (F0 m 984 ls []) := by
  obtain ⟨⟨hx, hb, hr, hml, hown, hts, hX, hbl, hlocks, hgv⟩, hK, hGl, hL⟩ := C
  have hA : ∀ q : Nat, s.heap.size ≤ q → (fun q : Nat => s.heap.size ≤ q) q := fun _ h => h
  have hbA : ¬ (fun q : Nat => s.heap.size ≤ q) b := Nat.not_le.mpr hbl
  have CF : CallFix p m c cL_law 4 s #[Value.ref b] wsL_law RL := ⟨hx, hb, hml, hown, fun w h => hts w (wsL_law_in w h)⟩
  have hro : 84 + 5 * j ≤ room_1.cells ∧ 3200 + 132 * j ≤ room_1.slots := ⟨Nat.le_trans (show 84 + 5 * j ≤ 2639 by omega) (Nat.le_of_ble_eq_true rfl), Nat.le_trans (show 3200 + 132 * j ≤ 70652 by omega) (Nat.le_of_ble_eq_true rfl)⟩
  obtain ⟨ans, e1, e2⟩ := sim_looked hQ 
  refine lv_aload_n hx hb dL_law_984 rfl (lv_at hl 1 rfl) ?_
  refine lw_xp (n := 0) (rest := []) (As := []) (r := .int ans) CF hK hGl (fun q hq => List.mem_append_left _ hq) rfl (c_X7_looked l E a v  _ e1) gL_law_X7_looked rfl ⟨rfl, rfl⟩ (by decide +kernel) ⟨Nat.le_of_ble_eq_true rfl, Nat.le_of_ble_eq_true rfl⟩ hW hS rfl hl.1 rfl (Nat.le_of_ble_eq_true rfl) hro dL_law_985 ?_
  refine lv_aload_n hx hb dL_law_988 rfl (lv_at hl 2 rfl) ?_
  refine lw_mp (n := 0) (rest := [.int ans]) (As := []) (r := .int ans) CF hK hGl (c_X8_looked l E am m0  _ e2) gL_law_X8_looked rfl ⟨rfl, rfl⟩ (by decide +kernel) ⟨Nat.le_of_ble_eq_true rfl, Nat.le_of_ble_eq_true rfl⟩ hW hS rfl hl.1 rfl (Nat.le_of_ble_eq_true rfl) hro dL_law_989 ?_
  refine lv_icmp_eq (tgt := 1145) hx hb dL_law_992 (by decide) (fun _ => ?_) (fun h => absurd rfl h)
  refine W.widen (k := 84 + 5 * (j + 1)) (n := 3200 + 132 * (j + 1)) (by omega) (by omega) ?_
  exact hN v m0 ps H locs ls hQ hV hW hS hl
set_option maxRecDepth 100000 in
set_option maxHeartbeats 1000000 in
theorem lwc_act {E : mE} {p : Program} {l : Launch} {e : Env} {s : State} {m : MethodId} {below : List Frame} {meth : Method} {c : Code} {b L i j : Nat} {xs : Nat → Int32} {a : OneA} {am : ModelA} {v : OneV} {m0 : ModelV} {ps : lwPS} {H : Heap} {locs : List Loc} {ls : Array Slot} (C : lwG E p s m meth c b L xs) (hi : i + 5 ≤ L) (hj : j ≤ 511) (hQ : R (lwQ ps) v m0) (hV : lwL ps v) (hW : lwD E (fun q : Nat => s.heap.size ≤ q) a v am m0 ps H) (hS : va_S (fun q : Nat => s.heap.size ≤ q) s.heap H locs) (hl : lv_has ls 4 [(0, .ref b), (1, .ref (Onea_self a)), (2, .ref (Modela_self am)), (3, .int (nI i))]) (hN : lwN E p l e s m below meth c b a am i j) : W p l e room_1 s m #[Value.ref b] below meth c H locs (84 + 5 * j) (3200 + 132 * j) (lw_Z below #[Value.ref b] s) (F0 m 997 ls []) := by
  obtain ⟨⟨hx, hb, hr, hml, hown, hts, hX, hbl, hlocks, hgv⟩, hK, hGl, hL⟩ := C
  have hA : ∀ q : Nat, s.heap.size ≤ q → (fun q : Nat => s.heap.size ≤ q) q := fun _ h => h
  have hbA : ¬ (fun q : Nat => s.heap.size ≤ q) b := Nat.not_le.mpr hbl
  have CF : CallFix p m c cL_law 4 s #[Value.ref b] wsL_law RL := ⟨hx, hb, hml, hown, fun w h => hts w (wsL_law_in w h)⟩
  have hro : 84 + 5 * j ≤ room_1.cells ∧ 3200 + 132 * j ≤ room_1.slots := ⟨Nat.le_trans (show 84 + 5 * j ≤ 2639 by omega) (Nat.le_of_ble_eq_true rfl), Nat.le_trans (show 3200 + 132 * j ≤ 70652 by omega) (Nat.le_of_ble_eq_true rfl)⟩
  obtain ⟨ans, v1, m1, e1, e2, hR1⟩ := sim_act hQ (xs (nI i + 1).toNatClampNeg) (xs (nI i + 2).toNatClampNeg) (xs (nI i + 3).toNatClampNeg)
  refine lv_aload_n hx hb dL_law_997 rfl (lv_at hl 1 rfl) ?_
  refine lv_aload_n hx hb dL_law_998 rfl (lv_at hl 0 rfl) ?_
  refine lv_iload_n hx hb dL_law_999 rfl (lv_at hl 3 rfl) ?_
  refine lv_iconst (v := 1) hx hb dL_law_1000 (by decide) ?_
  refine lv_iadd hx hb dL_law_1001 ?_
  refine va_sld hx hb hX hbl hbA hS (lw_in (k := 1) (by omega) hi hL) dL_law_1002 ?_
  refine lv_aload_n hx hb dL_law_1003 rfl (lv_at hl 0 rfl) ?_
  refine lv_iload_n hx hb dL_law_1004 rfl (lv_at hl 3 rfl) ?_
  refine lv_iconst (v := 2) hx hb dL_law_1005 (by decide) ?_
  refine lv_iadd hx hb dL_law_1006 ?_
  refine va_sld hx hb hX hbl hbA hS (lw_in (k := 2) (by omega) hi hL) dL_law_1007 ?_
  refine lv_aload_n hx hb dL_law_1008 rfl (lv_at hl 0 rfl) ?_
  refine lv_iload_n hx hb dL_law_1009 rfl (lv_at hl 3 rfl) ?_
  refine lv_iconst (v := 3) hx hb dL_law_1010 (by decide) ?_
  refine lv_iadd hx hb dL_law_1011 ?_
  refine va_sld hx hb hX hbl hbA hS (lw_in (k := 3) (by omega) hi hL) dL_law_1012 ?_
  refine lw_xm (n := 3) (rest := []) (As := [.int (xs (nI i + 1).toNatClampNeg), .int (xs (nI i + 2).toNatClampNeg), .int (xs (nI i + 3).toNatClampNeg)]) (v' := v1) (r := .int ans) CF hK hGl hA ⟨lwPc E ps, List.Perm.refl _⟩ (c_X7_act l E a v _ _ _ _ e1 H.size) gL_law_X7_act rfl ⟨rfl, rfl⟩ (by decide +kernel) ⟨Nat.le_of_ble_eq_true rfl, Nat.le_of_ble_eq_true rfl⟩ hW hS rfl hl.1 rfl (Nat.le_of_ble_eq_true rfl) hro dL_law_1013 (fun H locs hW hS => ?_)
  refine lv_aload_n hx hb dL_law_1016 rfl (lv_at hl 2 rfl) ?_
  refine lv_aload_n hx hb dL_law_1017 rfl (lv_at hl 0 rfl) ?_
  refine lv_iload_n hx hb dL_law_1018 rfl (lv_at hl 3 rfl) ?_
  refine lv_iconst (v := 1) hx hb dL_law_1019 (by decide) ?_
  refine lv_iadd hx hb dL_law_1020 ?_
  refine va_sld hx hb hX hbl hbA hS (lw_in (k := 1) (by omega) hi hL) dL_law_1021 ?_
  refine lv_aload_n hx hb dL_law_1022 rfl (lv_at hl 0 rfl) ?_
  refine lv_iload_n hx hb dL_law_1023 rfl (lv_at hl 3 rfl) ?_
  refine lv_iconst (v := 2) hx hb dL_law_1024 (by decide) ?_
  refine lv_iadd hx hb dL_law_1025 ?_
  refine va_sld hx hb hX hbl hbA hS (lw_in (k := 2) (by omega) hi hL) dL_law_1026 ?_
  refine lv_aload_n hx hb dL_law_1027 rfl (lv_at hl 0 rfl) ?_
  refine lv_iload_n hx hb dL_law_1028 rfl (lv_at hl 3 rfl) ?_
  refine lv_iconst (v := 3) hx hb dL_law_1029 (by decide) ?_
  refine lv_iadd hx hb dL_law_1030 ?_
  refine va_sld hx hb hX hbl hbA hS (lw_in (k := 3) (by omega) hi hL) dL_law_1031 ?_
  refine lw_mm (n := 3) (rest := [.int ans]) (As := [.int (xs (nI i + 1).toNatClampNeg), .int (xs (nI i + 2).toNatClampNeg), .int (xs (nI i + 3).toNatClampNeg)]) (m1 := m1) (r := .int ans) CF hK hGl hA (c_X8_act l E am m0 _ _ _ _ e2 H.size) gL_law_X8_act rfl ⟨rfl, rfl⟩ (by decide +kernel) ⟨Nat.le_of_ble_eq_true rfl, Nat.le_of_ble_eq_true rfl⟩ hW hS rfl hl.1 rfl (Nat.le_of_ble_eq_true rfl) hro dL_law_1032 (fun H locs hW hS => ?_)
  refine lv_icmp_eq (tgt := 1145) hx hb dL_law_1035 (by decide) (fun _ => ?_) (fun h => absurd rfl h)
  refine W.widen (k := 84 + 5 * (j + 1)) (n := 3200 + 132 * (j + 1)) (by omega) (by omega) ?_
  exact hN v1 m1 ps H locs ls hR1 (li_act e1 hV) hW hS hl
set_option maxRecDepth 100000 in
set_option maxHeartbeats 1000000 in
theorem lwc_trace {E : mE} {p : Program} {l : Launch} {e : Env} {s : State} {m : MethodId} {below : List Frame} {meth : Method} {c : Code} {b L i j : Nat} {xs : Nat → Int32} {a : OneA} {am : ModelA} {v : OneV} {m0 : ModelV} {ps : lwPS} {H : Heap} {locs : List Loc} {ls : Array Slot} (C : lwG E p s m meth c b L xs) (hi : i + 5 ≤ L) (hj : j ≤ 511) (hQ : R (lwQ ps) v m0) (hV : lwL ps v) (hW : lwD E (fun q : Nat => s.heap.size ≤ q) a v am m0 ps H) (hS : va_S (fun q : Nat => s.heap.size ≤ q) s.heap H locs) (hl : lv_has ls 4 [(0, .ref b), (1, .ref (Onea_self a)), (2, .ref (Modela_self am)), (3, .int (nI i))]) (hN : lwN E p l e s m below meth c b a am i j) : W p l e room_1 s m #[Value.ref b] below meth c H locs (84 + 5 * j) (3200 + 132 * j) (lw_Z below #[Value.ref b] s) (F0 m 1040 ls []) := by
  obtain ⟨⟨hx, hb, hr, hml, hown, hts, hX, hbl, hlocks, hgv⟩, hK, hGl, hL⟩ := C
  have hA : ∀ q : Nat, s.heap.size ≤ q → (fun q : Nat => s.heap.size ≤ q) q := fun _ h => h
  have hbA : ¬ (fun q : Nat => s.heap.size ≤ q) b := Nat.not_le.mpr hbl
  have CF : CallFix p m c cL_law 4 s #[Value.ref b] wsL_law RL := ⟨hx, hb, hml, hown, fun w h => hts w (wsL_law_in w h)⟩
  have hro : 84 + 5 * j ≤ room_1.cells ∧ 3200 + 132 * j ≤ room_1.slots := ⟨Nat.le_trans (show 84 + 5 * j ≤ 2639 by omega) (Nat.le_of_ble_eq_true rfl), Nat.le_trans (show 3200 + 132 * j ≤ 70652 by omega) (Nat.le_of_ble_eq_true rfl)⟩
  obtain ⟨ans, e1, e2⟩ := sim_trace hQ (xs (nI i + 1).toNatClampNeg)
  refine lv_aload_n hx hb dL_law_1040 rfl (lv_at hl 1 rfl) ?_
  refine lv_aload_n hx hb dL_law_1041 rfl (lv_at hl 0 rfl) ?_
  refine lv_iload_n hx hb dL_law_1042 rfl (lv_at hl 3 rfl) ?_
  refine lv_iconst (v := 1) hx hb dL_law_1043 (by decide) ?_
  refine lv_iadd hx hb dL_law_1044 ?_
  refine va_sld hx hb hX hbl hbA hS (lw_in (k := 1) (by omega) hi hL) dL_law_1045 ?_
  refine lw_xp (n := 1) (rest := []) (As := [.int (xs (nI i + 1).toNatClampNeg)]) (r := .int ans) CF hK hGl (fun q hq => List.mem_append_left _ hq) rfl (c_X7_trace l E a v _ _ e1) gL_law_X7_trace rfl ⟨rfl, rfl⟩ (by decide +kernel) ⟨Nat.le_of_ble_eq_true rfl, Nat.le_of_ble_eq_true rfl⟩ hW hS rfl hl.1 rfl (Nat.le_of_ble_eq_true rfl) hro dL_law_1046 ?_
  refine lv_aload_n hx hb dL_law_1049 rfl (lv_at hl 2 rfl) ?_
  refine lv_aload_n hx hb dL_law_1050 rfl (lv_at hl 0 rfl) ?_
  refine lv_iload_n hx hb dL_law_1051 rfl (lv_at hl 3 rfl) ?_
  refine lv_iconst (v := 1) hx hb dL_law_1052 (by decide) ?_
  refine lv_iadd hx hb dL_law_1053 ?_
  refine va_sld hx hb hX hbl hbA hS (lw_in (k := 1) (by omega) hi hL) dL_law_1054 ?_
  refine lw_mp (n := 1) (rest := [.int ans]) (As := [.int (xs (nI i + 1).toNatClampNeg)]) (r := .int ans) CF hK hGl (c_X8_trace l E am m0 _ _ e2) gL_law_X8_trace rfl ⟨rfl, rfl⟩ (by decide +kernel) ⟨Nat.le_of_ble_eq_true rfl, Nat.le_of_ble_eq_true rfl⟩ hW hS rfl hl.1 rfl (Nat.le_of_ble_eq_true rfl) hro dL_law_1055 ?_
  refine lv_icmp_eq (tgt := 1145) hx hb dL_law_1058 (by decide) (fun _ => ?_) (fun h => absurd rfl h)
  refine W.widen (k := 84 + 5 * (j + 1)) (n := 3200 + 132 * (j + 1)) (by omega) (by omega) ?_
  exact hN v m0 ps H locs ls hQ hV hW hS hl
set_option maxRecDepth 100000 in
set_option maxHeartbeats 1000000 in
theorem lwc_as {E : mE} {p : Program} {l : Launch} {e : Env} {s : State} {m : MethodId} {below : List Frame} {meth : Method} {c : Code} {b L i j : Nat} {xs : Nat → Int32} {a : OneA} {am : ModelA} {v : OneV} {m0 : ModelV} {ps : lwPS} {H : Heap} {locs : List Loc} {ls : Array Slot} (C : lwG E p s m meth c b L xs) (hi : i + 5 ≤ L) (hj : j ≤ 511) (hQ : R (lwQ ps) v m0) (hV : lwL ps v) (hW : lwD E (fun q : Nat => s.heap.size ≤ q) a v am m0 ps H) (hS : va_S (fun q : Nat => s.heap.size ≤ q) s.heap H locs) (hl : lv_has ls 4 [(0, .ref b), (1, .ref (Onea_self a)), (2, .ref (Modela_self am)), (3, .int (nI i))]) (hN : lwN E p l e s m below meth c b a am i j) : W p l e room_1 s m #[Value.ref b] below meth c H locs (84 + 5 * j) (3200 + 132 * j) (lw_Z below #[Value.ref b] s) (F0 m 1063 ls []) := by
  obtain ⟨⟨hx, hb, hr, hml, hown, hts, hX, hbl, hlocks, hgv⟩, hK, hGl, hL⟩ := C
  have hA : ∀ q : Nat, s.heap.size ≤ q → (fun q : Nat => s.heap.size ≤ q) q := fun _ h => h
  have hbA : ¬ (fun q : Nat => s.heap.size ≤ q) b := Nat.not_le.mpr hbl
  have CF : CallFix p m c cL_law 4 s #[Value.ref b] wsL_law RL := ⟨hx, hb, hml, hown, fun w h => hts w (wsL_law_in w h)⟩
  have hro : 84 + 5 * j ≤ room_1.cells ∧ 3200 + 132 * j ≤ room_1.slots := ⟨Nat.le_trans (show 84 + 5 * j ≤ 2639 by omega) (Nat.le_of_ble_eq_true rfl), Nat.le_trans (show 3200 + 132 * j ≤ 70652 by omega) (Nat.le_of_ble_eq_true rfl)⟩
  obtain ⟨ans, e1, e2⟩ := sim_as hQ (xs (nI i + 1).toNatClampNeg) (xs (nI i + 2).toNatClampNeg)
  refine lv_aload_n hx hb dL_law_1063 rfl (lv_at hl 1 rfl) ?_
  refine lv_aload_n hx hb dL_law_1064 rfl (lv_at hl 0 rfl) ?_
  refine lv_iload_n hx hb dL_law_1065 rfl (lv_at hl 3 rfl) ?_
  refine lv_iconst (v := 1) hx hb dL_law_1066 (by decide) ?_
  refine lv_iadd hx hb dL_law_1067 ?_
  refine va_sld hx hb hX hbl hbA hS (lw_in (k := 1) (by omega) hi hL) dL_law_1068 ?_
  refine lv_aload_n hx hb dL_law_1069 rfl (lv_at hl 0 rfl) ?_
  refine lv_iload_n hx hb dL_law_1070 rfl (lv_at hl 3 rfl) ?_
  refine lv_iconst (v := 2) hx hb dL_law_1071 (by decide) ?_
  refine lv_iadd hx hb dL_law_1072 ?_
  refine va_sld hx hb hX hbl hbA hS (lw_in (k := 2) (by omega) hi hL) dL_law_1073 ?_
  refine lw_xp (n := 2) (rest := []) (As := [.int (xs (nI i + 1).toNatClampNeg), .int (xs (nI i + 2).toNatClampNeg)]) (r := .int ans) CF hK hGl (fun q hq => List.mem_append_left _ hq) rfl (c_X7_as l E a v _ _ _ e1) gL_law_X7_as rfl ⟨rfl, rfl⟩ (by decide +kernel) ⟨Nat.le_of_ble_eq_true rfl, Nat.le_of_ble_eq_true rfl⟩ hW hS rfl hl.1 rfl (Nat.le_of_ble_eq_true rfl) hro dL_law_1074 ?_
  refine lv_aload_n hx hb dL_law_1077 rfl (lv_at hl 2 rfl) ?_
  refine lv_aload_n hx hb dL_law_1078 rfl (lv_at hl 0 rfl) ?_
  refine lv_iload_n hx hb dL_law_1079 rfl (lv_at hl 3 rfl) ?_
  refine lv_iconst (v := 1) hx hb dL_law_1080 (by decide) ?_
  refine lv_iadd hx hb dL_law_1081 ?_
  refine va_sld hx hb hX hbl hbA hS (lw_in (k := 1) (by omega) hi hL) dL_law_1082 ?_
  refine lv_aload_n hx hb dL_law_1083 rfl (lv_at hl 0 rfl) ?_
  refine lv_iload_n hx hb dL_law_1084 rfl (lv_at hl 3 rfl) ?_
  refine lv_iconst (v := 2) hx hb dL_law_1085 (by decide) ?_
  refine lv_iadd hx hb dL_law_1086 ?_
  refine va_sld hx hb hX hbl hbA hS (lw_in (k := 2) (by omega) hi hL) dL_law_1087 ?_
  refine lw_mp (n := 2) (rest := [.int ans]) (As := [.int (xs (nI i + 1).toNatClampNeg), .int (xs (nI i + 2).toNatClampNeg)]) (r := .int ans) CF hK hGl (c_X8_as l E am m0 _ _ _ e2) gL_law_X8_as rfl ⟨rfl, rfl⟩ (by decide +kernel) ⟨Nat.le_of_ble_eq_true rfl, Nat.le_of_ble_eq_true rfl⟩ hW hS rfl hl.1 rfl (Nat.le_of_ble_eq_true rfl) hro dL_law_1088 ?_
  refine lv_icmp_eq (tgt := 1145) hx hb dL_law_1091 (by decide) (fun _ => ?_) (fun h => absurd rfl h)
  refine W.widen (k := 84 + 5 * (j + 1)) (n := 3200 + 132 * (j + 1)) (by omega) (by omega) ?_
  exact hN v m0 ps H locs ls hQ hV hW hS hl
set_option maxRecDepth 100000 in
set_option maxHeartbeats 1000000 in
theorem lwc_image {E : mE} {p : Program} {l : Launch} {e : Env} {s : State} {m : MethodId} {below : List Frame} {meth : Method} {c : Code} {b L i j : Nat} {xs : Nat → Int32} {a : OneA} {am : ModelA} {v : OneV} {m0 : ModelV} {ps : lwPS} {H : Heap} {locs : List Loc} {ls : Array Slot} (C : lwG E p s m meth c b L xs) (hi : i + 5 ≤ L) (hj : j ≤ 511) (hQ : R (lwQ ps) v m0) (hV : lwL ps v) (hW : lwD E (fun q : Nat => s.heap.size ≤ q) a v am m0 ps H) (hS : va_S (fun q : Nat => s.heap.size ≤ q) s.heap H locs) (hl : lv_has ls 4 [(0, .ref b), (1, .ref (Onea_self a)), (2, .ref (Modela_self am)), (3, .int (nI i))]) (hN : lwN E p l e s m below meth c b a am i j) : W p l e room_1 s m #[Value.ref b] below meth c H locs (84 + 5 * j) (3200 + 132 * j) (lw_Z below #[Value.ref b] s) (F0 m 1096 ls []) := by
  obtain ⟨⟨hx, hb, hr, hml, hown, hts, hX, hbl, hlocks, hgv⟩, hK, hGl, hL⟩ := C
  have hA : ∀ q : Nat, s.heap.size ≤ q → (fun q : Nat => s.heap.size ≤ q) q := fun _ h => h
  have hbA : ¬ (fun q : Nat => s.heap.size ≤ q) b := Nat.not_le.mpr hbl
  have CF : CallFix p m c cL_law 4 s #[Value.ref b] wsL_law RL := ⟨hx, hb, hml, hown, fun w h => hts w (wsL_law_in w h)⟩
  have hro : 84 + 5 * j ≤ room_1.cells ∧ 3200 + 132 * j ≤ room_1.slots := ⟨Nat.le_trans (show 84 + 5 * j ≤ 2639 by omega) (Nat.le_of_ble_eq_true rfl), Nat.le_trans (show 3200 + 132 * j ≤ 70652 by omega) (Nat.le_of_ble_eq_true rfl)⟩
  obtain ⟨ans, v1, m1, e1, e2, hR1⟩ := sim_image hQ 
  refine lv_aload_n hx hb dL_law_1096 rfl (lv_at hl 1 rfl) ?_
  refine lw_xm (n := 0) (rest := []) (As := []) (v' := v1) (r := .int ans) CF hK hGl hA ⟨[], by rw [List.append_nil]⟩ (c_X7_image l E a v (lwPc E ps) (fun i r h => lw_rp (hV.1 i r h)) _ e1 H.size) gL_law_X7_image rfl ⟨rfl, rfl⟩ (by decide +kernel) ⟨Nat.le_of_ble_eq_true rfl, Nat.le_of_ble_eq_true rfl⟩ hW hS rfl hl.1 rfl (Nat.le_of_ble_eq_true rfl) hro dL_law_1097 (fun H locs hW hS => ?_)
  refine lv_aload_n hx hb dL_law_1100 rfl (lv_at hl 2 rfl) ?_
  refine lw_mm (n := 0) (rest := [.int ans]) (As := []) (m1 := m1) (r := .int ans) CF hK hGl hA (c_X8_image l E am m0  _ e2 H.size) gL_law_X8_image rfl ⟨rfl, rfl⟩ (by decide +kernel) ⟨Nat.le_of_ble_eq_true rfl, Nat.le_of_ble_eq_true rfl⟩ hW hS rfl hl.1 rfl (Nat.le_of_ble_eq_true rfl) hro dL_law_1101 (fun H locs hW hS => ?_)
  refine lv_icmp_eq (tgt := 1145) hx hb dL_law_1104 (by decide) (fun _ => ?_) (fun h => absurd rfl h)
  refine W.widen (k := 84 + 5 * (j + 1)) (n := 3200 + 132 * (j + 1)) (by omega) (by omega) ?_
  exact hN v1 m1 ps H locs ls hR1 (li_image e1 hV) hW hS hl
set_option maxRecDepth 100000 in
set_option maxHeartbeats 1000000 in
theorem lwc_undo {E : mE} {p : Program} {l : Launch} {e : Env} {s : State} {m : MethodId} {below : List Frame} {meth : Method} {c : Code} {b L i j : Nat} {xs : Nat → Int32} {a : OneA} {am : ModelA} {v : OneV} {m0 : ModelV} {ps : lwPS} {H : Heap} {locs : List Loc} {ls : Array Slot} (C : lwG E p s m meth c b L xs) (hi : i + 5 ≤ L) (hj : j ≤ 511) (hQ : R (lwQ ps) v m0) (hV : lwL ps v) (hW : lwD E (fun q : Nat => s.heap.size ≤ q) a v am m0 ps H) (hS : va_S (fun q : Nat => s.heap.size ≤ q) s.heap H locs) (hl : lv_has ls 4 [(0, .ref b), (1, .ref (Onea_self a)), (2, .ref (Modela_self am)), (3, .int (nI i))]) (hN : lwN E p l e s m below meth c b a am i j) : W p l e room_1 s m #[Value.ref b] below meth c H locs (84 + 5 * j) (3200 + 132 * j) (lw_Z below #[Value.ref b] s) (F0 m 1109 ls []) := by
  obtain ⟨⟨hx, hb, hr, hml, hown, hts, hX, hbl, hlocks, hgv⟩, hK, hGl, hL⟩ := C
  have hA : ∀ q : Nat, s.heap.size ≤ q → (fun q : Nat => s.heap.size ≤ q) q := fun _ h => h
  have hbA : ¬ (fun q : Nat => s.heap.size ≤ q) b := Nat.not_le.mpr hbl
  have CF : CallFix p m c cL_law 4 s #[Value.ref b] wsL_law RL := ⟨hx, hb, hml, hown, fun w h => hts w (wsL_law_in w h)⟩
  have hro : 84 + 5 * j ≤ room_1.cells ∧ 3200 + 132 * j ≤ room_1.slots := ⟨Nat.le_trans (show 84 + 5 * j ≤ 2639 by omega) (Nat.le_of_ble_eq_true rfl), Nat.le_trans (show 3200 + 132 * j ≤ 70652 by omega) (Nat.le_of_ble_eq_true rfl)⟩
  obtain ⟨ans, v1, m1, e1, e2, hR1⟩ := sim_undo hQ 
  refine lv_aload_n hx hb dL_law_1109 rfl (lv_at hl 1 rfl) ?_
  refine lw_xm (n := 0) (rest := []) (As := []) (v' := v1) (r := .int ans) CF hK hGl hA ⟨[], by rw [List.append_nil]⟩ (c_X7_undo l E a v (lwPc E ps) (fun i r h => lw_rp (hV.2 i r h)) _ e1 H.size) gL_law_X7_undo rfl ⟨rfl, rfl⟩ (by decide +kernel) ⟨Nat.le_of_ble_eq_true rfl, Nat.le_of_ble_eq_true rfl⟩ hW hS rfl hl.1 rfl (Nat.le_of_ble_eq_true rfl) hro dL_law_1110 (fun H locs hW hS => ?_)
  refine lv_aload_n hx hb dL_law_1113 rfl (lv_at hl 2 rfl) ?_
  refine lw_mm (n := 0) (rest := [.int ans]) (As := []) (m1 := m1) (r := .int ans) CF hK hGl hA (c_X8_undo l E am m0  _ e2 H.size) gL_law_X8_undo rfl ⟨rfl, rfl⟩ (by decide +kernel) ⟨Nat.le_of_ble_eq_true rfl, Nat.le_of_ble_eq_true rfl⟩ hW hS rfl hl.1 rfl (Nat.le_of_ble_eq_true rfl) hro dL_law_1114 (fun H locs hW hS => ?_)
  refine lv_icmp_eq (tgt := 1145) hx hb dL_law_1117 (by decide) (fun _ => ?_) (fun h => absurd rfl h)
  refine W.widen (k := 84 + 5 * (j + 1)) (n := 3200 + 132 * (j + 1)) (by omega) (by omega) ?_
  exact hN v1 m1 ps H locs ls hR1 (li_undo e1 hV) hW hS hl
set_option maxRecDepth 100000 in
set_option maxHeartbeats 1000000 in
theorem lwc_count {E : mE} {p : Program} {l : Launch} {e : Env} {s : State} {m : MethodId} {below : List Frame} {meth : Method} {c : Code} {b L i j : Nat} {xs : Nat → Int32} {a : OneA} {am : ModelA} {v : OneV} {m0 : ModelV} {ps : lwPS} {H : Heap} {locs : List Loc} {ls : Array Slot} (C : lwG E p s m meth c b L xs) (hi : i + 5 ≤ L) (hj : j ≤ 511) (hQ : R (lwQ ps) v m0) (hV : lwL ps v) (hW : lwD E (fun q : Nat => s.heap.size ≤ q) a v am m0 ps H) (hS : va_S (fun q : Nat => s.heap.size ≤ q) s.heap H locs) (hl : lv_has ls 4 [(0, .ref b), (1, .ref (Onea_self a)), (2, .ref (Modela_self am)), (3, .int (nI i))]) (hN : lwN E p l e s m below meth c b a am i j) : W p l e room_1 s m #[Value.ref b] below meth c H locs (84 + 5 * j) (3200 + 132 * j) (lw_Z below #[Value.ref b] s) (F0 m 1122 ls []) := by
  obtain ⟨⟨hx, hb, hr, hml, hown, hts, hX, hbl, hlocks, hgv⟩, hK, hGl, hL⟩ := C
  have hA : ∀ q : Nat, s.heap.size ≤ q → (fun q : Nat => s.heap.size ≤ q) q := fun _ h => h
  have hbA : ¬ (fun q : Nat => s.heap.size ≤ q) b := Nat.not_le.mpr hbl
  have CF : CallFix p m c cL_law 4 s #[Value.ref b] wsL_law RL := ⟨hx, hb, hml, hown, fun w h => hts w (wsL_law_in w h)⟩
  have hro : 84 + 5 * j ≤ room_1.cells ∧ 3200 + 132 * j ≤ room_1.slots := ⟨Nat.le_trans (show 84 + 5 * j ≤ 2639 by omega) (Nat.le_of_ble_eq_true rfl), Nat.le_trans (show 3200 + 132 * j ≤ 70652 by omega) (Nat.le_of_ble_eq_true rfl)⟩
  obtain ⟨ans, e1, e2⟩ := sim_count hQ (xs (nI i + 1).toNatClampNeg)
  refine lv_aload_n hx hb dL_law_1122 rfl (lv_at hl 1 rfl) ?_
  refine lv_aload_n hx hb dL_law_1123 rfl (lv_at hl 0 rfl) ?_
  refine lv_iload_n hx hb dL_law_1124 rfl (lv_at hl 3 rfl) ?_
  refine lv_iconst (v := 1) hx hb dL_law_1125 (by decide) ?_
  refine lv_iadd hx hb dL_law_1126 ?_
  refine va_sld hx hb hX hbl hbA hS (lw_in (k := 1) (by omega) hi hL) dL_law_1127 ?_
  refine lw_xp (n := 1) (rest := []) (As := [.int (xs (nI i + 1).toNatClampNeg)]) (r := .int ans) CF hK hGl (fun q hq => List.mem_append_left _ hq) rfl (c_X7_count l E a v _ _ e1) gL_law_X7_count rfl ⟨rfl, rfl⟩ (by decide +kernel) ⟨Nat.le_of_ble_eq_true rfl, Nat.le_of_ble_eq_true rfl⟩ hW hS rfl hl.1 rfl (Nat.le_of_ble_eq_true rfl) hro dL_law_1128 ?_
  refine lv_aload_n hx hb dL_law_1131 rfl (lv_at hl 2 rfl) ?_
  refine lv_aload_n hx hb dL_law_1132 rfl (lv_at hl 0 rfl) ?_
  refine lv_iload_n hx hb dL_law_1133 rfl (lv_at hl 3 rfl) ?_
  refine lv_iconst (v := 1) hx hb dL_law_1134 (by decide) ?_
  refine lv_iadd hx hb dL_law_1135 ?_
  refine va_sld hx hb hX hbl hbA hS (lw_in (k := 1) (by omega) hi hL) dL_law_1136 ?_
  refine lw_mp (n := 1) (rest := [.int ans]) (As := [.int (xs (nI i + 1).toNatClampNeg)]) (r := .int ans) CF hK hGl (c_X8_count l E am m0 _ _ e2) gL_law_X8_count rfl ⟨rfl, rfl⟩ (by decide +kernel) ⟨Nat.le_of_ble_eq_true rfl, Nat.le_of_ble_eq_true rfl⟩ hW hS rfl hl.1 rfl (Nat.le_of_ble_eq_true rfl) hro dL_law_1137 ?_
  refine lv_icmp_eq (tgt := 1145) hx hb dL_law_1140 (by decide) (fun _ => ?_) (fun h => absurd rfl h)
  refine W.widen (k := 84 + 5 * (j + 1)) (n := 3200 + 132 * (j + 1)) (by omega) (by omega) ?_
  exact hN v m0 ps H locs ls hQ hV hW hS hl
