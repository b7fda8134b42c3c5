/-! The law, case by case. -/
set_option maxRecDepth 100000 in
set_option maxHeartbeats 1000000 in
theorem lwc_feed {E : mE} {p : Program} {l : Launch} {e : Env} {s : State} {m : MethodId} {below : List Frame} {meth : Method} {c : Code} {b L i j : Nat} {xs : Nat → Int32} {a : OneA} {am : ModelA} {v : OneV} {m0 : ModelV} {ps : lwPS} {H : Heap} {locs : List Loc} {ls : Array Slot} (C : lwG E p s m meth c b L xs) (hi : i + 5 ≤ L) (hj : j ≤ 511) (hQ : R (lwQ ps) v m0) (hV : lwL ps v) (hW : lwD E (fun q : Nat => s.heap.size ≤ q) a v am m0 ps H) (hS : va_S (fun q : Nat => s.heap.size ≤ q) s.heap H locs) (hl : lv_has ls 4 [(0, .ref b), (1, .ref (Onea_self a)), (2, .ref (Modela_self am)), (3, .int (nI i))]) (hN : lwN E p l e s m below meth c b a am i j) : W p l e room_1 s m #[Value.ref b] below meth c H locs (84 + 5 * j) (3200 + 132 * j) (lw_Z below #[Value.ref b] s) (F0 m 184 ls []) := by
  obtain ⟨⟨hx, hb, hr, hml, hown, hts, hX, hbl, hlocks, hgv⟩, hK, hGl, hL⟩ := C
  have hA : ∀ q : Nat, s.heap.size ≤ q → (fun q : Nat => s.heap.size ≤ q) q := fun _ h => h
  have hbA : ¬ (fun q : Nat => s.heap.size ≤ q) b := Nat.not_le.mpr hbl
  have CF : CallFix p m c cL_law 4 s #[Value.ref b] wsL_law RL := ⟨hx, hb, hml, hown, fun w h => hts w (wsL_law_in w h)⟩
  have hro : 84 + 5 * j ≤ room_1.cells ∧ 3200 + 132 * j ≤ room_1.slots := ⟨Nat.le_trans (show 84 + 5 * j ≤ 2639 by omega) (Nat.le_of_ble_eq_true rfl), Nat.le_trans (show 3200 + 132 * j ≤ 70652 by omega) (Nat.le_of_ble_eq_true rfl)⟩
  obtain ⟨ans, v1, m1, e1, e2, hR1⟩ := sim_feed hQ (xs (nI i + 1).toNatClampNeg)
  refine lv_aload_n hx hb dL_law_184 rfl (lv_at hl 1 rfl) ?_
  refine lv_aload_n hx hb dL_law_185 rfl (lv_at hl 0 rfl) ?_
  refine lv_iload_n hx hb dL_law_186 rfl (lv_at hl 3 rfl) ?_
  refine lv_iconst (v := 1) hx hb dL_law_187 (by decide) ?_
  refine lv_iadd hx hb dL_law_188 ?_
  refine va_sld hx hb hX hbl hbA hS (lw_in (k := 1) (by omega) hi hL) dL_law_189 ?_
  refine lw_xm (n := 1) (rest := []) (As := [.int (xs (nI i + 1).toNatClampNeg)]) (v' := v1) (r := .int ans) CF hK hGl hA ⟨lwPc E ps, List.Perm.refl _⟩ (c_X7_feed l E a v _ _ e1 H.size) gL_law_X7_feed rfl ⟨rfl, rfl⟩ (by decide +kernel) ⟨Nat.le_of_ble_eq_true rfl, Nat.le_of_ble_eq_true rfl⟩ hW hS rfl hl.1 rfl (Nat.le_of_ble_eq_true rfl) hro dL_law_190 (fun H locs hW hS => ?_)
  refine lv_aload_n hx hb dL_law_193 rfl (lv_at hl 2 rfl) ?_
  refine lv_aload_n hx hb dL_law_194 rfl (lv_at hl 0 rfl) ?_
  refine lv_iload_n hx hb dL_law_195 rfl (lv_at hl 3 rfl) ?_
  refine lv_iconst (v := 1) hx hb dL_law_196 (by decide) ?_
  refine lv_iadd hx hb dL_law_197 ?_
  refine va_sld hx hb hX hbl hbA hS (lw_in (k := 1) (by omega) hi hL) dL_law_198 ?_
  refine lw_mm (n := 1) (rest := [.int ans]) (As := [.int (xs (nI i + 1).toNatClampNeg)]) (m1 := m1) (r := .int ans) CF hK hGl hA (c_X8_feed l E am m0 _ _ e2 H.size) gL_law_X8_feed rfl ⟨rfl, rfl⟩ (by decide +kernel) ⟨Nat.le_of_ble_eq_true rfl, Nat.le_of_ble_eq_true rfl⟩ hW hS rfl hl.1 rfl (Nat.le_of_ble_eq_true rfl) hro dL_law_199 (fun H locs hW hS => ?_)
  refine lv_icmp_eq (tgt := 1145) hx hb dL_law_202 (by decide) (fun _ => ?_) (fun h => absurd rfl h)
  refine W.widen (k := 84 + 5 * (j + 1)) (n := 3200 + 132 * (j + 1)) (by omega) (by omega) ?_
  exact hN v1 m1 ps H locs ls hR1 (li_feed e1 hV) hW hS hl
set_option maxRecDepth 100000 in
set_option maxHeartbeats 1000000 in
theorem lwc_pupil {E : mE} {p : Program} {l : Launch} {e : Env} {s : State} {m : MethodId} {below : List Frame} {meth : Method} {c : Code} {b L i j : Nat} {xs : Nat → Int32} {a : OneA} {am : ModelA} {v : OneV} {m0 : ModelV} {ps : lwPS} {H : Heap} {locs : List Loc} {ls : Array Slot} (C : lwG E p s m meth c b L xs) (hi : i + 5 ≤ L) (hj : j ≤ 511) (hQ : R (lwQ ps) v m0) (hV : lwL ps v) (hW : lwD E (fun q : Nat => s.heap.size ≤ q) a v am m0 ps H) (hS : va_S (fun q : Nat => s.heap.size ≤ q) s.heap H locs) (hl : lv_has ls 4 [(0, .ref b), (1, .ref (Onea_self a)), (2, .ref (Modela_self am)), (3, .int (nI i))]) (hN : lwN E p l e s m below meth c b a am i j) : W p l e room_1 s m #[Value.ref b] below meth c H locs (84 + 5 * j) (3200 + 132 * j) (lw_Z below #[Value.ref b] s) (F0 m 220 ls []) := by
  obtain ⟨⟨hx, hb, hr, hml, hown, hts, hX, hbl, hlocks, hgv⟩, hK, hGl, hL⟩ := C
  have hA : ∀ q : Nat, s.heap.size ≤ q → (fun q : Nat => s.heap.size ≤ q) q := fun _ h => h
  have hbA : ¬ (fun q : Nat => s.heap.size ≤ q) b := Nat.not_le.mpr hbl
  have CF : CallFix p m c cL_law 4 s #[Value.ref b] wsL_law RL := ⟨hx, hb, hml, hown, fun w h => hts w (wsL_law_in w h)⟩
  have hro : 84 + 5 * j ≤ room_1.cells ∧ 3200 + 132 * j ≤ room_1.slots := ⟨Nat.le_trans (show 84 + 5 * j ≤ 2639 by omega) (Nat.le_of_ble_eq_true rfl), Nat.le_trans (show 3200 + 132 * j ≤ 70652 by omega) (Nat.le_of_ble_eq_true rfl)⟩
  obtain ⟨ans, v1, m1, e1, e2, hR1⟩ := sim_pupil hQ (xs (nI i + 1).toNatClampNeg) (xs (nI i + 2).toNatClampNeg) (xs (nI i + 3).toNatClampNeg) (xs (nI i + 4).toNatClampNeg)
  refine lv_aload_n hx hb dL_law_220 rfl (lv_at hl 1 rfl) ?_
  refine lv_aload_n hx hb dL_law_221 rfl (lv_at hl 0 rfl) ?_
  refine lv_iload_n hx hb dL_law_222 rfl (lv_at hl 3 rfl) ?_
  refine lv_iconst (v := 1) hx hb dL_law_223 (by decide) ?_
  refine lv_iadd hx hb dL_law_224 ?_
  refine va_sld hx hb hX hbl hbA hS (lw_in (k := 1) (by omega) hi hL) dL_law_225 ?_
  refine lv_aload_n hx hb dL_law_226 rfl (lv_at hl 0 rfl) ?_
  refine lv_iload_n hx hb dL_law_227 rfl (lv_at hl 3 rfl) ?_
  refine lv_iconst (v := 2) hx hb dL_law_228 (by decide) ?_
  refine lv_iadd hx hb dL_law_229 ?_
  refine va_sld hx hb hX hbl hbA hS (lw_in (k := 2) (by omega) hi hL) dL_law_230 ?_
  refine lv_aload_n hx hb dL_law_231 rfl (lv_at hl 0 rfl) ?_
  refine lv_iload_n hx hb dL_law_232 rfl (lv_at hl 3 rfl) ?_
  refine lv_iconst (v := 3) hx hb dL_law_233 (by decide) ?_
  refine lv_iadd hx hb dL_law_234 ?_
  refine va_sld hx hb hX hbl hbA hS (lw_in (k := 3) (by omega) hi hL) dL_law_235 ?_
  refine lv_aload_n hx hb dL_law_236 rfl (lv_at hl 0 rfl) ?_
  refine lv_iload_n hx hb dL_law_237 rfl (lv_at hl 3 rfl) ?_
  refine lv_iconst (v := 4) hx hb dL_law_238 (by decide) ?_
  refine lv_iadd hx hb dL_law_239 ?_
  refine va_sld hx hb hX hbl hbA hS (lw_in (k := 4) (by omega) hi hL) dL_law_240 ?_
  refine lw_xm (n := 4) (rest := []) (As := [.int (xs (nI i + 1).toNatClampNeg), .int (xs (nI i + 2).toNatClampNeg), .int (xs (nI i + 3).toNatClampNeg), .int (xs (nI i + 4).toNatClampNeg)]) (v' := v1) (r := .int ans) CF hK hGl hA ⟨lwPc E ps, List.Perm.refl _⟩ (c_X7_pupil l E a v _ _ _ _ _ e1 H.size) gL_law_X7_pupil rfl ⟨rfl, rfl⟩ (by decide +kernel) ⟨Nat.le_of_ble_eq_true rfl, Nat.le_of_ble_eq_true rfl⟩ hW hS rfl hl.1 rfl (Nat.le_of_ble_eq_true rfl) hro dL_law_241 (fun H locs hW hS => ?_)
  refine lv_aload_n hx hb dL_law_244 rfl (lv_at hl 2 rfl) ?_
  refine lv_aload_n hx hb dL_law_245 rfl (lv_at hl 0 rfl) ?_
  refine lv_iload_n hx hb dL_law_246 rfl (lv_at hl 3 rfl) ?_
  refine lv_iconst (v := 1) hx hb dL_law_247 (by decide) ?_
  refine lv_iadd hx hb dL_law_248 ?_
  refine va_sld hx hb hX hbl hbA hS (lw_in (k := 1) (by omega) hi hL) dL_law_249 ?_
  refine lv_aload_n hx hb dL_law_250 rfl (lv_at hl 0 rfl) ?_
  refine lv_iload_n hx hb dL_law_251 rfl (lv_at hl 3 rfl) ?_
  refine lv_iconst (v := 2) hx hb dL_law_252 (by decide) ?_
  refine lv_iadd hx hb dL_law_253 ?_
  refine va_sld hx hb hX hbl hbA hS (lw_in (k := 2) (by omega) hi hL) dL_law_254 ?_
  refine lv_aload_n hx hb dL_law_255 rfl (lv_at hl 0 rfl) ?_
  refine lv_iload_n hx hb dL_law_256 rfl (lv_at hl 3 rfl) ?_
  refine lv_iconst (v := 3) hx hb dL_law_257 (by decide) ?_
  refine lv_iadd hx hb dL_law_258 ?_
  refine va_sld hx hb hX hbl hbA hS (lw_in (k := 3) (by omega) hi hL) dL_law_259 ?_
  refine lv_aload_n hx hb dL_law_260 rfl (lv_at hl 0 rfl) ?_
  refine lv_iload_n hx hb dL_law_261 rfl (lv_at hl 3 rfl) ?_
  refine lv_iconst (v := 4) hx hb dL_law_262 (by decide) ?_
  refine lv_iadd hx hb dL_law_263 ?_
  refine va_sld hx hb hX hbl hbA hS (lw_in (k := 4) (by omega) hi hL) dL_law_264 ?_
  refine lw_mm (n := 4) (rest := [.int ans]) (As := [.int (xs (nI i + 1).toNatClampNeg), .int (xs (nI i + 2).toNatClampNeg), .int (xs (nI i + 3).toNatClampNeg), .int (xs (nI i + 4).toNatClampNeg)]) (m1 := m1) (r := .int ans) CF hK hGl hA (c_X8_pupil l E am m0 _ _ _ _ _ e2 H.size) gL_law_X8_pupil rfl ⟨rfl, rfl⟩ (by decide +kernel) ⟨Nat.le_of_ble_eq_true rfl, Nat.le_of_ble_eq_true rfl⟩ hW hS rfl hl.1 rfl (Nat.le_of_ble_eq_true rfl) hro dL_law_265 (fun H locs hW hS => ?_)
  refine lv_icmp_eq (tgt := 1145) hx hb dL_law_268 (by decide) (fun _ => ?_) (fun h => absurd rfl h)
  refine W.widen (k := 84 + 5 * (j + 1)) (n := 3200 + 132 * (j + 1)) (by omega) (by omega) ?_
  exact hN v1 m1 ps H locs ls hR1 (li_pupil e1 hV) hW hS hl
set_option maxRecDepth 100000 in
set_option maxHeartbeats 1000000 in
theorem lwc_of {E : mE} {p : Program} {l : Launch} {e : Env} {s : State} {m : MethodId} {below : List Frame} {meth : Method} {c : Code} {b L i j : Nat} {xs : Nat → Int32} {a : OneA} {am : ModelA} {v : OneV} {m0 : ModelV} {ps : lwPS} {H : Heap} {locs : List Loc} {ls : Array Slot} (C : lwG E p s m meth c b L xs) (hi : i + 5 ≤ L) (hj : j ≤ 511) (hQ : R (lwQ ps) v m0) (hV : lwL ps v) (hW : lwD E (fun q : Nat => s.heap.size ≤ q) a v am m0 ps H) (hS : va_S (fun q : Nat => s.heap.size ≤ q) s.heap H locs) (hl : lv_has ls 4 [(0, .ref b), (1, .ref (Onea_self a)), (2, .ref (Modela_self am)), (3, .int (nI i))]) (hN : lwN E p l e s m below meth c b a am i j) : W p l e room_1 s m #[Value.ref b] below meth c H locs (84 + 5 * j) (3200 + 132 * j) (lw_Z below #[Value.ref b] s) (F0 m 273 ls []) := by
  obtain ⟨⟨hx, hb, hr, hml, hown, hts, hX, hbl, hlocks, hgv⟩, hK, hGl, hL⟩ := C
  have hA : ∀ q : Nat, s.heap.size ≤ q → (fun q : Nat => s.heap.size ≤ q) q := fun _ h => h
  have hbA : ¬ (fun q : Nat => s.heap.size ≤ q) b := Nat.not_le.mpr hbl
  have CF : CallFix p m c cL_law 4 s #[Value.ref b] wsL_law RL := ⟨hx, hb, hml, hown, fun w h => hts w (wsL_law_in w h)⟩
  have hro : 84 + 5 * j ≤ room_1.cells ∧ 3200 + 132 * j ≤ room_1.slots := ⟨Nat.le_trans (show 84 + 5 * j ≤ 2639 by omega) (Nat.le_of_ble_eq_true rfl), Nat.le_trans (show 3200 + 132 * j ≤ 70652 by omega) (Nat.le_of_ble_eq_true rfl)⟩
  obtain ⟨ea, le, hmem, hH⟩ := lw_hl hQ
  obtain ⟨ans, m1, e1, e2, hR1⟩ := sim_of hQ hH (xs (nI i + 1).toNatClampNeg) (xs (nI i + 2).toNatClampNeg)
  refine lv_aload_n hx hb dL_law_273 rfl (lv_at hl 1 rfl) ?_
  refine lv_aload_n hx hb dL_law_274 rfl (lv_at hl 0 rfl) ?_
  refine lv_iload_n hx hb dL_law_275 rfl (lv_at hl 3 rfl) ?_
  refine lv_iconst (v := 1) hx hb dL_law_276 (by decide) ?_
  refine lv_iadd hx hb dL_law_277 ?_
  refine va_sld hx hb hX hbl hbA hS (lw_in (k := 1) (by omega) hi hL) dL_law_278 ?_
  refine lv_aload_n hx hb dL_law_279 rfl (lv_at hl 0 rfl) ?_
  refine lv_iload_n hx hb dL_law_280 rfl (lv_at hl 3 rfl) ?_
  refine lv_iconst (v := 2) hx hb dL_law_281 (by decide) ?_
  refine lv_iadd hx hb dL_law_282 ?_
  refine va_sld hx hb hX hbl hbA hS (lw_in (k := 2) (by omega) hi hL) dL_law_283 ?_
  refine lw_xp (n := 2) (rest := []) (As := [.int (xs (nI i + 1).toNatClampNeg), .int (xs (nI i + 2).toNatClampNeg)]) (r := .int ans) CF hK hGl (lw_sub hmem) rfl (c_X7_of l E a v ea le _ _ _ e1) gL_law_X7_of rfl ⟨rfl, rfl⟩ (by decide +kernel) ⟨Nat.le_of_ble_eq_true rfl, Nat.le_of_ble_eq_true rfl⟩ hW hS rfl hl.1 rfl (Nat.le_of_ble_eq_true rfl) hro dL_law_284 ?_
  refine lv_aload_n hx hb dL_law_287 rfl (lv_at hl 2 rfl) ?_
  refine lv_aload_n hx hb dL_law_288 rfl (lv_at hl 0 rfl) ?_
  refine lv_iload_n hx hb dL_law_289 rfl (lv_at hl 3 rfl) ?_
  refine lv_iconst (v := 1) hx hb dL_law_290 (by decide) ?_
  refine lv_iadd hx hb dL_law_291 ?_
  refine va_sld hx hb hX hbl hbA hS (lw_in (k := 1) (by omega) hi hL) dL_law_292 ?_
  refine lv_aload_n hx hb dL_law_293 rfl (lv_at hl 0 rfl) ?_
  refine lv_iload_n hx hb dL_law_294 rfl (lv_at hl 3 rfl) ?_
  refine lv_iconst (v := 2) hx hb dL_law_295 (by decide) ?_
  refine lv_iadd hx hb dL_law_296 ?_
  refine va_sld hx hb hX hbl hbA hS (lw_in (k := 2) (by omega) hi hL) dL_law_297 ?_
  refine lw_mm (n := 2) (rest := [.int ans]) (As := [.int (xs (nI i + 1).toNatClampNeg), .int (xs (nI i + 2).toNatClampNeg)]) (m1 := m1) (r := .int ans) CF hK hGl hA (c_X8_of l E am m0 _ _ _ e2 H.size) gL_law_X8_of rfl ⟨rfl, rfl⟩ (by decide +kernel) ⟨Nat.le_of_ble_eq_true rfl, Nat.le_of_ble_eq_true rfl⟩ hW hS rfl hl.1 rfl (Nat.le_of_ble_eq_true rfl) hro dL_law_298 (fun H locs hW hS => ?_)
  refine lv_icmp_eq (tgt := 1145) hx hb dL_law_301 (by decide) (fun _ => ?_) (fun h => absurd rfl h)
  refine W.widen (k := 84 + 5 * (j + 1)) (n := 3200 + 132 * (j + 1)) (by omega) (by omega) ?_
  exact hN v m1 ps H locs ls hR1 hV hW hS hl
set_option maxRecDepth 100000 in
set_option maxHeartbeats 1000000 in
theorem lwc_row {E : mE} {p : Program} {l : Launch} {e : Env} {s : State} {m : MethodId} {below : List Frame} {meth : Method} {c : Code} {b L i j : Nat} {xs : Nat → Int32} {a : OneA} {am : ModelA} {v : OneV} {m0 : ModelV} {ps : lwPS} {H : Heap} {locs : List Loc} {ls : Array Slot} (C : lwG E p s m meth c b L xs) (hi : i + 5 ≤ L) (hj : j ≤ 511) (hQ : R (lwQ ps) v m0) (hV : lwL ps v) (hW : lwD E (fun q : Nat => s.heap.size ≤ q) a v am m0 ps H) (hS : va_S (fun q : Nat => s.heap.size ≤ q) s.heap H locs) (hl : lv_has ls 4 [(0, .ref b), (1, .ref (Onea_self a)), (2, .ref (Modela_self am)), (3, .int (nI i))]) (hN : lwN E p l e s m below meth c b a am i j) : W p l e room_1 s m #[Value.ref b] below meth c H locs (84 + 5 * j) (3200 + 132 * j) (lw_Z below #[Value.ref b] s) (F0 m 306 ls []) := by
  obtain ⟨⟨hx, hb, hr, hml, hown, hts, hX, hbl, hlocks, hgv⟩, hK, hGl, hL⟩ := C
  have hA : ∀ q : Nat, s.heap.size ≤ q → (fun q : Nat => s.heap.size ≤ q) q := fun _ h => h
  have hbA : ¬ (fun q : Nat => s.heap.size ≤ q) b := Nat.not_le.mpr hbl
  have CF : CallFix p m c cL_law 4 s #[Value.ref b] wsL_law RL := ⟨hx, hb, hml, hown, fun w h => hts w (wsL_law_in w h)⟩
  have hro : 84 + 5 * j ≤ room_1.cells ∧ 3200 + 132 * j ≤ room_1.slots := ⟨Nat.le_trans (show 84 + 5 * j ≤ 2639 by omega) (Nat.le_of_ble_eq_true rfl), Nat.le_trans (show 3200 + 132 * j ≤ 70652 by omega) (Nat.le_of_ble_eq_true rfl)⟩
  obtain ⟨ans, v1, m1, e1, e2, hR1⟩ := sim_row hQ (xs (nI i + 1).toNatClampNeg) (xs (nI i + 2).toNatClampNeg) (xs (nI i + 3).toNatClampNeg)
  refine lv_aload_n hx hb dL_law_306 rfl (lv_at hl 1 rfl) ?_
  refine lv_aload_n hx hb dL_law_307 rfl (lv_at hl 0 rfl) ?_
  refine lv_iload_n hx hb dL_law_308 rfl (lv_at hl 3 rfl) ?_
  refine lv_iconst (v := 1) hx hb dL_law_309 (by decide) ?_
  refine lv_iadd hx hb dL_law_310 ?_
  refine va_sld hx hb hX hbl hbA hS (lw_in (k := 1) (by omega) hi hL) dL_law_311 ?_
  refine lv_aload_n hx hb dL_law_312 rfl (lv_at hl 0 rfl) ?_
  refine lv_iload_n hx hb dL_law_313 rfl (lv_at hl 3 rfl) ?_
  refine lv_iconst (v := 2) hx hb dL_law_314 (by decide) ?_
  refine lv_iadd hx hb dL_law_315 ?_
  refine va_sld hx hb hX hbl hbA hS (lw_in (k := 2) (by omega) hi hL) dL_law_316 ?_
  refine lv_aload_n hx hb dL_law_317 rfl (lv_at hl 0 rfl) ?_
  refine lv_iload_n hx hb dL_law_318 rfl (lv_at hl 3 rfl) ?_
  refine lv_iconst (v := 3) hx hb dL_law_319 (by decide) ?_
  refine lv_iadd hx hb dL_law_320 ?_
  refine va_sld hx hb hX hbl hbA hS (lw_in (k := 3) (by omega) hi hL) dL_law_321 ?_
  refine lw_xm (n := 3) (rest := []) (As := [.int (xs (nI i + 1).toNatClampNeg), .int (xs (nI i + 2).toNatClampNeg), .int (xs (nI i + 3).toNatClampNeg)]) (v' := v1) (r := .int ans) CF hK hGl hA ⟨lwPc E ps, List.Perm.refl _⟩ (c_X7_row l E a v _ _ _ _ e1 H.size) gL_law_X7_row rfl ⟨rfl, rfl⟩ (by decide +kernel) ⟨Nat.le_of_ble_eq_true rfl, Nat.le_of_ble_eq_true rfl⟩ hW hS rfl hl.1 rfl (Nat.le_of_ble_eq_true rfl) hro dL_law_322 (fun H locs hW hS => ?_)
  refine lv_aload_n hx hb dL_law_325 rfl (lv_at hl 2 rfl) ?_
  refine lv_aload_n hx hb dL_law_326 rfl (lv_at hl 0 rfl) ?_
  refine lv_iload_n hx hb dL_law_327 rfl (lv_at hl 3 rfl) ?_
  refine lv_iconst (v := 1) hx hb dL_law_328 (by decide) ?_
  refine lv_iadd hx hb dL_law_329 ?_
  refine va_sld hx hb hX hbl hbA hS (lw_in (k := 1) (by omega) hi hL) dL_law_330 ?_
  refine lv_aload_n hx hb dL_law_331 rfl (lv_at hl 0 rfl) ?_
  refine lv_iload_n hx hb dL_law_332 rfl (lv_at hl 3 rfl) ?_
  refine lv_iconst (v := 2) hx hb dL_law_333 (by decide) ?_
  refine lv_iadd hx hb dL_law_334 ?_
  refine va_sld hx hb hX hbl hbA hS (lw_in (k := 2) (by omega) hi hL) dL_law_335 ?_
  refine lv_aload_n hx hb dL_law_336 rfl (lv_at hl 0 rfl) ?_
  refine lv_iload_n hx hb dL_law_337 rfl (lv_at hl 3 rfl) ?_
  refine lv_iconst (v := 3) hx hb dL_law_338 (by decide) ?_
  refine lv_iadd hx hb dL_law_339 ?_
  refine va_sld hx hb hX hbl hbA hS (lw_in (k := 3) (by omega) hi hL) dL_law_340 ?_
  refine lw_mm (n := 3) (rest := [.int ans]) (As := [.int (xs (nI i + 1).toNatClampNeg), .int (xs (nI i + 2).toNatClampNeg), .int (xs (nI i + 3).toNatClampNeg)]) (m1 := m1) (r := .int ans) CF hK hGl hA (c_X8_row l E am m0 _ _ _ _ e2 H.size) gL_law_X8_row rfl ⟨rfl, rfl⟩ (by decide +kernel) ⟨Nat.le_of_ble_eq_true rfl, Nat.le_of_ble_eq_true rfl⟩ hW hS rfl hl.1 rfl (Nat.le_of_ble_eq_true rfl) hro dL_law_341 (fun H locs hW hS => ?_)
  refine lv_icmp_eq (tgt := 1145) hx hb dL_law_344 (by decide) (fun _ => ?_) (fun h => absurd rfl h)
  refine W.widen (k := 84 + 5 * (j + 1)) (n := 3200 + 132 * (j + 1)) (by omega) (by omega) ?_
  exact hN v1 m1 ps H locs ls hR1 (li_row e1 hV) hW hS hl
set_option maxRecDepth 100000 in
set_option maxHeartbeats 1000000 in
theorem lwc_will {E : mE} {p : Program} {l : Launch} {e : Env} {s : State} {m : MethodId} {below : List Frame} {meth : Method} {c : Code} {b L i j : Nat} {xs : Nat → Int32} {a : OneA} {am : ModelA} {v : OneV} {m0 : ModelV} {ps : lwPS} {H : Heap} {locs : List Loc} {ls : Array Slot} (C : lwG E p s m meth c b L xs) (hi : i + 5 ≤ L) (hj : j ≤ 511) (hQ : R (lwQ ps) v m0) (hV : lwL ps v) (hW : lwD E (fun q : Nat => s.heap.size ≤ q) a v am m0 ps H) (hS : va_S (fun q : Nat => s.heap.size ≤ q) s.heap H locs) (hl : lv_has ls 4 [(0, .ref b), (1, .ref (Onea_self a)), (2, .ref (Modela_self am)), (3, .int (nI i))]) (hN : lwN E p l e s m below meth c b a am i j) : W p l e room_1 s m #[Value.ref b] below meth c H locs (84 + 5 * j) (3200 + 132 * j) (lw_Z below #[Value.ref b] s) (F0 m 349 ls []) := by
  obtain ⟨⟨hx, hb, hr, hml, hown, hts, hX, hbl, hlocks, hgv⟩, hK, hGl, hL⟩ := C
  have hA : ∀ q : Nat, s.heap.size ≤ q → (fun q : Nat => s.heap.size ≤ q) q := fun _ h => h
  have hbA : ¬ (fun q : Nat => s.heap.size ≤ q) b := Nat.not_le.mpr hbl
  have CF : CallFix p m c cL_law 4 s #[Value.ref b] wsL_law RL := ⟨hx, hb, hml, hown, fun w h => hts w (wsL_law_in w h)⟩
  have hro : 84 + 5 * j ≤ room_1.cells ∧ 3200 + 132 * j ≤ room_1.slots := ⟨Nat.le_trans (show 84 + 5 * j ≤ 2639 by omega) (Nat.le_of_ble_eq_true rfl), Nat.le_trans (show 3200 + 132 * j ≤ 70652 by omega) (Nat.le_of_ble_eq_true rfl)⟩
  obtain ⟨ans, v1, m1, e1, e2, hR1⟩ := sim_will hQ (xs (nI i + 1).toNatClampNeg) (xs (nI i + 2).toNatClampNeg)
  refine lv_aload_n hx hb dL_law_349 rfl (lv_at hl 1 rfl) ?_
  refine lv_aload_n hx hb dL_law_350 rfl (lv_at hl 0 rfl) ?_
  refine lv_iload_n hx hb dL_law_351 rfl (lv_at hl 3 rfl) ?_
  refine lv_iconst (v := 1) hx hb dL_law_352 (by decide) ?_
  refine lv_iadd hx hb dL_law_353 ?_
  refine va_sld hx hb hX hbl hbA hS (lw_in (k := 1) (by omega) hi hL) dL_law_354 ?_
  refine lv_aload_n hx hb dL_law_355 rfl (lv_at hl 0 rfl) ?_
  refine lv_iload_n hx hb dL_law_356 rfl (lv_at hl 3 rfl) ?_
  refine lv_iconst (v := 2) hx hb dL_law_357 (by decide) ?_
  refine lv_iadd hx hb dL_law_358 ?_
  refine va_sld hx hb hX hbl hbA hS (lw_in (k := 2) (by omega) hi hL) dL_law_359 ?_
  refine lw_xm (n := 2) (rest := []) (As := [.int (xs (nI i + 1).toNatClampNeg), .int (xs (nI i + 2).toNatClampNeg)]) (v' := v1) (r := .int ans) CF hK hGl hA ⟨lwPc E ps, List.Perm.refl _⟩ (c_X7_will l E a v _ _ _ e1 H.size) gL_law_X7_will rfl ⟨rfl, rfl⟩ (by decide +kernel) ⟨Nat.le_of_ble_eq_true rfl, Nat.le_of_ble_eq_true rfl⟩ hW hS rfl hl.1 rfl (Nat.le_of_ble_eq_true rfl) hro dL_law_360 (fun H locs hW hS => ?_)
  refine lv_aload_n hx hb dL_law_363 rfl (lv_at hl 2 rfl) ?_
  refine lv_aload_n hx hb dL_law_364 rfl (lv_at hl 0 rfl) ?_
  refine lv_iload_n hx hb dL_law_365 rfl (lv_at hl 3 rfl) ?_
  refine lv_iconst (v := 1) hx hb dL_law_366 (by decide) ?_
  refine lv_iadd hx hb dL_law_367 ?_
  refine va_sld hx hb hX hbl hbA hS (lw_in (k := 1) (by omega) hi hL) dL_law_368 ?_
  refine lv_aload_n hx hb dL_law_369 rfl (lv_at hl 0 rfl) ?_
  refine lv_iload_n hx hb dL_law_370 rfl (lv_at hl 3 rfl) ?_
  refine lv_iconst (v := 2) hx hb dL_law_371 (by decide) ?_
  refine lv_iadd hx hb dL_law_372 ?_
  refine va_sld hx hb hX hbl hbA hS (lw_in (k := 2) (by omega) hi hL) dL_law_373 ?_
  refine lw_mm (n := 2) (rest := [.int ans]) (As := [.int (xs (nI i + 1).toNatClampNeg), .int (xs (nI i + 2).toNatClampNeg)]) (m1 := m1) (r := .int ans) CF hK hGl hA (c_X8_will l E am m0 _ _ _ e2 H.size) gL_law_X8_will rfl ⟨rfl, rfl⟩ (by decide +kernel) ⟨Nat.le_of_ble_eq_true rfl, Nat.le_of_ble_eq_true rfl⟩ hW hS rfl hl.1 rfl (Nat.le_of_ble_eq_true rfl) hro dL_law_374 (fun H locs hW hS => ?_)
  refine lv_icmp_eq (tgt := 1145) hx hb dL_law_377 (by decide) (fun _ => ?_) (fun h => absurd rfl h)
  refine W.widen (k := 84 + 5 * (j + 1)) (n := 3200 + 132 * (j + 1)) (by omega) (by omega) ?_
  exact hN v1 m1 ps H locs ls hR1 (li_will e1 hV) hW hS hl
set_option maxRecDepth 100000 in
set_option maxHeartbeats 1000000 in
theorem lwc_out {E : mE} {p : Program} {l : Launch} {e : Env} {s : State} {m : MethodId} {below : List Frame} {meth : Method} {c : Code} {b L i j : Nat} {xs : Nat → Int32} {a : OneA} {am : ModelA} {v : OneV} {m0 : ModelV} {ps : lwPS} {H : Heap} {locs : List Loc} {ls : Array Slot} (C : lwG E p s m meth c b L xs) (hi : i + 5 ≤ L) (hj : j ≤ 511) (hQ : R (lwQ ps) v m0) (hV : lwL ps v) (hW : lwD E (fun q : Nat => s.heap.size ≤ q) a v am m0 ps H) (hS : va_S (fun q : Nat => s.heap.size ≤ q) s.heap H locs) (hl : lv_has ls 4 [(0, .ref b), (1, .ref (Onea_self a)), (2, .ref (Modela_self am)), (3, .int (nI i))]) (hN : lwN E p l e s m below meth c b a am i j) : W p l e room_1 s m #[Value.ref b] below meth c H locs (84 + 5 * j) (3200 + 132 * j) (lw_Z below #[Value.ref b] s) (F0 m 382 ls []) := by
  obtain ⟨⟨hx, hb, hr, hml, hown, hts, hX, hbl, hlocks, hgv⟩, hK, hGl, hL⟩ := C
  have hA : ∀ q : Nat, s.heap.size ≤ q → (fun q : Nat => s.heap.size ≤ q) q := fun _ h => h
  have hbA : ¬ (fun q : Nat => s.heap.size ≤ q) b := Nat.not_le.mpr hbl
  have CF : CallFix p m c cL_law 4 s #[Value.ref b] wsL_law RL := ⟨hx, hb, hml, hown, fun w h => hts w (wsL_law_in w h)⟩
  have hro : 84 + 5 * j ≤ room_1.cells ∧ 3200 + 132 * j ≤ room_1.slots := ⟨Nat.le_trans (show 84 + 5 * j ≤ 2639 by omega) (Nat.le_of_ble_eq_true rfl), Nat.le_trans (show 3200 + 132 * j ≤ 70652 by omega) (Nat.le_of_ble_eq_true rfl)⟩
  by_cases hz : xs (nI i + 2).toNatClampNeg = 0
  · obtain ⟨ans, v1, m1, e1, e2, hR1⟩ := sim_out hQ (xs (nI i + 1).toNatClampNeg) 0 (by decide)
    refine lv_aload_n hx hb dL_law_382 rfl (lv_at hl 1 rfl) ?_
    refine lv_aload_n hx hb dL_law_383 rfl (lv_at hl 0 rfl) ?_
    refine lv_iload_n hx hb dL_law_384 rfl (lv_at hl 3 rfl) ?_
    refine lv_iconst (v := 1) hx hb dL_law_385 (by decide) ?_
    refine lv_iadd hx hb dL_law_386 ?_
    refine va_sld hx hb hX hbl hbA hS (lw_in (k := 1) (by omega) hi hL) dL_law_387 ?_
    refine lv_aload_n hx hb dL_law_388 rfl (lv_at hl 0 rfl) ?_
    refine lv_iload_n hx hb dL_law_389 rfl (lv_at hl 3 rfl) ?_
    refine lv_iconst (v := 2) hx hb dL_law_390 (by decide) ?_
    refine lv_iadd hx hb dL_law_391 ?_
    refine va_sld hx hb hX hbl hbA hS (lw_in (k := 2) (by omega) hi hL) dL_law_392 ?_
    refine lv_if_eq (tgt := 400) hx hb dL_law_393 (by decide) (fun _ => ?_) (fun h => absurd hz h)
    refine lv_iconst (v := 0) hx hb dL_law_400 (by decide) ?_
    refine lw_xm (n := 2) (rest := []) (As := [.int (xs (nI i + 1).toNatClampNeg), .int 0]) (v' := v1) (r := .int ans) CF hK hGl hA ⟨lwPc E ps, List.Perm.refl _⟩ (c_X7_out l E a v _ _ _ e1 H.size) gL_law_X7_out rfl ⟨rfl, rfl⟩ (by decide +kernel) ⟨Nat.le_of_ble_eq_true rfl, Nat.le_of_ble_eq_true rfl⟩ hW hS rfl hl.1 rfl (Nat.le_of_ble_eq_true rfl) hro dL_law_401 (fun H locs hW hS => ?_)
    refine lv_aload_n hx hb dL_law_404 rfl (lv_at hl 2 rfl) ?_
    refine lv_aload_n hx hb dL_law_405 rfl (lv_at hl 0 rfl) ?_
    refine lv_iload_n hx hb dL_law_406 rfl (lv_at hl 3 rfl) ?_
    refine lv_iconst (v := 1) hx hb dL_law_407 (by decide) ?_
    refine lv_iadd hx hb dL_law_408 ?_
    refine va_sld hx hb hX hbl hbA hS (lw_in (k := 1) (by omega) hi hL) dL_law_409 ?_
    refine lv_aload_n hx hb dL_law_410 rfl (lv_at hl 0 rfl) ?_
    refine lv_iload_n hx hb dL_law_411 rfl (lv_at hl 3 rfl) ?_
    refine lv_iconst (v := 2) hx hb dL_law_412 (by decide) ?_
    refine lv_iadd hx hb dL_law_413 ?_
    refine va_sld hx hb hX hbl hbA hS (lw_in (k := 2) (by omega) hi hL) dL_law_414 ?_
    refine lv_if_eq (tgt := 422) hx hb dL_law_415 (by decide) (fun _ => ?_) (fun h => absurd hz h)
    refine lv_iconst (v := 0) hx hb dL_law_422 (by decide) ?_
    refine lw_mm (n := 2) (rest := [.int ans]) (As := [.int (xs (nI i + 1).toNatClampNeg), .int 0]) (m1 := m1) (r := .int ans) CF hK hGl hA (c_X8_out l E am m0 _ _ _ e2 H.size) gL_law_X8_out rfl ⟨rfl, rfl⟩ (by decide +kernel) ⟨Nat.le_of_ble_eq_true rfl, Nat.le_of_ble_eq_true rfl⟩ hW hS rfl hl.1 rfl (Nat.le_of_ble_eq_true rfl) hro dL_law_423 (fun H locs hW hS => ?_)
    refine lv_icmp_eq (tgt := 1145) hx hb dL_law_426 (by decide) (fun _ => ?_) (fun h => absurd rfl h)
    refine W.widen (k := 84 + 5 * (j + 1)) (n := 3200 + 132 * (j + 1)) (by omega) (by omega) ?_
    exact hN v1 m1 ps H locs ls hR1 (li_out e1 hV) hW hS hl
  · obtain ⟨ans, v1, m1, e1, e2, hR1⟩ := sim_out hQ (xs (nI i + 1).toNatClampNeg) 1 (by decide)
    refine lv_aload_n hx hb dL_law_382 rfl (lv_at hl 1 rfl) ?_
    refine lv_aload_n hx hb dL_law_383 rfl (lv_at hl 0 rfl) ?_
    refine lv_iload_n hx hb dL_law_384 rfl (lv_at hl 3 rfl) ?_
    refine lv_iconst (v := 1) hx hb dL_law_385 (by decide) ?_
    refine lv_iadd hx hb dL_law_386 ?_
    refine va_sld hx hb hX hbl hbA hS (lw_in (k := 1) (by omega) hi hL) dL_law_387 ?_
    refine lv_aload_n hx hb dL_law_388 rfl (lv_at hl 0 rfl) ?_
    refine lv_iload_n hx hb dL_law_389 rfl (lv_at hl 3 rfl) ?_
    refine lv_iconst (v := 2) hx hb dL_law_390 (by decide) ?_
    refine lv_iadd hx hb dL_law_391 ?_
    refine va_sld hx hb hX hbl hbA hS (lw_in (k := 2) (by omega) hi hL) dL_law_392 ?_
    refine lv_if_eq (tgt := 400) hx hb dL_law_393 (by decide) (fun h => absurd h hz) (fun _ => ?_)
    refine lv_iconst (v := 1) hx hb dL_law_396 (by decide) ?_
    refine lv_goto (tgt := 401) hx hb dL_law_397 (by decide) ?_
    refine lw_xm (n := 2) (rest := []) (As := [.int (xs (nI i + 1).toNatClampNeg), .int 1]) (v' := v1) (r := .int ans) CF hK hGl hA ⟨lwPc E ps, List.Perm.refl _⟩ (c_X7_out l E a v _ _ _ e1 H.size) gL_law_X7_out rfl ⟨rfl, rfl⟩ (by decide +kernel) ⟨Nat.le_of_ble_eq_true rfl, Nat.le_of_ble_eq_true rfl⟩ hW hS rfl hl.1 rfl (Nat.le_of_ble_eq_true rfl) hro dL_law_401 (fun H locs hW hS => ?_)
    refine lv_aload_n hx hb dL_law_404 rfl (lv_at hl 2 rfl) ?_
    refine lv_aload_n hx hb dL_law_405 rfl (lv_at hl 0 rfl) ?_
    refine lv_iload_n hx hb dL_law_406 rfl (lv_at hl 3 rfl) ?_
    refine lv_iconst (v := 1) hx hb dL_law_407 (by decide) ?_
    refine lv_iadd hx hb dL_law_408 ?_
    refine va_sld hx hb hX hbl hbA hS (lw_in (k := 1) (by omega) hi hL) dL_law_409 ?_
    refine lv_aload_n hx hb dL_law_410 rfl (lv_at hl 0 rfl) ?_
    refine lv_iload_n hx hb dL_law_411 rfl (lv_at hl 3 rfl) ?_
    refine lv_iconst (v := 2) hx hb dL_law_412 (by decide) ?_
    refine lv_iadd hx hb dL_law_413 ?_
    refine va_sld hx hb hX hbl hbA hS (lw_in (k := 2) (by omega) hi hL) dL_law_414 ?_
    refine lv_if_eq (tgt := 422) hx hb dL_law_415 (by decide) (fun h => absurd h hz) (fun _ => ?_)
    refine lv_iconst (v := 1) hx hb dL_law_418 (by decide) ?_
    refine lv_goto (tgt := 423) hx hb dL_law_419 (by decide) ?_
    refine lw_mm (n := 2) (rest := [.int ans]) (As := [.int (xs (nI i + 1).toNatClampNeg), .int 1]) (m1 := m1) (r := .int ans) CF hK hGl hA (c_X8_out l E am m0 _ _ _ e2 H.size) gL_law_X8_out rfl ⟨rfl, rfl⟩ (by decide +kernel) ⟨Nat.le_of_ble_eq_true rfl, Nat.le_of_ble_eq_true rfl⟩ hW hS rfl hl.1 rfl (Nat.le_of_ble_eq_true rfl) hro dL_law_423 (fun H locs hW hS => ?_)
    refine lv_icmp_eq (tgt := 1145) hx hb dL_law_426 (by decide) (fun _ => ?_) (fun h => absurd rfl h)
    refine W.widen (k := 84 + 5 * (j + 1)) (n := 3200 + 132 * (j + 1)) (by omega) (by omega) ?_
    exact hN v1 m1 ps H locs ls hR1 (li_out e1 hV) hW hS hl
set_option maxRecDepth 100000 in
set_option maxHeartbeats 1000000 in
theorem lwc_told {E : mE} {p : Program} {l : Launch} {e : Env} {s : State} {m : MethodId} {below : List Frame} {meth : Method} {c : Code} {b L i j : Nat} {xs : Nat → Int32} {a : OneA} {am : ModelA} {v : OneV} {m0 : ModelV} {ps : lwPS} {H : Heap} {locs : List Loc} {ls : Array Slot} (C : lwG E p s m meth c b L xs) (hi : i + 5 ≤ L) (hj : j ≤ 511) (hQ : R (lwQ ps) v m0) (hV : lwL ps v) (hW : lwD E (fun q : Nat => s.heap.size ≤ q) a v am m0 ps H) (hS : va_S (fun q : Nat => s.heap.size ≤ q) s.heap H locs) (hl : lv_has ls 4 [(0, .ref b), (1, .ref (Onea_self a)), (2, .ref (Modela_self am)), (3, .int (nI i))]) (hN : lwN E p l e s m below meth c b a am i j) : W p l e room_1 s m #[Value.ref b] below meth c H locs (84 + 5 * j) (3200 + 132 * j) (lw_Z below #[Value.ref b] s) (F0 m 431 ls []) := by
  obtain ⟨⟨hx, hb, hr, hml, hown, hts, hX, hbl, hlocks, hgv⟩, hK, hGl, hL⟩ := C
  have hA : ∀ q : Nat, s.heap.size ≤ q → (fun q : Nat => s.heap.size ≤ q) q := fun _ h => h
  have hbA : ¬ (fun q : Nat => s.heap.size ≤ q) b := Nat.not_le.mpr hbl
  have CF : CallFix p m c cL_law 4 s #[Value.ref b] wsL_law RL := ⟨hx, hb, hml, hown, fun w h => hts w (wsL_law_in w h)⟩
  have hro : 84 + 5 * j ≤ room_1.cells ∧ 3200 + 132 * j ≤ room_1.slots := ⟨Nat.le_trans (show 84 + 5 * j ≤ 2639 by omega) (Nat.le_of_ble_eq_true rfl), Nat.le_trans (show 3200 + 132 * j ≤ 70652 by omega) (Nat.le_of_ble_eq_true rfl)⟩
  obtain ⟨ea, le, hmem, hH⟩ := lw_hl hQ
  obtain ⟨ans, e1, e2⟩ := sim_told hQ hH (xs (nI i + 1).toNatClampNeg)
  refine lv_aload_n hx hb dL_law_431 rfl (lv_at hl 1 rfl) ?_
  refine lv_aload_n hx hb dL_law_432 rfl (lv_at hl 0 rfl) ?_
  refine lv_iload_n hx hb dL_law_433 rfl (lv_at hl 3 rfl) ?_
  refine lv_iconst (v := 1) hx hb dL_law_434 (by decide) ?_
  refine lv_iadd hx hb dL_law_435 ?_
  refine va_sld hx hb hX hbl hbA hS (lw_in (k := 1) (by omega) hi hL) dL_law_436 ?_
  refine lw_xp (n := 1) (rest := []) (As := [.int (xs (nI i + 1).toNatClampNeg)]) (r := .int ans) CF hK hGl (lw_sub hmem) rfl (c_X7_told l E a v ea le _ _ e1) gL_law_X7_told rfl ⟨rfl, rfl⟩ (by decide +kernel) ⟨Nat.le_of_ble_eq_true rfl, Nat.le_of_ble_eq_true rfl⟩ hW hS rfl hl.1 rfl (Nat.le_of_ble_eq_true rfl) hro dL_law_437 ?_
  refine lv_aload_n hx hb dL_law_440 rfl (lv_at hl 2 rfl) ?_
  refine lv_aload_n hx hb dL_law_441 rfl (lv_at hl 0 rfl) ?_
  refine lv_iload_n hx hb dL_law_442 rfl (lv_at hl 3 rfl) ?_
  refine lv_iconst (v := 1) hx hb dL_law_443 (by decide) ?_
  refine lv_iadd hx hb dL_law_444 ?_
  refine va_sld hx hb hX hbl hbA hS (lw_in (k := 1) (by omega) hi hL) dL_law_445 ?_
  refine lw_mp (n := 1) (rest := [.int ans]) (As := [.int (xs (nI i + 1).toNatClampNeg)]) (r := .int ans) CF hK hGl (c_X8_told l E am m0 _ _ e2) gL_law_X8_told rfl ⟨rfl, rfl⟩ (by decide +kernel) ⟨Nat.le_of_ble_eq_true rfl, Nat.le_of_ble_eq_true rfl⟩ hW hS rfl hl.1 rfl (Nat.le_of_ble_eq_true rfl) hro dL_law_446 ?_
  refine lv_icmp_eq (tgt := 1145) hx hb dL_law_449 (by decide) (fun _ => ?_) (fun h => absurd rfl h)
  refine W.widen (k := 84 + 5 * (j + 1)) (n := 3200 + 132 * (j + 1)) (by omega) (by omega) ?_
  exact hN v m0 ps H locs ls hQ hV hW hS hl
set_option maxRecDepth 100000 in
set_option maxHeartbeats 1000000 in
theorem lwc_mark {E : mE} {p : Program} {l : Launch} {e : Env} {s : State} {m : MethodId} {below : List Frame} {meth : Method} {c : Code} {b L i j : Nat} {xs : Nat → Int32} {a : OneA} {am : ModelA} {v : OneV} {m0 : ModelV} {ps : lwPS} {H : Heap} {locs : List Loc} {ls : Array Slot} (C : lwG E p s m meth c b L xs) (hi : i + 5 ≤ L) (hj : j ≤ 511) (hQ : R (lwQ ps) v m0) (hV : lwL ps v) (hW : lwD E (fun q : Nat => s.heap.size ≤ q) a v am m0 ps H) (hS : va_S (fun q : Nat => s.heap.size ≤ q) s.heap H locs) (hl : lv_has ls 4 [(0, .ref b), (1, .ref (Onea_self a)), (2, .ref (Modela_self am)), (3, .int (nI i))]) (hN : lwN E p l e s m below meth c b a am i j) : W p l e room_1 s m #[Value.ref b] below meth c H locs (84 + 5 * j) (3200 + 132 * j) (lw_Z below #[Value.ref b] s) (F0 m 454 ls []) := by
  obtain ⟨⟨hx, hb, hr, hml, hown, hts, hX, hbl, hlocks, hgv⟩, hK, hGl, hL⟩ := C
  have hA : ∀ q : Nat, s.heap.size ≤ q → (fun q : Nat => s.heap.size ≤ q) q := fun _ h => h
  have hbA : ¬ (fun q : Nat => s.heap.size ≤ q) b := Nat.not_le.mpr hbl
  have CF : CallFix p m c cL_law 4 s #[Value.ref b] wsL_law RL := ⟨hx, hb, hml, hown, fun w h => hts w (wsL_law_in w h)⟩
  have hro : 84 + 5 * j ≤ room_1.cells ∧ 3200 + 132 * j ≤ room_1.slots := ⟨Nat.le_trans (show 84 + 5 * j ≤ 2639 by omega) (Nat.le_of_ble_eq_true rfl), Nat.le_trans (show 3200 + 132 * j ≤ 70652 by omega) (Nat.le_of_ble_eq_true rfl)⟩
  obtain ⟨ea, le, hmem, hH⟩ := lw_hl hQ
  obtain ⟨ans, e1, e2⟩ := sim_mark hQ hH (xs (nI i + 1).toNatClampNeg) (xs (nI i + 2).toNatClampNeg)
  refine lv_aload_n hx hb dL_law_454 rfl (lv_at hl 1 rfl) ?_
  refine lv_aload_n hx hb dL_law_455 rfl (lv_at hl 0 rfl) ?_
  refine lv_iload_n hx hb dL_law_456 rfl (lv_at hl 3 rfl) ?_
  refine lv_iconst (v := 1) hx hb dL_law_457 (by decide) ?_
  refine lv_iadd hx hb dL_law_458 ?_
  refine va_sld hx hb hX hbl hbA hS (lw_in (k := 1) (by omega) hi hL) dL_law_459 ?_
  refine lv_aload_n hx hb dL_law_460 rfl (lv_at hl 0 rfl) ?_
  refine lv_iload_n hx hb dL_law_461 rfl (lv_at hl 3 rfl) ?_
  refine lv_iconst (v := 2) hx hb dL_law_462 (by decide) ?_
  refine lv_iadd hx hb dL_law_463 ?_
  refine va_sld hx hb hX hbl hbA hS (lw_in (k := 2) (by omega) hi hL) dL_law_464 ?_
  refine lw_xp (n := 2) (rest := []) (As := [.int (xs (nI i + 1).toNatClampNeg), .int (xs (nI i + 2).toNatClampNeg)]) (r := .int ans) CF hK hGl (lw_sub hmem) rfl (c_X7_mark l E a v ea le _ _ _ e1) gL_law_X7_mark rfl ⟨rfl, rfl⟩ (by decide +kernel) ⟨Nat.le_of_ble_eq_true rfl, Nat.le_of_ble_eq_true rfl⟩ hW hS rfl hl.1 rfl (Nat.le_of_ble_eq_true rfl) hro dL_law_465 ?_
  refine lv_aload_n hx hb dL_law_468 rfl (lv_at hl 2 rfl) ?_
  refine lv_aload_n hx hb dL_law_469 rfl (lv_at hl 0 rfl) ?_
  refine lv_iload_n hx hb dL_law_470 rfl (lv_at hl 3 rfl) ?_
  refine lv_iconst (v := 1) hx hb dL_law_471 (by decide) ?_
  refine lv_iadd hx hb dL_law_472 ?_
  refine va_sld hx hb hX hbl hbA hS (lw_in (k := 1) (by omega) hi hL) dL_law_473 ?_
  refine lv_aload_n hx hb dL_law_474 rfl (lv_at hl 0 rfl) ?_
  refine lv_iload_n hx hb dL_law_475 rfl (lv_at hl 3 rfl) ?_
  refine lv_iconst (v := 2) hx hb dL_law_476 (by decide) ?_
  refine lv_iadd hx hb dL_law_477 ?_
  refine va_sld hx hb hX hbl hbA hS (lw_in (k := 2) (by omega) hi hL) dL_law_478 ?_
  refine lw_mp (n := 2) (rest := [.int ans]) (As := [.int (xs (nI i + 1).toNatClampNeg), .int (xs (nI i + 2).toNatClampNeg)]) (r := .int ans) CF hK hGl (c_X8_mark l E am m0 _ _ _ e2) gL_law_X8_mark rfl ⟨rfl, rfl⟩ (by decide +kernel) ⟨Nat.le_of_ble_eq_true rfl, Nat.le_of_ble_eq_true rfl⟩ hW hS rfl hl.1 rfl (Nat.le_of_ble_eq_true rfl) hro dL_law_479 ?_
  refine lv_icmp_eq (tgt := 1145) hx hb dL_law_482 (by decide) (fun _ => ?_) (fun h => absurd rfl h)
  refine W.widen (k := 84 + 5 * (j + 1)) (n := 3200 + 132 * (j + 1)) (by omega) (by omega) ?_
  exact hN v m0 ps H locs ls hQ hV hW hS hl
set_option maxRecDepth 100000 in
set_option maxHeartbeats 1000000 in
theorem lwc_pass {E : mE} {p : Program} {l : Launch} {e : Env} {s : State} {m : MethodId} {below : List Frame} {meth : Method} {c : Code} {b L i j : Nat} {xs : Nat → Int32} {a : OneA} {am : ModelA} {v : OneV} {m0 : ModelV} {ps : lwPS} {H : Heap} {locs : List Loc} {ls : Array Slot} (C : lwG E p s m meth c b L xs) (hi : i + 5 ≤ L) (hj : j ≤ 511) (hQ : R (lwQ ps) v m0) (hV : lwL ps v) (hW : lwD E (fun q : Nat => s.heap.size ≤ q) a v am m0 ps H) (hS : va_S (fun q : Nat => s.heap.size ≤ q) s.heap H locs) (hl : lv_has ls 4 [(0, .ref b), (1, .ref (Onea_self a)), (2, .ref (Modela_self am)), (3, .int (nI i))]) (hN : lwN E p l e s m below meth c b a am i j) : W p l e room_1 s m #[Value.ref b] below meth c H locs (84 + 5 * j) (3200 + 132 * j) (lw_Z below #[Value.ref b] s) (F0 m 487 ls []) := by
  obtain ⟨⟨hx, hb, hr, hml, hown, hts, hX, hbl, hlocks, hgv⟩, hK, hGl, hL⟩ := C
  have hA : ∀ q : Nat, s.heap.size ≤ q → (fun q : Nat => s.heap.size ≤ q) q := fun _ h => h
  have hbA : ¬ (fun q : Nat => s.heap.size ≤ q) b := Nat.not_le.mpr hbl
  have CF : CallFix p m c cL_law 4 s #[Value.ref b] wsL_law RL := ⟨hx, hb, hml, hown, fun w h => hts w (wsL_law_in w h)⟩
  have hro : 84 + 5 * j ≤ room_1.cells ∧ 3200 + 132 * j ≤ room_1.slots := ⟨Nat.le_trans (show 84 + 5 * j ≤ 2639 by omega) (Nat.le_of_ble_eq_true rfl), Nat.le_trans (show 3200 + 132 * j ≤ 70652 by omega) (Nat.le_of_ble_eq_true rfl)⟩
  obtain ⟨ea, le, hmem, hH⟩ := lw_hl hQ
  obtain ⟨ans, v1, m1, e1, e2, hR1⟩ := sim_pass hQ hH (xs (nI i + 1).toNatClampNeg)
  refine lv_aload_n hx hb dL_law_487 rfl (lv_at hl 1 rfl) ?_
  refine lv_aload_n hx hb dL_law_488 rfl (lv_at hl 0 rfl) ?_
  refine lv_iload_n hx hb dL_law_489 rfl (lv_at hl 3 rfl) ?_
  refine lv_iconst (v := 1) hx hb dL_law_490 (by decide) ?_
  refine lv_iadd hx hb dL_law_491 ?_
  refine va_sld hx hb hX hbl hbA hS (lw_in (k := 1) (by omega) hi hL) dL_law_492 ?_
  refine lw_xm (n := 1) (rest := []) (As := [.int (xs (nI i + 1).toNatClampNeg)]) (v' := v1) (r := .int ans) CF hK hGl hA (lwPc_in hmem) (c_X7_pass l E a v ea le _ _ e1 H.size) gL_law_X7_pass rfl ⟨rfl, rfl⟩ (by decide +kernel) ⟨Nat.le_of_ble_eq_true rfl, Nat.le_of_ble_eq_true rfl⟩ hW hS rfl hl.1 rfl (Nat.le_of_ble_eq_true rfl) hro dL_law_493 (fun H locs hW hS => ?_)
  refine lv_aload_n hx hb dL_law_496 rfl (lv_at hl 2 rfl) ?_
  refine lv_aload_n hx hb dL_law_497 rfl (lv_at hl 0 rfl) ?_
  refine lv_iload_n hx hb dL_law_498 rfl (lv_at hl 3 rfl) ?_
  refine lv_iconst (v := 1) hx hb dL_law_499 (by decide) ?_
  refine lv_iadd hx hb dL_law_500 ?_
  refine va_sld hx hb hX hbl hbA hS (lw_in (k := 1) (by omega) hi hL) dL_law_501 ?_
  refine lw_mm (n := 1) (rest := [.int ans]) (As := [.int (xs (nI i + 1).toNatClampNeg)]) (m1 := m1) (r := .int ans) CF hK hGl hA (c_X8_pass l E am m0 _ _ e2 H.size) gL_law_X8_pass rfl ⟨rfl, rfl⟩ (by decide +kernel) ⟨Nat.le_of_ble_eq_true rfl, Nat.le_of_ble_eq_true rfl⟩ hW hS rfl hl.1 rfl (Nat.le_of_ble_eq_true rfl) hro dL_law_502 (fun H locs hW hS => ?_)
  refine lv_icmp_eq (tgt := 1145) hx hb dL_law_505 (by decide) (fun _ => ?_) (fun h => absurd rfl h)
  refine W.widen (k := 84 + 5 * (j + 1)) (n := 3200 + 132 * (j + 1)) (by omega) (by omega) ?_
  exact hN v1 m1 ps H locs ls hR1 (li_pass e1 hV) hW hS hl
set_option maxRecDepth 100000 in
set_option maxHeartbeats 1000000 in
theorem lwc_on {E : mE} {p : Program} {l : Launch} {e : Env} {s : State} {m : MethodId} {below : List Frame} {meth : Method} {c : Code} {b L i j : Nat} {xs : Nat → Int32} {a : OneA} {am : ModelA} {v : OneV} {m0 : ModelV} {ps : lwPS} {H : Heap} {locs : List Loc} {ls : Array Slot} (C : lwG E p s m meth c b L xs) (hi : i + 5 ≤ L) (hj : j ≤ 511) (hQ : R (lwQ ps) v m0) (hV : lwL ps v) (hW : lwD E (fun q : Nat => s.heap.size ≤ q) a v am m0 ps H) (hS : va_S (fun q : Nat => s.heap.size ≤ q) s.heap H locs) (hl : lv_has ls 4 [(0, .ref b), (1, .ref (Onea_self a)), (2, .ref (Modela_self am)), (3, .int (nI i))]) (hN : lwN E p l e s m below meth c b a am i j) : W p l e room_1 s m #[Value.ref b] below meth c H locs (84 + 5 * j) (3200 + 132 * j) (lw_Z below #[Value.ref b] s) (F0 m 510 ls []) := by
  obtain ⟨⟨hx, hb, hr, hml, hown, hts, hX, hbl, hlocks, hgv⟩, hK, hGl, hL⟩ := C
  have hA : ∀ q : Nat, s.heap.size ≤ q → (fun q : Nat => s.heap.size ≤ q) q := fun _ h => h
  have hbA : ¬ (fun q : Nat => s.heap.size ≤ q) b := Nat.not_le.mpr hbl
  have CF : CallFix p m c cL_law 4 s #[Value.ref b] wsL_law RL := ⟨hx, hb, hml, hown, fun w h => hts w (wsL_law_in w h)⟩
  have hro : 84 + 5 * j ≤ room_1.cells ∧ 3200 + 132 * j ≤ room_1.slots := ⟨Nat.le_trans (show 84 + 5 * j ≤ 2639 by omega) (Nat.le_of_ble_eq_true rfl), Nat.le_trans (show 3200 + 132 * j ≤ 70652 by omega) (Nat.le_of_ble_eq_true rfl)⟩
  obtain ⟨ea, le, hmem, hH⟩ := lw_hl hQ
  obtain ⟨ans, v1, m1, e1, e2, hR1⟩ := sim_on hQ hH (xs (nI i + 1).toNatClampNeg) (xs (nI i + 2).toNatClampNeg)
  refine lv_aload_n hx hb dL_law_510 rfl (lv_at hl 1 rfl) ?_
  refine lv_aload_n hx hb dL_law_511 rfl (lv_at hl 0 rfl) ?_
  refine lv_iload_n hx hb dL_law_512 rfl (lv_at hl 3 rfl) ?_
  refine lv_iconst (v := 1) hx hb dL_law_513 (by decide) ?_
  refine lv_iadd hx hb dL_law_514 ?_
  refine va_sld hx hb hX hbl hbA hS (lw_in (k := 1) (by omega) hi hL) dL_law_515 ?_
  refine lv_aload_n hx hb dL_law_516 rfl (lv_at hl 0 rfl) ?_
  refine lv_iload_n hx hb dL_law_517 rfl (lv_at hl 3 rfl) ?_
  refine lv_iconst (v := 2) hx hb dL_law_518 (by decide) ?_
  refine lv_iadd hx hb dL_law_519 ?_
  refine va_sld hx hb hX hbl hbA hS (lw_in (k := 2) (by omega) hi hL) dL_law_520 ?_
  refine lw_xm (n := 2) (rest := []) (As := [.int (xs (nI i + 1).toNatClampNeg), .int (xs (nI i + 2).toNatClampNeg)]) (v' := v1) (r := .int ans) CF hK hGl hA (lwPc_in hmem) (c_X7_on l E a v ea le _ _ _ e1 H.size) gL_law_X7_on rfl ⟨rfl, rfl⟩ (by decide +kernel) ⟨Nat.le_of_ble_eq_true rfl, Nat.le_of_ble_eq_true rfl⟩ hW hS rfl hl.1 rfl (Nat.le_of_ble_eq_true rfl) hro dL_law_521 (fun H locs hW hS => ?_)
  refine lv_aload_n hx hb dL_law_524 rfl (lv_at hl 2 rfl) ?_
  refine lv_aload_n hx hb dL_law_525 rfl (lv_at hl 0 rfl) ?_
  refine lv_iload_n hx hb dL_law_526 rfl (lv_at hl 3 rfl) ?_
  refine lv_iconst (v := 1) hx hb dL_law_527 (by decide) ?_
  refine lv_iadd hx hb dL_law_528 ?_
  refine va_sld hx hb hX hbl hbA hS (lw_in (k := 1) (by omega) hi hL) dL_law_529 ?_
  refine lv_aload_n hx hb dL_law_530 rfl (lv_at hl 0 rfl) ?_
  refine lv_iload_n hx hb dL_law_531 rfl (lv_at hl 3 rfl) ?_
  refine lv_iconst (v := 2) hx hb dL_law_532 (by decide) ?_
  refine lv_iadd hx hb dL_law_533 ?_
  refine va_sld hx hb hX hbl hbA hS (lw_in (k := 2) (by omega) hi hL) dL_law_534 ?_
  refine lw_mm (n := 2) (rest := [.int ans]) (As := [.int (xs (nI i + 1).toNatClampNeg), .int (xs (nI i + 2).toNatClampNeg)]) (m1 := m1) (r := .int ans) CF hK hGl hA (c_X8_on l E am m0 _ _ _ e2 H.size) gL_law_X8_on rfl ⟨rfl, rfl⟩ (by decide +kernel) ⟨Nat.le_of_ble_eq_true rfl, Nat.le_of_ble_eq_true rfl⟩ hW hS rfl hl.1 rfl (Nat.le_of_ble_eq_true rfl) hro dL_law_535 (fun H locs hW hS => ?_)
  refine lv_icmp_eq (tgt := 1145) hx hb dL_law_538 (by decide) (fun _ => ?_) (fun h => absurd rfl h)
  refine W.widen (k := 84 + 5 * (j + 1)) (n := 3200 + 132 * (j + 1)) (by omega) (by omega) ?_
  exact hN v1 m1 ps H locs ls hR1 (li_on e1 hV) hW hS hl
set_option maxRecDepth 100000 in
set_option maxHeartbeats 1000000 in
theorem lwc_ready {E : mE} {p : Program} {l : Launch} {e : Env} {s : State} {m : MethodId} {below : List Frame} {meth : Method} {c : Code} {b L i j : Nat} {xs : Nat → Int32} {a : OneA} {am : ModelA} {v : OneV} {m0 : ModelV} {ps : lwPS} {H : Heap} {locs : List Loc} {ls : Array Slot} (C : lwG E p s m meth c b L xs) (hi : i + 5 ≤ L) (hj : j ≤ 511) (hQ : R (lwQ ps) v m0) (hV : lwL ps v) (hW : lwD E (fun q : Nat => s.heap.size ≤ q) a v am m0 ps H) (hS : va_S (fun q : Nat => s.heap.size ≤ q) s.heap H locs) (hl : lv_has ls 4 [(0, .ref b), (1, .ref (Onea_self a)), (2, .ref (Modela_self am)), (3, .int (nI i))]) (hN : lwN E p l e s m below meth c b a am i j) : W p l e room_1 s m #[Value.ref b] below meth c H locs (84 + 5 * j) (3200 + 132 * j) (lw_Z below #[Value.ref b] s) (F0 m 543 ls []) := by
  obtain ⟨⟨hx, hb, hr, hml, hown, hts, hX, hbl, hlocks, hgv⟩, hK, hGl, hL⟩ := C
  have hA : ∀ q : Nat, s.heap.size ≤ q → (fun q : Nat => s.heap.size ≤ q) q := fun _ h => h
  have hbA : ¬ (fun q : Nat => s.heap.size ≤ q) b := Nat.not_le.mpr hbl
  have CF : CallFix p m c cL_law 4 s #[Value.ref b] wsL_law RL := ⟨hx, hb, hml, hown, fun w h => hts w (wsL_law_in w h)⟩
  have hro : 84 + 5 * j ≤ room_1.cells ∧ 3200 + 132 * j ≤ room_1.slots := ⟨Nat.le_trans (show 84 + 5 * j ≤ 2639 by omega) (Nat.le_of_ble_eq_true rfl), Nat.le_trans (show 3200 + 132 * j ≤ 70652 by omega) (Nat.le_of_ble_eq_true rfl)⟩
  obtain ⟨ea, le, hmem, hH⟩ := lw_hl hQ
  obtain ⟨ans, v1, m1, e1, e2, hR1⟩ := sim_ready hQ hH 
  refine lv_aload_n hx hb dL_law_543 rfl (lv_at hl 1 rfl) ?_
  refine lw_xm (n := 0) (rest := []) (As := []) (v' := v1) (r := .int ans) CF hK hGl hA (lwPc_in hmem) (c_X7_ready l E a v ea le  _ e1 H.size) gL_law_X7_ready rfl ⟨rfl, rfl⟩ (by decide +kernel) ⟨Nat.le_of_ble_eq_true rfl, Nat.le_of_ble_eq_true rfl⟩ hW hS rfl hl.1 rfl (Nat.le_of_ble_eq_true rfl) hro dL_law_544 (fun H locs hW hS => ?_)
  refine lv_aload_n hx hb dL_law_547 rfl (lv_at hl 2 rfl) ?_
  refine lw_mm (n := 0) (rest := [.int ans]) (As := []) (m1 := m1) (r := .int ans) CF hK hGl hA (c_X8_ready l E am m0  _ e2 H.size) gL_law_X8_ready rfl ⟨rfl, rfl⟩ (by decide +kernel) ⟨Nat.le_of_ble_eq_true rfl, Nat.le_of_ble_eq_true rfl⟩ hW hS rfl hl.1 rfl (Nat.le_of_ble_eq_true rfl) hro dL_law_548 (fun H locs hW hS => ?_)
  refine lv_icmp_eq (tgt := 1145) hx hb dL_law_551 (by decide) (fun _ => ?_) (fun h => absurd rfl h)
  refine W.widen (k := 84 + 5 * (j + 1)) (n := 3200 + 132 * (j + 1)) (by omega) (by omega) ?_
  exact hN v1 m1 ps H locs ls hR1 (li_ready e1 hV) hW hS hl
