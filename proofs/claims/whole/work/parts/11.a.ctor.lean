theorem m_perm {D : va_G} {cl : List vw_C} {ws ws' : va_W} {H : Heap} (h : va_P D cl ws H) (is : List Nat) (hs : is.filterMap (fun i => ws[i]?) = ws') : va_P D cl ws' H := h.sub is hs
abbrev rmX0_init : Room := { frames := 1, cells := 1, slots := 20, locals := 12 }
set_option maxRecDepth 100000 in
set_option maxHeartbeats 400000 in
theorem c_X0_init (l : Launch) (E : mE) (h0 sz : Nat) : Met l yX0_init wsX0_init rmX0_init (mPm E [.ref h0] sz (([(h0, .inr (0, [.null, .int 0, .int 0, .int 0, .int 0]))] : va_W)) []) (mSx E (fun _ => none) (fun u : ActsA => (Acts_c E u Acts_0)) (fun u : ActsA => Actsa_self u = h0) (va_A (([(h0, .inr (0, [.null, .int 0, .int 0, .int 0, .int 0]))] : va_W)) sz)) 1 20 (va_A (([(h0, .inr (0, [.null, .int 0, .int 0, .int 0, .int 0]))] : va_W)) sz) := by
  refine mOfX (QA := fun A => mSx E (fun _ => none) (fun u : ActsA => (Acts_c E u Acts_0)) (fun u : ActsA => Actsa_self u = h0) A) (cc := cX0_init) (maxL := 1) (ret := none) (by decide) rfl (Nat.le_of_ble_eq_true rfl) ?_
  intro p e_ s m args below meth c Q A hQ CC hr hlocks hin hA hP hD hKN hGl hR0 hRA ls hl
  have hS : va_S A s.heap s.heap [] := va_S.rf
  have hin : meth.name = "<init>" := hin
  have hK := hKN.1
  have hx := CC.1
  have hb := CC.2.1
  have hml := CC.2.2.1
  have hown : s.vm.findClass RX0 = some m.cls := CC.2.2.2.1
  have hts := CC.2.2.2.2
  have hl : lv_has ls 1 [(0, .ref h0)] := hl
  have k0 := hts (.arrayClass .int) (by decide +kernel)
  have k1 := hts (.fieldLink RX0 9 "OneDidAll$Acts" "kept" "[I") (by decide +kernel)
  have k2 := (show ∀ w ∈ u_ws RX0 TX0 5, w ∈ wsX0_init by decide +kernel)
  have k3 := hts (.fieldLink RX0 15 "OneDidAll$Acts" "ran" "I") (by decide +kernel)
  have k4 := hts (.fieldLink RX0 19 "OneDidAll$Acts" "kind" "I") (by decide +kernel)
  have k5 := hts (.fieldLink RX0 22 "OneDidAll$Acts" "v" "I") (by decide +kernel)
  have k6 := hts (.fieldLink RX0 25 "OneDidAll$Acts" "i" "I") (by decide +kernel)
  have hP : va_P E.1 vwCl (([(h0, .inr (0, [.null, .int 0, .int 0, .int 0, .int 0]))] : va_W)) s.heap := hP
  obtain ⟨H, hH⟩ : ∃ H, H = s.heap := ⟨_, rfl⟩
  obtain ⟨locs, hlc⟩ : ∃ z : List Loc, z = [] := ⟨_, rfl⟩
  rw [← hH] at hP
  rw [← hlc] at hS
  have hS : va_S A s.heap H locs := by rw [hH]; exact hS
  rw [← hH, ← hlc]
  refine lv_aload_n hx hb dX0_init_0 rfl (lv_at hl 0 rfl) ?_
  refine W.objInit hx hb hown (hts (.methodLink RX0 3 objectInit) (by decide +kernel)) (hts (.instanceMethod objectInit) (by decide +kernel)) (hts (.code objectInit ⟨#[0xb1]⟩ 1 none) (by decide +kernel)) rfl (by rw [hml]; exact hl.1) rfl dX0_init_1 (Nat.le_of_ble_eq_true rfl) (Nat.le_of_ble_eq_true rfl) ?_
  refine W.eq (g2 := F0 m 4 ls []) rfl ?_
  refine lv_aload_n hx hb dX0_init_4 rfl (lv_at hl 0 rfl) ?_
  refine lv_bipush (v := 20) hx hb dX0_init_5 (by decide) ?_
  refine va_newa (atype := .int) (ty := .int) (a0 := (20, .inl (fun _ => 0))) hx hb k0 rfl hK hP hD hS hA (fun _ => rfl) (by decide) (by decide) (by decide) (Nat.le_of_ble_eq_true rfl) (Nat.le_of_ble_eq_true rfl) dX0_init_7 (fun q1 cA H hKn hP hD hS => ?_)
  obtain rfl := m_cyI hKn
  have hP : va_P E.1 vwCl ((([(h0, .inr (0, [.null, .int 0, .int 0, .int 0, .int 0]))] : va_W)) ++ (([(q1, .inl (E.2.2.1, 20, .inl (fun _ => 0)))] : va_W))) H := hP
  have hD : va_D A ((([(h0, .inr (0, [.null, .int 0, .int 0, .int 0, .int 0]))] : va_W)) ++ (([(q1, .inl (E.2.2.1, 20, .inl (fun _ => 0)))] : va_W))) := hD
  refine W.widen (k := 1) (n := 20) (Nat.le_of_ble_eq_true rfl) (Nat.le_of_ble_eq_true rfl) ?_
  refine W.eq (g2 := F0 m 9 ls [.ref q1, .ref h0]) rfl ?_
  refine va_putF (D := E.1) (ci := 0) (v := .ref q1) (ty := .array .int) (C := RX0) (T := TX0) (N := 5) hx hb hts k2 tyX0 tyX0_ok nmX0 hown hK hP hD hS 0 rfl rfl 0 (by decide) k1 (fun _ h9 => h9) rfl hin rfl (by decide +kernel) rfl rfl (Nat.le_of_ble_eq_true rfl) dX0_init_9 (fun H locs hP hD hS => ?_)
  have hP : va_P E.1 vwCl ((([(h0, .inr (0, [.ref q1, .int 0, .int 0, .int 0, .int 0]))] : va_W)) ++ (([(q1, .inl (E.2.2.1, 20, .inl (fun _ => 0)))] : va_W))) H := hP
  have hD : va_D A ((([(h0, .inr (0, [.ref q1, .int 0, .int 0, .int 0, .int 0]))] : va_W)) ++ (([(q1, .inl (E.2.2.1, 20, .inl (fun _ => 0)))] : va_W))) := hD
  refine lv_aload_n hx hb dX0_init_12 rfl (lv_at hl 0 rfl) ?_
  refine lv_iconst (v := 0) hx hb dX0_init_13 (by decide) ?_
  refine va_put (D := E.1) (ci := 0) (v := .int 0) (ty := .int) (C := RX0) (T := TX0) (N := 5) hx hb hts k2 tyX0 tyX0_ok nmX0 hown hK hP hD hS 0 rfl rfl 1 (by decide) k3 (fun _ h9 => h9) rfl (by decide +kernel) rfl rfl (Nat.le_of_ble_eq_true rfl) dX0_init_14 (fun H locs hP hD hS => ?_)
  have hP : va_P E.1 vwCl ((([(h0, .inr (0, [.ref q1, .int 0, .int 0, .int 0, .int 0]))] : va_W)) ++ (([(q1, .inl (E.2.2.1, 20, .inl (fun _ => 0)))] : va_W))) H := hP
  have hD : va_D A ((([(h0, .inr (0, [.ref q1, .int 0, .int 0, .int 0, .int 0]))] : va_W)) ++ (([(q1, .inl (E.2.2.1, 20, .inl (fun _ => 0)))] : va_W))) := hD
  refine lv_aload_n hx hb dX0_init_17 rfl (lv_at hl 0 rfl) ?_
  refine lv_iconst (v := 0) hx hb dX0_init_18 (by decide) ?_
  refine va_put (D := E.1) (ci := 0) (v := .int 0) (ty := .int) (C := RX0) (T := TX0) (N := 5) hx hb hts k2 tyX0 tyX0_ok nmX0 hown hK hP hD hS 0 rfl rfl 2 (by decide) k4 (fun _ h9 => h9) rfl (by decide +kernel) rfl rfl (Nat.le_of_ble_eq_true rfl) dX0_init_19 (fun H locs hP hD hS => ?_)
  have hP : va_P E.1 vwCl ((([(h0, .inr (0, [.ref q1, .int 0, .int 0, .int 0, .int 0]))] : va_W)) ++ (([(q1, .inl (E.2.2.1, 20, .inl (fun _ => 0)))] : va_W))) H := hP
  have hD : va_D A ((([(h0, .inr (0, [.ref q1, .int 0, .int 0, .int 0, .int 0]))] : va_W)) ++ (([(q1, .inl (E.2.2.1, 20, .inl (fun _ => 0)))] : va_W))) := hD
  refine lv_aload_n hx hb dX0_init_22 rfl (lv_at hl 0 rfl) ?_
  refine lv_iconst (v := 0) hx hb dX0_init_23 (by decide) ?_
  refine va_put (D := E.1) (ci := 0) (v := .int 0) (ty := .int) (C := RX0) (T := TX0) (N := 5) hx hb hts k2 tyX0 tyX0_ok nmX0 hown hK hP hD hS 0 rfl rfl 3 (by decide) k5 (fun _ h9 => h9) rfl (by decide +kernel) rfl rfl (Nat.le_of_ble_eq_true rfl) dX0_init_24 (fun H locs hP hD hS => ?_)
  have hP : va_P E.1 vwCl ((([(h0, .inr (0, [.ref q1, .int 0, .int 0, .int 0, .int 0]))] : va_W)) ++ (([(q1, .inl (E.2.2.1, 20, .inl (fun _ => 0)))] : va_W))) H := hP
  have hD : va_D A ((([(h0, .inr (0, [.ref q1, .int 0, .int 0, .int 0, .int 0]))] : va_W)) ++ (([(q1, .inl (E.2.2.1, 20, .inl (fun _ => 0)))] : va_W))) := hD
  refine lv_aload_n hx hb dX0_init_27 rfl (lv_at hl 0 rfl) ?_
  refine lv_iconst (v := 0) hx hb dX0_init_28 (by decide) ?_
  refine va_put (D := E.1) (ci := 0) (v := .int 0) (ty := .int) (C := RX0) (T := TX0) (N := 5) hx hb hts k2 tyX0 tyX0_ok nmX0 hown hK hP hD hS 0 rfl rfl 4 (by decide) k6 (fun _ h9 => h9) rfl (by decide +kernel) rfl rfl (Nat.le_of_ble_eq_true rfl) dX0_init_29 (fun H locs hP hD hS => ?_)
  have hP : va_P E.1 vwCl ((([(h0, .inr (0, [.ref q1, .int 0, .int 0, .int 0, .int 0]))] : va_W)) ++ (([(q1, .inl (E.2.2.1, 20, .inl (fun _ => 0)))] : va_W))) H := hP
  have hD : va_D A ((([(h0, .inr (0, [.ref q1, .int 0, .int 0, .int 0, .int 0]))] : va_W)) ++ (([(q1, .inl (E.2.2.1, 20, .inl (fun _ => 0)))] : va_W))) := hD
  have hP : va_P E.1 vwCl (Acts_c E (h0, q1) Acts_0) H := hP
  have hD : va_D A (Acts_c E (h0, q1) Acts_0) := hD
  rw [hQ]
  refine W.widen (k := 1) (n := 20) (Nat.le_of_ble_eq_true rfl) (Nat.le_of_ble_eq_true rfl) ?_
  exact W.vret hx hb hr (fun t ht _ => ⟨⟨(h0, q1), rfl, rfl, by rw [ht]; exact hP, hD⟩, hS.F ht⟩) hS.2.2 dX0_init_32
abbrev rmX2_init : Room := { frames := 1, cells := 8, slots := 66, locals := 12 }
set_option maxRecDepth 100000 in
set_option maxHeartbeats 400000 in
theorem c_X2_init (l : Launch) (E : mE) (h0 sz : Nat) : Met l yX2_init wsX2_init rmX2_init (mPm E [.ref h0] sz (([(h0, .inr (2, [.int 0, .int 0, .int 0, .null, .null, .null, .null, .null, .null, .null, .null]))] : va_W)) []) (mSx E (fun _ => none) (fun u : GroupA => (Group_c E u Group_0)) (fun u : GroupA => Groupa_self u = h0) (va_A (([(h0, .inr (2, [.int 0, .int 0, .int 0, .null, .null, .null, .null, .null, .null, .null, .null]))] : va_W)) sz)) 8 66 (va_A (([(h0, .inr (2, [.int 0, .int 0, .int 0, .null, .null, .null, .null, .null, .null, .null, .null]))] : va_W)) sz) := by
  refine mOfX (QA := fun A => mSx E (fun _ => none) (fun u : GroupA => (Group_c E u Group_0)) (fun u : GroupA => Groupa_self u = h0) A) (cc := cX2_init) (maxL := 1) (ret := none) (by decide) rfl (Nat.le_of_ble_eq_true rfl) ?_
  intro p e_ s m args below meth c Q A hQ CC hr hlocks hin hA hP hD hKN hGl hR0 hRA ls hl
  have hS : va_S A s.heap s.heap [] := va_S.rf
  have hin : meth.name = "<init>" := hin
  have hK := hKN.1
  have hx := CC.1
  have hb := CC.2.1
  have hml := CC.2.2.1
  have hown : s.vm.findClass RX2 = some m.cls := CC.2.2.2.1
  have hts := CC.2.2.2.2
  have hl : lv_has ls 1 [(0, .ref h0)] := hl
  have k0 := hts (.fieldLink RX2 9 "OneDidAll$Group" "size" "I") (by decide +kernel)
  have k1 := (show ∀ w ∈ u_ws RX2 TX2 11, w ∈ wsX2_init by decide +kernel)
  have k2 := hts (.fieldLink RX2 15 "OneDidAll$Group" "week" "I") (by decide +kernel)
  have k3 := hts (.fieldLink RX2 18 "OneDidAll$Group" "work" "I") (by decide +kernel)
  have k4 := hts (.arrayClass .int) (by decide +kernel)
  have k5 := hts (.fieldLink RX2 21 "OneDidAll$Group" "kinds" "[I") (by decide +kernel)
  have k6 := hts (.fieldLink RX2 25 "OneDidAll$Group" "vs" "[I") (by decide +kernel)
  have k7 := hts (.fieldLink RX2 28 "OneDidAll$Group" "skills" "[I") (by decide +kernel)
  have k8 := hts (.fieldLink RX2 31 "OneDidAll$Group" "wills" "[I") (by decide +kernel)
  have k9 := hts (.fieldLink RX2 34 "OneDidAll$Group" "hours" "[I") (by decide +kernel)
  have k10 := hts (.arrayClass .boolean) (by decide +kernel)
  have k11 := hts (.fieldLink RX2 37 "OneDidAll$Group" "outs" "[Z") (by decide +kernel)
  have k12 := hts (.fieldLink RX2 41 "OneDidAll$Group" "rows" "[I") (by decide +kernel)
  have k13 := hts (.fieldLink RX2 44 "OneDidAll$Group" "does" "[I") (by decide +kernel)
  have hP : va_P E.1 vwCl (([(h0, .inr (2, [.int 0, .int 0, .int 0, .null, .null, .null, .null, .null, .null, .null, .null]))] : va_W)) s.heap := hP
  obtain ⟨H, hH⟩ : ∃ H, H = s.heap := ⟨_, rfl⟩
  obtain ⟨locs, hlc⟩ : ∃ z : List Loc, z = [] := ⟨_, rfl⟩
  rw [← hH] at hP
  rw [← hlc] at hS
  have hS : va_S A s.heap H locs := by rw [hH]; exact hS
  rw [← hH, ← hlc]
  refine lv_aload_n hx hb dX2_init_0 rfl (lv_at hl 0 rfl) ?_
  refine W.objInit hx hb hown (hts (.methodLink RX2 3 objectInit) (by decide +kernel)) (hts (.instanceMethod objectInit) (by decide +kernel)) (hts (.code objectInit ⟨#[0xb1]⟩ 1 none) (by decide +kernel)) rfl (by rw [hml]; exact hl.1) rfl dX2_init_1 (Nat.le_of_ble_eq_true rfl) (Nat.le_of_ble_eq_true rfl) ?_
  refine W.eq (g2 := F0 m 4 ls []) rfl ?_
  refine lv_aload_n hx hb dX2_init_4 rfl (lv_at hl 0 rfl) ?_
  refine lv_iconst (v := 0) hx hb dX2_init_5 (by decide) ?_
  refine va_put (D := E.1) (ci := 2) (v := .int 0) (ty := .int) (C := RX2) (T := TX2) (N := 11) hx hb hts k1 tyX2 tyX2_ok nmX2 hown hK hP hD hS 0 rfl rfl 0 (by decide) k0 (fun _ h9 => h9) rfl (by decide +kernel) rfl rfl (Nat.le_of_ble_eq_true rfl) dX2_init_6 (fun H locs hP hD hS => ?_)
  have hP : va_P E.1 vwCl (([(h0, .inr (2, [.int 0, .int 0, .int 0, .null, .null, .null, .null, .null, .null, .null, .null]))] : va_W)) H := hP
  have hD : va_D A (([(h0, .inr (2, [.int 0, .int 0, .int 0, .null, .null, .null, .null, .null, .null, .null, .null]))] : va_W)) := hD
  refine lv_aload_n hx hb dX2_init_9 rfl (lv_at hl 0 rfl) ?_
  refine lv_iconst (v := 0) hx hb dX2_init_10 (by decide) ?_
  refine va_put (D := E.1) (ci := 2) (v := .int 0) (ty := .int) (C := RX2) (T := TX2) (N := 11) hx hb hts k1 tyX2 tyX2_ok nmX2 hown hK hP hD hS 0 rfl rfl 1 (by decide) k2 (fun _ h9 => h9) rfl (by decide +kernel) rfl rfl (Nat.le_of_ble_eq_true rfl) dX2_init_11 (fun H locs hP hD hS => ?_)
  have hP : va_P E.1 vwCl (([(h0, .inr (2, [.int 0, .int 0, .int 0, .null, .null, .null, .null, .null, .null, .null, .null]))] : va_W)) H := hP
  have hD : va_D A (([(h0, .inr (2, [.int 0, .int 0, .int 0, .null, .null, .null, .null, .null, .null, .null, .null]))] : va_W)) := hD
  refine lv_aload_n hx hb dX2_init_14 rfl (lv_at hl 0 rfl) ?_
  refine lv_iconst (v := 0) hx hb dX2_init_15 (by decide) ?_
  refine va_put (D := E.1) (ci := 2) (v := .int 0) (ty := .int) (C := RX2) (T := TX2) (N := 11) hx hb hts k1 tyX2 tyX2_ok nmX2 hown hK hP hD hS 0 rfl rfl 2 (by decide) k3 (fun _ h9 => h9) rfl (by decide +kernel) rfl rfl (Nat.le_of_ble_eq_true rfl) dX2_init_16 (fun H locs hP hD hS => ?_)
  have hP : va_P E.1 vwCl (([(h0, .inr (2, [.int 0, .int 0, .int 0, .null, .null, .null, .null, .null, .null, .null, .null]))] : va_W)) H := hP
  have hD : va_D A (([(h0, .inr (2, [.int 0, .int 0, .int 0, .null, .null, .null, .null, .null, .null, .null, .null]))] : va_W)) := hD
  refine lv_aload_n hx hb dX2_init_19 rfl (lv_at hl 0 rfl) ?_
  refine lv_bipush (v := 6) hx hb dX2_init_20 (by decide) ?_
  refine va_newa (atype := .int) (ty := .int) (a0 := (6, .inl (fun _ => 0))) hx hb k4 rfl hK hP hD hS hA (fun _ => rfl) (by decide) (by decide) (by decide) (Nat.le_of_ble_eq_true rfl) (Nat.le_of_ble_eq_true rfl) dX2_init_22 (fun q1 cA H hKn hP hD hS => ?_)
  obtain rfl := m_cyI hKn
  have hP : va_P E.1 vwCl ((([(h0, .inr (2, [.int 0, .int 0, .int 0, .null, .null, .null, .null, .null, .null, .null, .null]))] : va_W)) ++ (([(q1, .inl (E.2.2.1, 6, .inl (fun _ => 0)))] : va_W))) H := hP
  have hD : va_D A ((([(h0, .inr (2, [.int 0, .int 0, .int 0, .null, .null, .null, .null, .null, .null, .null, .null]))] : va_W)) ++ (([(q1, .inl (E.2.2.1, 6, .inl (fun _ => 0)))] : va_W))) := hD
  refine W.widen (k := 1) (n := 6) (Nat.le_of_ble_eq_true rfl) (Nat.le_of_ble_eq_true rfl) ?_
  refine W.eq (g2 := F0 m 24 ls [.ref q1, .ref h0]) rfl ?_
  refine va_putF (D := E.1) (ci := 2) (v := .ref q1) (ty := .array .int) (C := RX2) (T := TX2) (N := 11) hx hb hts k1 tyX2 tyX2_ok nmX2 hown hK hP hD hS 0 rfl rfl 3 (by decide) k5 (fun _ h9 => h9) rfl hin rfl (by decide +kernel) rfl rfl (Nat.le_of_ble_eq_true rfl) dX2_init_24 (fun H locs hP hD hS => ?_)
  have hP : va_P E.1 vwCl ((([(h0, .inr (2, [.int 0, .int 0, .int 0, .ref q1, .null, .null, .null, .null, .null, .null, .null]))] : va_W)) ++ (([(q1, .inl (E.2.2.1, 6, .inl (fun _ => 0)))] : va_W))) H := hP
  have hD : va_D A ((([(h0, .inr (2, [.int 0, .int 0, .int 0, .ref q1, .null, .null, .null, .null, .null, .null, .null]))] : va_W)) ++ (([(q1, .inl (E.2.2.1, 6, .inl (fun _ => 0)))] : va_W))) := hD
  refine lv_aload_n hx hb dX2_init_27 rfl (lv_at hl 0 rfl) ?_
  refine lv_bipush (v := 6) hx hb dX2_init_28 (by decide) ?_
  refine va_newa (atype := .int) (ty := .int) (a0 := (6, .inl (fun _ => 0))) hx hb k4 rfl hK hP hD hS hA (fun _ => rfl) (by decide) (by decide) (by decide) (Nat.le_of_ble_eq_true rfl) (Nat.le_of_ble_eq_true rfl) dX2_init_30 (fun q2 cA H hKn hP hD hS => ?_)
  obtain rfl := m_cyI hKn
  have hP : va_P E.1 vwCl ((([(h0, .inr (2, [.int 0, .int 0, .int 0, .ref q1, .null, .null, .null, .null, .null, .null, .null]))] : va_W)) ++ ((([(q1, .inl (E.2.2.1, 6, .inl (fun _ => 0)))] : va_W)) ++ (([(q2, .inl (E.2.2.1, 6, .inl (fun _ => 0)))] : va_W)))) H := hP
  have hD : va_D A ((([(h0, .inr (2, [.int 0, .int 0, .int 0, .ref q1, .null, .null, .null, .null, .null, .null, .null]))] : va_W)) ++ ((([(q1, .inl (E.2.2.1, 6, .inl (fun _ => 0)))] : va_W)) ++ (([(q2, .inl (E.2.2.1, 6, .inl (fun _ => 0)))] : va_W)))) := hD
  refine W.widen (k := 2) (n := 12) (Nat.le_of_ble_eq_true rfl) (Nat.le_of_ble_eq_true rfl) ?_
  refine W.eq (g2 := F0 m 32 ls [.ref q2, .ref h0]) rfl ?_
  refine va_putF (D := E.1) (ci := 2) (v := .ref q2) (ty := .array .int) (C := RX2) (T := TX2) (N := 11) hx hb hts k1 tyX2 tyX2_ok nmX2 hown hK hP hD hS 0 rfl rfl 4 (by decide) k6 (fun _ h9 => h9) rfl hin rfl (by decide +kernel) rfl rfl (Nat.le_of_ble_eq_true rfl) dX2_init_32 (fun H locs hP hD hS => ?_)
  have hP : va_P E.1 vwCl ((([(h0, .inr (2, [.int 0, .int 0, .int 0, .ref q1, .ref q2, .null, .null, .null, .null, .null, .null]))] : va_W)) ++ ((([(q1, .inl (E.2.2.1, 6, .inl (fun _ => 0)))] : va_W)) ++ (([(q2, .inl (E.2.2.1, 6, .inl (fun _ => 0)))] : va_W)))) H := hP
  have hD : va_D A ((([(h0, .inr (2, [.int 0, .int 0, .int 0, .ref q1, .ref q2, .null, .null, .null, .null, .null, .null]))] : va_W)) ++ ((([(q1, .inl (E.2.2.1, 6, .inl (fun _ => 0)))] : va_W)) ++ (([(q2, .inl (E.2.2.1, 6, .inl (fun _ => 0)))] : va_W)))) := hD
  refine lv_aload_n hx hb dX2_init_35 rfl (lv_at hl 0 rfl) ?_
  refine lv_bipush (v := 6) hx hb dX2_init_36 (by decide) ?_
  refine va_newa (atype := .int) (ty := .int) (a0 := (6, .inl (fun _ => 0))) hx hb k4 rfl hK hP hD hS hA (fun _ => rfl) (by decide) (by decide) (by decide) (Nat.le_of_ble_eq_true rfl) (Nat.le_of_ble_eq_true rfl) dX2_init_38 (fun q3 cA H hKn hP hD hS => ?_)
  obtain rfl := m_cyI hKn
  have hP : va_P E.1 vwCl ((([(h0, .inr (2, [.int 0, .int 0, .int 0, .ref q1, .ref q2, .null, .null, .null, .null, .null, .null]))] : va_W)) ++ ((([(q1, .inl (E.2.2.1, 6, .inl (fun _ => 0)))] : va_W)) ++ ((([(q2, .inl (E.2.2.1, 6, .inl (fun _ => 0)))] : va_W)) ++ (([(q3, .inl (E.2.2.1, 6, .inl (fun _ => 0)))] : va_W))))) H := hP
  have hD : va_D A ((([(h0, .inr (2, [.int 0, .int 0, .int 0, .ref q1, .ref q2, .null, .null, .null, .null, .null, .null]))] : va_W)) ++ ((([(q1, .inl (E.2.2.1, 6, .inl (fun _ => 0)))] : va_W)) ++ ((([(q2, .inl (E.2.2.1, 6, .inl (fun _ => 0)))] : va_W)) ++ (([(q3, .inl (E.2.2.1, 6, .inl (fun _ => 0)))] : va_W))))) := hD
  refine W.widen (k := 3) (n := 18) (Nat.le_of_ble_eq_true rfl) (Nat.le_of_ble_eq_true rfl) ?_
  refine W.eq (g2 := F0 m 40 ls [.ref q3, .ref h0]) rfl ?_
  refine va_putF (D := E.1) (ci := 2) (v := .ref q3) (ty := .array .int) (C := RX2) (T := TX2) (N := 11) hx hb hts k1 tyX2 tyX2_ok nmX2 hown hK hP hD hS 0 rfl rfl 5 (by decide) k7 (fun _ h9 => h9) rfl hin rfl (by decide +kernel) rfl rfl (Nat.le_of_ble_eq_true rfl) dX2_init_40 (fun H locs hP hD hS => ?_)
  have hP : va_P E.1 vwCl ((([(h0, .inr (2, [.int 0, .int 0, .int 0, .ref q1, .ref q2, .ref q3, .null, .null, .null, .null, .null]))] : va_W)) ++ ((([(q1, .inl (E.2.2.1, 6, .inl (fun _ => 0)))] : va_W)) ++ ((([(q2, .inl (E.2.2.1, 6, .inl (fun _ => 0)))] : va_W)) ++ (([(q3, .inl (E.2.2.1, 6, .inl (fun _ => 0)))] : va_W))))) H := hP
  have hD : va_D A ((([(h0, .inr (2, [.int 0, .int 0, .int 0, .ref q1, .ref q2, .ref q3, .null, .null, .null, .null, .null]))] : va_W)) ++ ((([(q1, .inl (E.2.2.1, 6, .inl (fun _ => 0)))] : va_W)) ++ ((([(q2, .inl (E.2.2.1, 6, .inl (fun _ => 0)))] : va_W)) ++ (([(q3, .inl (E.2.2.1, 6, .inl (fun _ => 0)))] : va_W))))) := hD
  refine lv_aload_n hx hb dX2_init_43 rfl (lv_at hl 0 rfl) ?_
  refine lv_bipush (v := 6) hx hb dX2_init_44 (by decide) ?_
  refine va_newa (atype := .int) (ty := .int) (a0 := (6, .inl (fun _ => 0))) hx hb k4 rfl hK hP hD hS hA (fun _ => rfl) (by decide) (by decide) (by decide) (Nat.le_of_ble_eq_true rfl) (Nat.le_of_ble_eq_true rfl) dX2_init_46 (fun q4 cA H hKn hP hD hS => ?_)
  obtain rfl := m_cyI hKn
  have hP : va_P E.1 vwCl ((([(h0, .inr (2, [.int 0, .int 0, .int 0, .ref q1, .ref q2, .ref q3, .null, .null, .null, .null, .null]))] : va_W)) ++ ((([(q1, .inl (E.2.2.1, 6, .inl (fun _ => 0)))] : va_W)) ++ ((([(q2, .inl (E.2.2.1, 6, .inl (fun _ => 0)))] : va_W)) ++ ((([(q3, .inl (E.2.2.1, 6, .inl (fun _ => 0)))] : va_W)) ++ (([(q4, .inl (E.2.2.1, 6, .inl (fun _ => 0)))] : va_W)))))) H := hP
  have hD : va_D A ((([(h0, .inr (2, [.int 0, .int 0, .int 0, .ref q1, .ref q2, .ref q3, .null, .null, .null, .null, .null]))] : va_W)) ++ ((([(q1, .inl (E.2.2.1, 6, .inl (fun _ => 0)))] : va_W)) ++ ((([(q2, .inl (E.2.2.1, 6, .inl (fun _ => 0)))] : va_W)) ++ ((([(q3, .inl (E.2.2.1, 6, .inl (fun _ => 0)))] : va_W)) ++ (([(q4, .inl (E.2.2.1, 6, .inl (fun _ => 0)))] : va_W)))))) := hD
  refine W.widen (k := 4) (n := 24) (Nat.le_of_ble_eq_true rfl) (Nat.le_of_ble_eq_true rfl) ?_
  refine W.eq (g2 := F0 m 48 ls [.ref q4, .ref h0]) rfl ?_
  refine va_putF (D := E.1) (ci := 2) (v := .ref q4) (ty := .array .int) (C := RX2) (T := TX2) (N := 11) hx hb hts k1 tyX2 tyX2_ok nmX2 hown hK hP hD hS 0 rfl rfl 6 (by decide) k8 (fun _ h9 => h9) rfl hin rfl (by decide +kernel) rfl rfl (Nat.le_of_ble_eq_true rfl) dX2_init_48 (fun H locs hP hD hS => ?_)
  have hP : va_P E.1 vwCl ((([(h0, .inr (2, [.int 0, .int 0, .int 0, .ref q1, .ref q2, .ref q3, .ref q4, .null, .null, .null, .null]))] : va_W)) ++ ((([(q1, .inl (E.2.2.1, 6, .inl (fun _ => 0)))] : va_W)) ++ ((([(q2, .inl (E.2.2.1, 6, .inl (fun _ => 0)))] : va_W)) ++ ((([(q3, .inl (E.2.2.1, 6, .inl (fun _ => 0)))] : va_W)) ++ (([(q4, .inl (E.2.2.1, 6, .inl (fun _ => 0)))] : va_W)))))) H := hP
  have hD : va_D A ((([(h0, .inr (2, [.int 0, .int 0, .int 0, .ref q1, .ref q2, .ref q3, .ref q4, .null, .null, .null, .null]))] : va_W)) ++ ((([(q1, .inl (E.2.2.1, 6, .inl (fun _ => 0)))] : va_W)) ++ ((([(q2, .inl (E.2.2.1, 6, .inl (fun _ => 0)))] : va_W)) ++ ((([(q3, .inl (E.2.2.1, 6, .inl (fun _ => 0)))] : va_W)) ++ (([(q4, .inl (E.2.2.1, 6, .inl (fun _ => 0)))] : va_W)))))) := hD
  refine lv_aload_n hx hb dX2_init_51 rfl (lv_at hl 0 rfl) ?_
  refine lv_bipush (v := 6) hx hb dX2_init_52 (by decide) ?_
  refine va_newa (atype := .int) (ty := .int) (a0 := (6, .inl (fun _ => 0))) hx hb k4 rfl hK hP hD hS hA (fun _ => rfl) (by decide) (by decide) (by decide) (Nat.le_of_ble_eq_true rfl) (Nat.le_of_ble_eq_true rfl) dX2_init_54 (fun q5 cA H hKn hP hD hS => ?_)
  obtain rfl := m_cyI hKn
  have hP : va_P E.1 vwCl ((([(h0, .inr (2, [.int 0, .int 0, .int 0, .ref q1, .ref q2, .ref q3, .ref q4, .null, .null, .null, .null]))] : va_W)) ++ ((([(q1, .inl (E.2.2.1, 6, .inl (fun _ => 0)))] : va_W)) ++ ((([(q2, .inl (E.2.2.1, 6, .inl (fun _ => 0)))] : va_W)) ++ ((([(q3, .inl (E.2.2.1, 6, .inl (fun _ => 0)))] : va_W)) ++ ((([(q4, .inl (E.2.2.1, 6, .inl (fun _ => 0)))] : va_W)) ++ (([(q5, .inl (E.2.2.1, 6, .inl (fun _ => 0)))] : va_W))))))) H := hP
  have hD : va_D A ((([(h0, .inr (2, [.int 0, .int 0, .int 0, .ref q1, .ref q2, .ref q3, .ref q4, .null, .null, .null, .null]))] : va_W)) ++ ((([(q1, .inl (E.2.2.1, 6, .inl (fun _ => 0)))] : va_W)) ++ ((([(q2, .inl (E.2.2.1, 6, .inl (fun _ => 0)))] : va_W)) ++ ((([(q3, .inl (E.2.2.1, 6, .inl (fun _ => 0)))] : va_W)) ++ ((([(q4, .inl (E.2.2.1, 6, .inl (fun _ => 0)))] : va_W)) ++ (([(q5, .inl (E.2.2.1, 6, .inl (fun _ => 0)))] : va_W))))))) := hD
  refine W.widen (k := 5) (n := 30) (Nat.le_of_ble_eq_true rfl) (Nat.le_of_ble_eq_true rfl) ?_
  refine W.eq (g2 := F0 m 56 ls [.ref q5, .ref h0]) rfl ?_
  refine va_putF (D := E.1) (ci := 2) (v := .ref q5) (ty := .array .int) (C := RX2) (T := TX2) (N := 11) hx hb hts k1 tyX2 tyX2_ok nmX2 hown hK hP hD hS 0 rfl rfl 7 (by decide) k9 (fun _ h9 => h9) rfl hin rfl (by decide +kernel) rfl rfl (Nat.le_of_ble_eq_true rfl) dX2_init_56 (fun H locs hP hD hS => ?_)
  have hP : va_P E.1 vwCl ((([(h0, .inr (2, [.int 0, .int 0, .int 0, .ref q1, .ref q2, .ref q3, .ref q4, .ref q5, .null, .null, .null]))] : va_W)) ++ ((([(q1, .inl (E.2.2.1, 6, .inl (fun _ => 0)))] : va_W)) ++ ((([(q2, .inl (E.2.2.1, 6, .inl (fun _ => 0)))] : va_W)) ++ ((([(q3, .inl (E.2.2.1, 6, .inl (fun _ => 0)))] : va_W)) ++ ((([(q4, .inl (E.2.2.1, 6, .inl (fun _ => 0)))] : va_W)) ++ (([(q5, .inl (E.2.2.1, 6, .inl (fun _ => 0)))] : va_W))))))) H := hP
  have hD : va_D A ((([(h0, .inr (2, [.int 0, .int 0, .int 0, .ref q1, .ref q2, .ref q3, .ref q4, .ref q5, .null, .null, .null]))] : va_W)) ++ ((([(q1, .inl (E.2.2.1, 6, .inl (fun _ => 0)))] : va_W)) ++ ((([(q2, .inl (E.2.2.1, 6, .inl (fun _ => 0)))] : va_W)) ++ ((([(q3, .inl (E.2.2.1, 6, .inl (fun _ => 0)))] : va_W)) ++ ((([(q4, .inl (E.2.2.1, 6, .inl (fun _ => 0)))] : va_W)) ++ (([(q5, .inl (E.2.2.1, 6, .inl (fun _ => 0)))] : va_W))))))) := hD
  refine lv_aload_n hx hb dX2_init_59 rfl (lv_at hl 0 rfl) ?_
  refine lv_bipush (v := 6) hx hb dX2_init_60 (by decide) ?_
  refine va_newa (atype := .boolean) (ty := .boolean) (a0 := (6, .inl (fun _ => 0))) hx hb k10 rfl hK hP hD hS hA (fun _ => rfl) (by decide) (by decide) (by decide) (Nat.le_of_ble_eq_true rfl) (Nat.le_of_ble_eq_true rfl) dX2_init_62 (fun q6 cA H hKn hP hD hS => ?_)
  obtain rfl := m_cyZ hKn
  have hP : va_P E.1 vwCl ((([(h0, .inr (2, [.int 0, .int 0, .int 0, .ref q1, .ref q2, .ref q3, .ref q4, .ref q5, .null, .null, .null]))] : va_W)) ++ ((([(q1, .inl (E.2.2.1, 6, .inl (fun _ => 0)))] : va_W)) ++ ((([(q2, .inl (E.2.2.1, 6, .inl (fun _ => 0)))] : va_W)) ++ ((([(q3, .inl (E.2.2.1, 6, .inl (fun _ => 0)))] : va_W)) ++ ((([(q4, .inl (E.2.2.1, 6, .inl (fun _ => 0)))] : va_W)) ++ ((([(q5, .inl (E.2.2.1, 6, .inl (fun _ => 0)))] : va_W)) ++ (([(q6, .inl (E.2.2.2.1, 6, .inl (fun _ => 0)))] : va_W)))))))) H := hP
  have hD : va_D A ((([(h0, .inr (2, [.int 0, .int 0, .int 0, .ref q1, .ref q2, .ref q3, .ref q4, .ref q5, .null, .null, .null]))] : va_W)) ++ ((([(q1, .inl (E.2.2.1, 6, .inl (fun _ => 0)))] : va_W)) ++ ((([(q2, .inl (E.2.2.1, 6, .inl (fun _ => 0)))] : va_W)) ++ ((([(q3, .inl (E.2.2.1, 6, .inl (fun _ => 0)))] : va_W)) ++ ((([(q4, .inl (E.2.2.1, 6, .inl (fun _ => 0)))] : va_W)) ++ ((([(q5, .inl (E.2.2.1, 6, .inl (fun _ => 0)))] : va_W)) ++ (([(q6, .inl (E.2.2.2.1, 6, .inl (fun _ => 0)))] : va_W)))))))) := hD
  refine W.widen (k := 6) (n := 36) (Nat.le_of_ble_eq_true rfl) (Nat.le_of_ble_eq_true rfl) ?_
  refine W.eq (g2 := F0 m 64 ls [.ref q6, .ref h0]) rfl ?_
  refine va_putF (D := E.1) (ci := 2) (v := .ref q6) (ty := .array .boolean) (C := RX2) (T := TX2) (N := 11) hx hb hts k1 tyX2 tyX2_ok nmX2 hown hK hP hD hS 0 rfl rfl 8 (by decide) k11 (fun _ h9 => h9) rfl hin rfl (by decide +kernel) rfl rfl (Nat.le_of_ble_eq_true rfl) dX2_init_64 (fun H locs hP hD hS => ?_)
  have hP : va_P E.1 vwCl ((([(h0, .inr (2, [.int 0, .int 0, .int 0, .ref q1, .ref q2, .ref q3, .ref q4, .ref q5, .ref q6, .null, .null]))] : va_W)) ++ ((([(q1, .inl (E.2.2.1, 6, .inl (fun _ => 0)))] : va_W)) ++ ((([(q2, .inl (E.2.2.1, 6, .inl (fun _ => 0)))] : va_W)) ++ ((([(q3, .inl (E.2.2.1, 6, .inl (fun _ => 0)))] : va_W)) ++ ((([(q4, .inl (E.2.2.1, 6, .inl (fun _ => 0)))] : va_W)) ++ ((([(q5, .inl (E.2.2.1, 6, .inl (fun _ => 0)))] : va_W)) ++ (([(q6, .inl (E.2.2.2.1, 6, .inl (fun _ => 0)))] : va_W)))))))) H := hP
  have hD : va_D A ((([(h0, .inr (2, [.int 0, .int 0, .int 0, .ref q1, .ref q2, .ref q3, .ref q4, .ref q5, .ref q6, .null, .null]))] : va_W)) ++ ((([(q1, .inl (E.2.2.1, 6, .inl (fun _ => 0)))] : va_W)) ++ ((([(q2, .inl (E.2.2.1, 6, .inl (fun _ => 0)))] : va_W)) ++ ((([(q3, .inl (E.2.2.1, 6, .inl (fun _ => 0)))] : va_W)) ++ ((([(q4, .inl (E.2.2.1, 6, .inl (fun _ => 0)))] : va_W)) ++ ((([(q5, .inl (E.2.2.1, 6, .inl (fun _ => 0)))] : va_W)) ++ (([(q6, .inl (E.2.2.2.1, 6, .inl (fun _ => 0)))] : va_W)))))))) := hD
  refine lv_aload_n hx hb dX2_init_67 rfl (lv_at hl 0 rfl) ?_
  refine lv_bipush (v := 24) hx hb dX2_init_68 (by decide) ?_
  refine va_newa (atype := .int) (ty := .int) (a0 := (24, .inl (fun _ => 0))) hx hb k4 rfl hK hP hD hS hA (fun _ => rfl) (by decide) (by decide) (by decide) (Nat.le_of_ble_eq_true rfl) (Nat.le_of_ble_eq_true rfl) dX2_init_70 (fun q7 cA H hKn hP hD hS => ?_)
  obtain rfl := m_cyI hKn
  have hP : va_P E.1 vwCl ((([(h0, .inr (2, [.int 0, .int 0, .int 0, .ref q1, .ref q2, .ref q3, .ref q4, .ref q5, .ref q6, .null, .null]))] : va_W)) ++ ((([(q1, .inl (E.2.2.1, 6, .inl (fun _ => 0)))] : va_W)) ++ ((([(q2, .inl (E.2.2.1, 6, .inl (fun _ => 0)))] : va_W)) ++ ((([(q3, .inl (E.2.2.1, 6, .inl (fun _ => 0)))] : va_W)) ++ ((([(q4, .inl (E.2.2.1, 6, .inl (fun _ => 0)))] : va_W)) ++ ((([(q5, .inl (E.2.2.1, 6, .inl (fun _ => 0)))] : va_W)) ++ ((([(q6, .inl (E.2.2.2.1, 6, .inl (fun _ => 0)))] : va_W)) ++ (([(q7, .inl (E.2.2.1, 24, .inl (fun _ => 0)))] : va_W))))))))) H := hP
  have hD : va_D A ((([(h0, .inr (2, [.int 0, .int 0, .int 0, .ref q1, .ref q2, .ref q3, .ref q4, .ref q5, .ref q6, .null, .null]))] : va_W)) ++ ((([(q1, .inl (E.2.2.1, 6, .inl (fun _ => 0)))] : va_W)) ++ ((([(q2, .inl (E.2.2.1, 6, .inl (fun _ => 0)))] : va_W)) ++ ((([(q3, .inl (E.2.2.1, 6, .inl (fun _ => 0)))] : va_W)) ++ ((([(q4, .inl (E.2.2.1, 6, .inl (fun _ => 0)))] : va_W)) ++ ((([(q5, .inl (E.2.2.1, 6, .inl (fun _ => 0)))] : va_W)) ++ ((([(q6, .inl (E.2.2.2.1, 6, .inl (fun _ => 0)))] : va_W)) ++ (([(q7, .inl (E.2.2.1, 24, .inl (fun _ => 0)))] : va_W))))))))) := hD
  refine W.widen (k := 7) (n := 60) (Nat.le_of_ble_eq_true rfl) (Nat.le_of_ble_eq_true rfl) ?_
  refine W.eq (g2 := F0 m 72 ls [.ref q7, .ref h0]) rfl ?_
  refine va_putF (D := E.1) (ci := 2) (v := .ref q7) (ty := .array .int) (C := RX2) (T := TX2) (N := 11) hx hb hts k1 tyX2 tyX2_ok nmX2 hown hK hP hD hS 0 rfl rfl 9 (by decide) k12 (fun _ h9 => h9) rfl hin rfl (by decide +kernel) rfl rfl (Nat.le_of_ble_eq_true rfl) dX2_init_72 (fun H locs hP hD hS => ?_)
  have hP : va_P E.1 vwCl ((([(h0, .inr (2, [.int 0, .int 0, .int 0, .ref q1, .ref q2, .ref q3, .ref q4, .ref q5, .ref q6, .ref q7, .null]))] : va_W)) ++ ((([(q1, .inl (E.2.2.1, 6, .inl (fun _ => 0)))] : va_W)) ++ ((([(q2, .inl (E.2.2.1, 6, .inl (fun _ => 0)))] : va_W)) ++ ((([(q3, .inl (E.2.2.1, 6, .inl (fun _ => 0)))] : va_W)) ++ ((([(q4, .inl (E.2.2.1, 6, .inl (fun _ => 0)))] : va_W)) ++ ((([(q5, .inl (E.2.2.1, 6, .inl (fun _ => 0)))] : va_W)) ++ ((([(q6, .inl (E.2.2.2.1, 6, .inl (fun _ => 0)))] : va_W)) ++ (([(q7, .inl (E.2.2.1, 24, .inl (fun _ => 0)))] : va_W))))))))) H := hP
  have hD : va_D A ((([(h0, .inr (2, [.int 0, .int 0, .int 0, .ref q1, .ref q2, .ref q3, .ref q4, .ref q5, .ref q6, .ref q7, .null]))] : va_W)) ++ ((([(q1, .inl (E.2.2.1, 6, .inl (fun _ => 0)))] : va_W)) ++ ((([(q2, .inl (E.2.2.1, 6, .inl (fun _ => 0)))] : va_W)) ++ ((([(q3, .inl (E.2.2.1, 6, .inl (fun _ => 0)))] : va_W)) ++ ((([(q4, .inl (E.2.2.1, 6, .inl (fun _ => 0)))] : va_W)) ++ ((([(q5, .inl (E.2.2.1, 6, .inl (fun _ => 0)))] : va_W)) ++ ((([(q6, .inl (E.2.2.2.1, 6, .inl (fun _ => 0)))] : va_W)) ++ (([(q7, .inl (E.2.2.1, 24, .inl (fun _ => 0)))] : va_W))))))))) := hD
  refine lv_aload_n hx hb dX2_init_75 rfl (lv_at hl 0 rfl) ?_
  refine lv_bipush (v := 6) hx hb dX2_init_76 (by decide) ?_
  refine va_newa (atype := .int) (ty := .int) (a0 := (6, .inl (fun _ => 0))) hx hb k4 rfl hK hP hD hS hA (fun _ => rfl) (by decide) (by decide) (by decide) (Nat.le_of_ble_eq_true rfl) (Nat.le_of_ble_eq_true rfl) dX2_init_78 (fun q8 cA H hKn hP hD hS => ?_)
  obtain rfl := m_cyI hKn
  have hP : va_P E.1 vwCl ((([(h0, .inr (2, [.int 0, .int 0, .int 0, .ref q1, .ref q2, .ref q3, .ref q4, .ref q5, .ref q6, .ref q7, .null]))] : va_W)) ++ ((([(q1, .inl (E.2.2.1, 6, .inl (fun _ => 0)))] : va_W)) ++ ((([(q2, .inl (E.2.2.1, 6, .inl (fun _ => 0)))] : va_W)) ++ ((([(q3, .inl (E.2.2.1, 6, .inl (fun _ => 0)))] : va_W)) ++ ((([(q4, .inl (E.2.2.1, 6, .inl (fun _ => 0)))] : va_W)) ++ ((([(q5, .inl (E.2.2.1, 6, .inl (fun _ => 0)))] : va_W)) ++ ((([(q6, .inl (E.2.2.2.1, 6, .inl (fun _ => 0)))] : va_W)) ++ ((([(q7, .inl (E.2.2.1, 24, .inl (fun _ => 0)))] : va_W)) ++ (([(q8, .inl (E.2.2.1, 6, .inl (fun _ => 0)))] : va_W)))))))))) H := hP
  have hD : va_D A ((([(h0, .inr (2, [.int 0, .int 0, .int 0, .ref q1, .ref q2, .ref q3, .ref q4, .ref q5, .ref q6, .ref q7, .null]))] : va_W)) ++ ((([(q1, .inl (E.2.2.1, 6, .inl (fun _ => 0)))] : va_W)) ++ ((([(q2, .inl (E.2.2.1, 6, .inl (fun _ => 0)))] : va_W)) ++ ((([(q3, .inl (E.2.2.1, 6, .inl (fun _ => 0)))] : va_W)) ++ ((([(q4, .inl (E.2.2.1, 6, .inl (fun _ => 0)))] : va_W)) ++ ((([(q5, .inl (E.2.2.1, 6, .inl (fun _ => 0)))] : va_W)) ++ ((([(q6, .inl (E.2.2.2.1, 6, .inl (fun _ => 0)))] : va_W)) ++ ((([(q7, .inl (E.2.2.1, 24, .inl (fun _ => 0)))] : va_W)) ++ (([(q8, .inl (E.2.2.1, 6, .inl (fun _ => 0)))] : va_W)))))))))) := hD
  refine W.widen (k := 8) (n := 66) (Nat.le_of_ble_eq_true rfl) (Nat.le_of_ble_eq_true rfl) ?_
  refine W.eq (g2 := F0 m 80 ls [.ref q8, .ref h0]) rfl ?_
  refine va_putF (D := E.1) (ci := 2) (v := .ref q8) (ty := .array .int) (C := RX2) (T := TX2) (N := 11) hx hb hts k1 tyX2 tyX2_ok nmX2 hown hK hP hD hS 0 rfl rfl 10 (by decide) k13 (fun _ h9 => h9) rfl hin rfl (by decide +kernel) rfl rfl (Nat.le_of_ble_eq_true rfl) dX2_init_80 (fun H locs hP hD hS => ?_)
  have hP : va_P E.1 vwCl ((([(h0, .inr (2, [.int 0, .int 0, .int 0, .ref q1, .ref q2, .ref q3, .ref q4, .ref q5, .ref q6, .ref q7, .ref q8]))] : va_W)) ++ ((([(q1, .inl (E.2.2.1, 6, .inl (fun _ => 0)))] : va_W)) ++ ((([(q2, .inl (E.2.2.1, 6, .inl (fun _ => 0)))] : va_W)) ++ ((([(q3, .inl (E.2.2.1, 6, .inl (fun _ => 0)))] : va_W)) ++ ((([(q4, .inl (E.2.2.1, 6, .inl (fun _ => 0)))] : va_W)) ++ ((([(q5, .inl (E.2.2.1, 6, .inl (fun _ => 0)))] : va_W)) ++ ((([(q6, .inl (E.2.2.2.1, 6, .inl (fun _ => 0)))] : va_W)) ++ ((([(q7, .inl (E.2.2.1, 24, .inl (fun _ => 0)))] : va_W)) ++ (([(q8, .inl (E.2.2.1, 6, .inl (fun _ => 0)))] : va_W)))))))))) H := hP
  have hD : va_D A ((([(h0, .inr (2, [.int 0, .int 0, .int 0, .ref q1, .ref q2, .ref q3, .ref q4, .ref q5, .ref q6, .ref q7, .ref q8]))] : va_W)) ++ ((([(q1, .inl (E.2.2.1, 6, .inl (fun _ => 0)))] : va_W)) ++ ((([(q2, .inl (E.2.2.1, 6, .inl (fun _ => 0)))] : va_W)) ++ ((([(q3, .inl (E.2.2.1, 6, .inl (fun _ => 0)))] : va_W)) ++ ((([(q4, .inl (E.2.2.1, 6, .inl (fun _ => 0)))] : va_W)) ++ ((([(q5, .inl (E.2.2.1, 6, .inl (fun _ => 0)))] : va_W)) ++ ((([(q6, .inl (E.2.2.2.1, 6, .inl (fun _ => 0)))] : va_W)) ++ ((([(q7, .inl (E.2.2.1, 24, .inl (fun _ => 0)))] : va_W)) ++ (([(q8, .inl (E.2.2.1, 6, .inl (fun _ => 0)))] : va_W)))))))))) := hD
  have hP : va_P E.1 vwCl (Group_c E (h0, q1, q2, q3, q4, q5, q6, q7, q8) Group_0) H := hP
  have hD : va_D A (Group_c E (h0, q1, q2, q3, q4, q5, q6, q7, q8) Group_0) := hD
  rw [hQ]
  refine W.widen (k := 8) (n := 66) (Nat.le_of_ble_eq_true rfl) (Nat.le_of_ble_eq_true rfl) ?_
  exact W.vret hx hb hr (fun t ht _ => ⟨⟨(h0, q1, q2, q3, q4, q5, q6, q7, q8), rfl, rfl, by rw [ht]; exact hP, hD⟩, hS.F ht⟩) hS.2.2 dX2_init_83
abbrev rmX3_init : Room := { frames := 1, cells := 3, slots := 120, locals := 12 }
set_option maxRecDepth 100000 in
set_option maxHeartbeats 400000 in
theorem c_X3_init (l : Launch) (E : mE) (h0 sz : Nat) : Met l yX3_init wsX3_init rmX3_init (mPm E [.ref h0] sz (([(h0, .inr (3, [.null, .int 0, .null, .null, .int 0, .int 0, .int 0]))] : va_W)) []) (mSx E (fun _ => none) (fun u : LessonA => (Lesson_c E u Lesson_0)) (fun u : LessonA => Lessona_self u = h0) (va_A (([(h0, .inr (3, [.null, .int 0, .null, .null, .int 0, .int 0, .int 0]))] : va_W)) sz)) 3 120 (va_A (([(h0, .inr (3, [.null, .int 0, .null, .null, .int 0, .int 0, .int 0]))] : va_W)) sz) := by
  refine mOfX (QA := fun A => mSx E (fun _ => none) (fun u : LessonA => (Lesson_c E u Lesson_0)) (fun u : LessonA => Lessona_self u = h0) A) (cc := cX3_init) (maxL := 1) (ret := none) (by decide) rfl (Nat.le_of_ble_eq_true rfl) ?_
  intro p e_ s m args below meth c Q A hQ CC hr hlocks hin hA hP hD hKN hGl hR0 hRA ls hl
  have hS : va_S A s.heap s.heap [] := va_S.rf
  have hin : meth.name = "<init>" := hin
  have hK := hKN.1
  have hx := CC.1
  have hb := CC.2.1
  have hml := CC.2.2.1
  have hown : s.vm.findClass RX3 = some m.cls := CC.2.2.2.1
  have hts := CC.2.2.2.2
  have hl : lv_has ls 1 [(0, .ref h0)] := hl
  have k0 := hts (.arrayClass .int) (by decide +kernel)
  have k1 := hts (.fieldLink RX3 9 "OneDidAll$Lesson" "code" "[I") (by decide +kernel)
  have k2 := (show ∀ w ∈ u_ws RX3 TX3 7, w ∈ wsX3_init by decide +kernel)
  have k3 := hts (.fieldLink RX3 15 "OneDidAll$Lesson" "codes" "I") (by decide +kernel)
  have k4 := hts (.fieldLink RX3 19 "OneDidAll$Lesson" "worths" "[I") (by decide +kernel)
  have k5 := hts (.fieldLink RX3 22 "OneDidAll$Lesson" "ends" "[I") (by decide +kernel)
  have k6 := hts (.fieldLink RX3 25 "OneDidAll$Lesson" "spurs" "I") (by decide +kernel)
  have k7 := hts (.fieldLink RX3 28 "OneDidAll$Lesson" "toldGoal" "I") (by decide +kernel)
  have k8 := hts (.fieldLink RX3 31 "OneDidAll$Lesson" "fair" "I") (by decide +kernel)
  have hP : va_P E.1 vwCl (([(h0, .inr (3, [.null, .int 0, .null, .null, .int 0, .int 0, .int 0]))] : va_W)) s.heap := hP
  obtain ⟨H, hH⟩ : ∃ H, H = s.heap := ⟨_, rfl⟩
  obtain ⟨locs, hlc⟩ : ∃ z : List Loc, z = [] := ⟨_, rfl⟩
  rw [← hH] at hP
  rw [← hlc] at hS
  have hS : va_S A s.heap H locs := by rw [hH]; exact hS
  rw [← hH, ← hlc]
  refine lv_aload_n hx hb dX3_init_0 rfl (lv_at hl 0 rfl) ?_
  refine W.objInit hx hb hown (hts (.methodLink RX3 3 objectInit) (by decide +kernel)) (hts (.instanceMethod objectInit) (by decide +kernel)) (hts (.code objectInit ⟨#[0xb1]⟩ 1 none) (by decide +kernel)) rfl (by rw [hml]; exact hl.1) rfl dX3_init_1 (Nat.le_of_ble_eq_true rfl) (Nat.le_of_ble_eq_true rfl) ?_
  refine W.eq (g2 := F0 m 4 ls []) rfl ?_
  refine lv_aload_n hx hb dX3_init_4 rfl (lv_at hl 0 rfl) ?_
  refine lv_bipush (v := 100) hx hb dX3_init_5 (by decide) ?_
  refine va_newa (atype := .int) (ty := .int) (a0 := (100, .inl (fun _ => 0))) hx hb k0 rfl hK hP hD hS hA (fun _ => rfl) (by decide) (by decide) (by decide) (Nat.le_of_ble_eq_true rfl) (Nat.le_of_ble_eq_true rfl) dX3_init_7 (fun q1 cA H hKn hP hD hS => ?_)
  obtain rfl := m_cyI hKn
  have hP : va_P E.1 vwCl ((([(h0, .inr (3, [.null, .int 0, .null, .null, .int 0, .int 0, .int 0]))] : va_W)) ++ (([(q1, .inl (E.2.2.1, 100, .inl (fun _ => 0)))] : va_W))) H := hP
  have hD : va_D A ((([(h0, .inr (3, [.null, .int 0, .null, .null, .int 0, .int 0, .int 0]))] : va_W)) ++ (([(q1, .inl (E.2.2.1, 100, .inl (fun _ => 0)))] : va_W))) := hD
  refine W.widen (k := 1) (n := 100) (Nat.le_of_ble_eq_true rfl) (Nat.le_of_ble_eq_true rfl) ?_
  refine W.eq (g2 := F0 m 9 ls [.ref q1, .ref h0]) rfl ?_
  refine va_putF (D := E.1) (ci := 3) (v := .ref q1) (ty := .array .int) (C := RX3) (T := TX3) (N := 7) hx hb hts k2 tyX3 tyX3_ok nmX3 hown hK hP hD hS 0 rfl rfl 0 (by decide) k1 (fun _ h9 => h9) rfl hin rfl (by decide +kernel) rfl rfl (Nat.le_of_ble_eq_true rfl) dX3_init_9 (fun H locs hP hD hS => ?_)
  have hP : va_P E.1 vwCl ((([(h0, .inr (3, [.ref q1, .int 0, .null, .null, .int 0, .int 0, .int 0]))] : va_W)) ++ (([(q1, .inl (E.2.2.1, 100, .inl (fun _ => 0)))] : va_W))) H := hP
  have hD : va_D A ((([(h0, .inr (3, [.ref q1, .int 0, .null, .null, .int 0, .int 0, .int 0]))] : va_W)) ++ (([(q1, .inl (E.2.2.1, 100, .inl (fun _ => 0)))] : va_W))) := hD
  refine lv_aload_n hx hb dX3_init_12 rfl (lv_at hl 0 rfl) ?_
  refine lv_iconst (v := 0) hx hb dX3_init_13 (by decide) ?_
  refine va_put (D := E.1) (ci := 3) (v := .int 0) (ty := .int) (C := RX3) (T := TX3) (N := 7) hx hb hts k2 tyX3 tyX3_ok nmX3 hown hK hP hD hS 0 rfl rfl 1 (by decide) k3 (fun _ h9 => h9) rfl (by decide +kernel) rfl rfl (Nat.le_of_ble_eq_true rfl) dX3_init_14 (fun H locs hP hD hS => ?_)
  have hP : va_P E.1 vwCl ((([(h0, .inr (3, [.ref q1, .int 0, .null, .null, .int 0, .int 0, .int 0]))] : va_W)) ++ (([(q1, .inl (E.2.2.1, 100, .inl (fun _ => 0)))] : va_W))) H := hP
  have hD : va_D A ((([(h0, .inr (3, [.ref q1, .int 0, .null, .null, .int 0, .int 0, .int 0]))] : va_W)) ++ (([(q1, .inl (E.2.2.1, 100, .inl (fun _ => 0)))] : va_W))) := hD
  refine lv_aload_n hx hb dX3_init_17 rfl (lv_at hl 0 rfl) ?_
  refine lv_bipush (v := 10) hx hb dX3_init_18 (by decide) ?_
  refine va_newa (atype := .int) (ty := .int) (a0 := (10, .inl (fun _ => 0))) hx hb k0 rfl hK hP hD hS hA (fun _ => rfl) (by decide) (by decide) (by decide) (Nat.le_of_ble_eq_true rfl) (Nat.le_of_ble_eq_true rfl) dX3_init_20 (fun q2 cA H hKn hP hD hS => ?_)
  obtain rfl := m_cyI hKn
  have hP : va_P E.1 vwCl ((([(h0, .inr (3, [.ref q1, .int 0, .null, .null, .int 0, .int 0, .int 0]))] : va_W)) ++ ((([(q1, .inl (E.2.2.1, 100, .inl (fun _ => 0)))] : va_W)) ++ (([(q2, .inl (E.2.2.1, 10, .inl (fun _ => 0)))] : va_W)))) H := hP
  have hD : va_D A ((([(h0, .inr (3, [.ref q1, .int 0, .null, .null, .int 0, .int 0, .int 0]))] : va_W)) ++ ((([(q1, .inl (E.2.2.1, 100, .inl (fun _ => 0)))] : va_W)) ++ (([(q2, .inl (E.2.2.1, 10, .inl (fun _ => 0)))] : va_W)))) := hD
  refine W.widen (k := 2) (n := 110) (Nat.le_of_ble_eq_true rfl) (Nat.le_of_ble_eq_true rfl) ?_
  refine W.eq (g2 := F0 m 22 ls [.ref q2, .ref h0]) rfl ?_
  refine va_putF (D := E.1) (ci := 3) (v := .ref q2) (ty := .array .int) (C := RX3) (T := TX3) (N := 7) hx hb hts k2 tyX3 tyX3_ok nmX3 hown hK hP hD hS 0 rfl rfl 2 (by decide) k4 (fun _ h9 => h9) rfl hin rfl (by decide +kernel) rfl rfl (Nat.le_of_ble_eq_true rfl) dX3_init_22 (fun H locs hP hD hS => ?_)
  have hP : va_P E.1 vwCl ((([(h0, .inr (3, [.ref q1, .int 0, .ref q2, .null, .int 0, .int 0, .int 0]))] : va_W)) ++ ((([(q1, .inl (E.2.2.1, 100, .inl (fun _ => 0)))] : va_W)) ++ (([(q2, .inl (E.2.2.1, 10, .inl (fun _ => 0)))] : va_W)))) H := hP
  have hD : va_D A ((([(h0, .inr (3, [.ref q1, .int 0, .ref q2, .null, .int 0, .int 0, .int 0]))] : va_W)) ++ ((([(q1, .inl (E.2.2.1, 100, .inl (fun _ => 0)))] : va_W)) ++ (([(q2, .inl (E.2.2.1, 10, .inl (fun _ => 0)))] : va_W)))) := hD
  refine lv_aload_n hx hb dX3_init_25 rfl (lv_at hl 0 rfl) ?_
  refine lv_bipush (v := 10) hx hb dX3_init_26 (by decide) ?_
  refine va_newa (atype := .int) (ty := .int) (a0 := (10, .inl (fun _ => 0))) hx hb k0 rfl hK hP hD hS hA (fun _ => rfl) (by decide) (by decide) (by decide) (Nat.le_of_ble_eq_true rfl) (Nat.le_of_ble_eq_true rfl) dX3_init_28 (fun q3 cA H hKn hP hD hS => ?_)
  obtain rfl := m_cyI hKn
  have hP : va_P E.1 vwCl ((([(h0, .inr (3, [.ref q1, .int 0, .ref q2, .null, .int 0, .int 0, .int 0]))] : va_W)) ++ ((([(q1, .inl (E.2.2.1, 100, .inl (fun _ => 0)))] : va_W)) ++ ((([(q2, .inl (E.2.2.1, 10, .inl (fun _ => 0)))] : va_W)) ++ (([(q3, .inl (E.2.2.1, 10, .inl (fun _ => 0)))] : va_W))))) H := hP
  have hD : va_D A ((([(h0, .inr (3, [.ref q1, .int 0, .ref q2, .null, .int 0, .int 0, .int 0]))] : va_W)) ++ ((([(q1, .inl (E.2.2.1, 100, .inl (fun _ => 0)))] : va_W)) ++ ((([(q2, .inl (E.2.2.1, 10, .inl (fun _ => 0)))] : va_W)) ++ (([(q3, .inl (E.2.2.1, 10, .inl (fun _ => 0)))] : va_W))))) := hD
  refine W.widen (k := 3) (n := 120) (Nat.le_of_ble_eq_true rfl) (Nat.le_of_ble_eq_true rfl) ?_
  refine W.eq (g2 := F0 m 30 ls [.ref q3, .ref h0]) rfl ?_
  refine va_putF (D := E.1) (ci := 3) (v := .ref q3) (ty := .array .int) (C := RX3) (T := TX3) (N := 7) hx hb hts k2 tyX3 tyX3_ok nmX3 hown hK hP hD hS 0 rfl rfl 3 (by decide) k5 (fun _ h9 => h9) rfl hin rfl (by decide +kernel) rfl rfl (Nat.le_of_ble_eq_true rfl) dX3_init_30 (fun H locs hP hD hS => ?_)
  have hP : va_P E.1 vwCl ((([(h0, .inr (3, [.ref q1, .int 0, .ref q2, .ref q3, .int 0, .int 0, .int 0]))] : va_W)) ++ ((([(q1, .inl (E.2.2.1, 100, .inl (fun _ => 0)))] : va_W)) ++ ((([(q2, .inl (E.2.2.1, 10, .inl (fun _ => 0)))] : va_W)) ++ (([(q3, .inl (E.2.2.1, 10, .inl (fun _ => 0)))] : va_W))))) H := hP
  have hD : va_D A ((([(h0, .inr (3, [.ref q1, .int 0, .ref q2, .ref q3, .int 0, .int 0, .int 0]))] : va_W)) ++ ((([(q1, .inl (E.2.2.1, 100, .inl (fun _ => 0)))] : va_W)) ++ ((([(q2, .inl (E.2.2.1, 10, .inl (fun _ => 0)))] : va_W)) ++ (([(q3, .inl (E.2.2.1, 10, .inl (fun _ => 0)))] : va_W))))) := hD
  refine lv_aload_n hx hb dX3_init_33 rfl (lv_at hl 0 rfl) ?_
  refine lv_iconst (v := 0) hx hb dX3_init_34 (by decide) ?_
  refine va_put (D := E.1) (ci := 3) (v := .int 0) (ty := .int) (C := RX3) (T := TX3) (N := 7) hx hb hts k2 tyX3 tyX3_ok nmX3 hown hK hP hD hS 0 rfl rfl 4 (by decide) k6 (fun _ h9 => h9) rfl (by decide +kernel) rfl rfl (Nat.le_of_ble_eq_true rfl) dX3_init_35 (fun H locs hP hD hS => ?_)
  have hP : va_P E.1 vwCl ((([(h0, .inr (3, [.ref q1, .int 0, .ref q2, .ref q3, .int 0, .int 0, .int 0]))] : va_W)) ++ ((([(q1, .inl (E.2.2.1, 100, .inl (fun _ => 0)))] : va_W)) ++ ((([(q2, .inl (E.2.2.1, 10, .inl (fun _ => 0)))] : va_W)) ++ (([(q3, .inl (E.2.2.1, 10, .inl (fun _ => 0)))] : va_W))))) H := hP
  have hD : va_D A ((([(h0, .inr (3, [.ref q1, .int 0, .ref q2, .ref q3, .int 0, .int 0, .int 0]))] : va_W)) ++ ((([(q1, .inl (E.2.2.1, 100, .inl (fun _ => 0)))] : va_W)) ++ ((([(q2, .inl (E.2.2.1, 10, .inl (fun _ => 0)))] : va_W)) ++ (([(q3, .inl (E.2.2.1, 10, .inl (fun _ => 0)))] : va_W))))) := hD
  refine lv_aload_n hx hb dX3_init_38 rfl (lv_at hl 0 rfl) ?_
  refine lv_bipush (v := 60) hx hb dX3_init_39 (by decide) ?_
  refine va_put (D := E.1) (ci := 3) (v := .int 60) (ty := .int) (C := RX3) (T := TX3) (N := 7) hx hb hts k2 tyX3 tyX3_ok nmX3 hown hK hP hD hS 0 rfl rfl 5 (by decide) k7 (fun _ h9 => h9) rfl (by decide +kernel) rfl rfl (Nat.le_of_ble_eq_true rfl) dX3_init_41 (fun H locs hP hD hS => ?_)
  have hP : va_P E.1 vwCl ((([(h0, .inr (3, [.ref q1, .int 0, .ref q2, .ref q3, .int 0, .int 60, .int 0]))] : va_W)) ++ ((([(q1, .inl (E.2.2.1, 100, .inl (fun _ => 0)))] : va_W)) ++ ((([(q2, .inl (E.2.2.1, 10, .inl (fun _ => 0)))] : va_W)) ++ (([(q3, .inl (E.2.2.1, 10, .inl (fun _ => 0)))] : va_W))))) H := hP
  have hD : va_D A ((([(h0, .inr (3, [.ref q1, .int 0, .ref q2, .ref q3, .int 0, .int 60, .int 0]))] : va_W)) ++ ((([(q1, .inl (E.2.2.1, 100, .inl (fun _ => 0)))] : va_W)) ++ ((([(q2, .inl (E.2.2.1, 10, .inl (fun _ => 0)))] : va_W)) ++ (([(q3, .inl (E.2.2.1, 10, .inl (fun _ => 0)))] : va_W))))) := hD
  refine lv_aload_n hx hb dX3_init_44 rfl (lv_at hl 0 rfl) ?_
  refine lv_iconst (v := 2) hx hb dX3_init_45 (by decide) ?_
  refine va_put (D := E.1) (ci := 3) (v := .int 2) (ty := .int) (C := RX3) (T := TX3) (N := 7) hx hb hts k2 tyX3 tyX3_ok nmX3 hown hK hP hD hS 0 rfl rfl 6 (by decide) k8 (fun _ h9 => h9) rfl (by decide +kernel) rfl rfl (Nat.le_of_ble_eq_true rfl) dX3_init_46 (fun H locs hP hD hS => ?_)
  have hP : va_P E.1 vwCl ((([(h0, .inr (3, [.ref q1, .int 0, .ref q2, .ref q3, .int 0, .int 60, .int 2]))] : va_W)) ++ ((([(q1, .inl (E.2.2.1, 100, .inl (fun _ => 0)))] : va_W)) ++ ((([(q2, .inl (E.2.2.1, 10, .inl (fun _ => 0)))] : va_W)) ++ (([(q3, .inl (E.2.2.1, 10, .inl (fun _ => 0)))] : va_W))))) H := hP
  have hD : va_D A ((([(h0, .inr (3, [.ref q1, .int 0, .ref q2, .ref q3, .int 0, .int 60, .int 2]))] : va_W)) ++ ((([(q1, .inl (E.2.2.1, 100, .inl (fun _ => 0)))] : va_W)) ++ ((([(q2, .inl (E.2.2.1, 10, .inl (fun _ => 0)))] : va_W)) ++ (([(q3, .inl (E.2.2.1, 10, .inl (fun _ => 0)))] : va_W))))) := hD
  have hP : va_P E.1 vwCl (Lesson_c E (h0, q1, q2, q3) Lesson_0) H := hP
  have hD : va_D A (Lesson_c E (h0, q1, q2, q3) Lesson_0) := hD
  rw [hQ]
  refine W.widen (k := 3) (n := 120) (Nat.le_of_ble_eq_true rfl) (Nat.le_of_ble_eq_true rfl) ?_
  exact W.vret hx hb hr (fun t ht _ => ⟨⟨(h0, q1, q2, q3), rfl, rfl, by rw [ht]; exact hP, hD⟩, hS.F ht⟩) hS.2.2 dX3_init_49
abbrev rmX6_init_5 : Room := { frames := 1, cells := 2, slots := 10, locals := 21 }
set_option maxRecDepth 100000 in
set_option maxHeartbeats 400000 in
theorem c_X6_init_5 (l : Launch) (E : mE) (h0 sz : Nat) : Met l yX6_init wsX6_init rmX6_init_5 (mPm E [.ref h0, .int 5] sz (([(h0, .inr (6, [.null, .null, .int 0]))] : va_W)) []) (mSx E (fun _ => none) (fun u : RowsA => (Rows_c E u (Rows_0 5))) (fun u : RowsA => Rowsa_self u = h0) (va_A (([(h0, .inr (6, [.null, .null, .int 0]))] : va_W)) sz)) 2 10 (va_A (([(h0, .inr (6, [.null, .null, .int 0]))] : va_W)) sz) := by
  refine mOfX (QA := fun A => mSx E (fun _ => none) (fun u : RowsA => (Rows_c E u (Rows_0 5))) (fun u : RowsA => Rowsa_self u = h0) A) (cc := cX6_init) (maxL := 3) (ret := none) (by decide) rfl (Nat.le_of_ble_eq_true rfl) ?_
  intro p e_ s m args below meth c Q A hQ CC hr hlocks hin hA hP hD hKN hGl hR0 hRA ls hl
  have hS : va_S A s.heap s.heap [] := va_S.rf
  have hin : meth.name = "<init>" := hin
  have hK := hKN.1
  have hx := CC.1
  have hb := CC.2.1
  have hml := CC.2.2.1
  have hown : s.vm.findClass RX6 = some m.cls := CC.2.2.2.1
  have hts := CC.2.2.2.2
  have hl : lv_has ls 3 [(0, .ref h0), (1, .int 5)] := hl
  have k0 := hts (.fieldLink RX6 7 "OneDidAll$Rows" "size" "I") (by decide +kernel)
  have k1 := (show ∀ w ∈ u_ws RX6 TX6 3, w ∈ wsX6_init by decide +kernel)
  have k2 := hts (.methodLink RX6 13 Lib.Math.max.name) (by decide +kernel)
  have k3 := hts (.static Lib.Math.max.name) (by decide +kernel)
  have k4 := hts (.initialized "java/lang/Math") (by decide +kernel)
  have k5 := hts (.code Lib.Math.max.name Lib.Math.max.code 2 (some .int)) (by decide +kernel)
  have k6 := hts (.arrayClass .int) (by decide +kernel)
  have k7 := hts (.fieldLink RX6 19 "OneDidAll$Rows" "firsts" "[I") (by decide +kernel)
  have k8 := hts (.fieldLink RX6 23 "OneDidAll$Rows" "seconds" "[I") (by decide +kernel)
  have hP : va_P E.1 vwCl (([(h0, .inr (6, [.null, .null, .int 0]))] : va_W)) s.heap := hP
  obtain ⟨H, hH⟩ : ∃ H, H = s.heap := ⟨_, rfl⟩
  obtain ⟨locs, hlc⟩ : ∃ z : List Loc, z = [] := ⟨_, rfl⟩
  rw [← hH] at hP
  rw [← hlc] at hS
  have hS : va_S A s.heap H locs := by rw [hH]; exact hS
  rw [← hH, ← hlc]
  refine lv_aload_n hx hb dX6_init_0 rfl (lv_at hl 0 rfl) ?_
  refine W.objInit hx hb hown (hts (.methodLink RX6 1 objectInit) (by decide +kernel)) (hts (.instanceMethod objectInit) (by decide +kernel)) (hts (.code objectInit ⟨#[0xb1]⟩ 1 none) (by decide +kernel)) rfl (by rw [hml]; exact hl.1) rfl dX6_init_1 (Nat.le_of_ble_eq_true rfl) (Nat.le_of_ble_eq_true rfl) ?_
  refine W.eq (g2 := F0 m 4 ls []) rfl ?_
  refine lv_aload_n hx hb dX6_init_4 rfl (lv_at hl 0 rfl) ?_
  refine lv_iconst (v := 0) hx hb dX6_init_5 (by decide) ?_
  refine va_put (D := E.1) (ci := 6) (v := .int 0) (ty := .int) (C := RX6) (T := TX6) (N := 3) hx hb hts k1 tyX6 tyX6_ok nmX6 hown hK hP hD hS 0 rfl rfl 2 (by decide) k0 (fun _ h9 => h9) rfl (by decide +kernel) rfl rfl (Nat.le_of_ble_eq_true rfl) dX6_init_6 (fun H locs hP hD hS => ?_)
  have hP : va_P E.1 vwCl (([(h0, .inr (6, [.null, .null, .int 0]))] : va_W)) H := hP
  have hD : va_D A (([(h0, .inr (6, [.null, .null, .int 0]))] : va_W)) := hD
  refine lv_iconst (v := 0) hx hb dX6_init_9 (by decide) ?_
  refine lv_iload_n hx hb dX6_init_10 rfl (lv_at hl 1 rfl) ?_
  refine va_mmax hx hb (hml.trans hl.1.symm) hown k2 k3 k4 k5 (Nat.le_of_ble_eq_true rfl) (Nat.le_of_ble_eq_true rfl) (Nat.zero_le _) (Nat.zero_le _) dX6_init_11 ?_
  refine W.eq (g2 := F0 m 14 ls [.int 5]) rfl ?_
  refine lv_istore_n (lv' := [(2, .int 5), (0, .ref h0), (1, .int 5)]) hx hb dX6_init_14 rfl hl (by decide) rfl (fun ls hl => ?_)
  refine lv_aload_n hx hb dX6_init_15 rfl (lv_at hl 1 rfl) ?_
  refine lv_iload_n hx hb dX6_init_16 rfl (lv_at hl 0 rfl) ?_
  refine va_newa (atype := .int) (ty := .int) (a0 := (5, .inl (fun _ => 0))) hx hb k6 rfl hK hP hD hS hA (fun _ => rfl) (by decide) (by decide) (by decide) (Nat.le_of_ble_eq_true rfl) (Nat.le_of_ble_eq_true rfl) dX6_init_17 (fun q1 cA H hKn hP hD hS => ?_)
  obtain rfl := m_cyI hKn
  have hP : va_P E.1 vwCl ((([(h0, .inr (6, [.null, .null, .int 0]))] : va_W)) ++ (([(q1, .inl (E.2.2.1, 5, .inl (fun _ => 0)))] : va_W))) H := hP
  have hD : va_D A ((([(h0, .inr (6, [.null, .null, .int 0]))] : va_W)) ++ (([(q1, .inl (E.2.2.1, 5, .inl (fun _ => 0)))] : va_W))) := hD
  refine W.widen (k := 1) (n := 5) (Nat.le_of_ble_eq_true rfl) (Nat.le_of_ble_eq_true rfl) ?_
  refine W.eq (g2 := F0 m 19 ls [.ref q1, .ref h0]) rfl ?_
  refine va_putF (D := E.1) (ci := 6) (v := .ref q1) (ty := .array .int) (C := RX6) (T := TX6) (N := 3) hx hb hts k1 tyX6 tyX6_ok nmX6 hown hK hP hD hS 0 rfl rfl 0 (by decide) k7 (fun _ h9 => h9) rfl hin rfl (by decide +kernel) rfl rfl (Nat.le_of_ble_eq_true rfl) dX6_init_19 (fun H locs hP hD hS => ?_)
  have hP : va_P E.1 vwCl ((([(h0, .inr (6, [.ref q1, .null, .int 0]))] : va_W)) ++ (([(q1, .inl (E.2.2.1, 5, .inl (fun _ => 0)))] : va_W))) H := hP
  have hD : va_D A ((([(h0, .inr (6, [.ref q1, .null, .int 0]))] : va_W)) ++ (([(q1, .inl (E.2.2.1, 5, .inl (fun _ => 0)))] : va_W))) := hD
  refine lv_aload_n hx hb dX6_init_22 rfl (lv_at hl 1 rfl) ?_
  refine lv_iload_n hx hb dX6_init_23 rfl (lv_at hl 0 rfl) ?_
  refine va_newa (atype := .int) (ty := .int) (a0 := (5, .inl (fun _ => 0))) hx hb k6 rfl hK hP hD hS hA (fun _ => rfl) (by decide) (by decide) (by decide) (Nat.le_of_ble_eq_true rfl) (Nat.le_of_ble_eq_true rfl) dX6_init_24 (fun q2 cA H hKn hP hD hS => ?_)
  obtain rfl := m_cyI hKn
  have hP : va_P E.1 vwCl ((([(h0, .inr (6, [.ref q1, .null, .int 0]))] : va_W)) ++ ((([(q1, .inl (E.2.2.1, 5, .inl (fun _ => 0)))] : va_W)) ++ (([(q2, .inl (E.2.2.1, 5, .inl (fun _ => 0)))] : va_W)))) H := hP
  have hD : va_D A ((([(h0, .inr (6, [.ref q1, .null, .int 0]))] : va_W)) ++ ((([(q1, .inl (E.2.2.1, 5, .inl (fun _ => 0)))] : va_W)) ++ (([(q2, .inl (E.2.2.1, 5, .inl (fun _ => 0)))] : va_W)))) := hD
  refine W.widen (k := 2) (n := 10) (Nat.le_of_ble_eq_true rfl) (Nat.le_of_ble_eq_true rfl) ?_
  refine W.eq (g2 := F0 m 26 ls [.ref q2, .ref h0]) rfl ?_
  refine va_putF (D := E.1) (ci := 6) (v := .ref q2) (ty := .array .int) (C := RX6) (T := TX6) (N := 3) hx hb hts k1 tyX6 tyX6_ok nmX6 hown hK hP hD hS 0 rfl rfl 1 (by decide) k8 (fun _ h9 => h9) rfl hin rfl (by decide +kernel) rfl rfl (Nat.le_of_ble_eq_true rfl) dX6_init_26 (fun H locs hP hD hS => ?_)
  have hP : va_P E.1 vwCl ((([(h0, .inr (6, [.ref q1, .ref q2, .int 0]))] : va_W)) ++ ((([(q1, .inl (E.2.2.1, 5, .inl (fun _ => 0)))] : va_W)) ++ (([(q2, .inl (E.2.2.1, 5, .inl (fun _ => 0)))] : va_W)))) H := hP
  have hD : va_D A ((([(h0, .inr (6, [.ref q1, .ref q2, .int 0]))] : va_W)) ++ ((([(q1, .inl (E.2.2.1, 5, .inl (fun _ => 0)))] : va_W)) ++ (([(q2, .inl (E.2.2.1, 5, .inl (fun _ => 0)))] : va_W)))) := hD
  have hP : va_P E.1 vwCl (Rows_c E (h0, q1, q2) (Rows_0 5)) H := hP
  have hD : va_D A (Rows_c E (h0, q1, q2) (Rows_0 5)) := hD
  rw [hQ]
  refine W.widen (k := 2) (n := 10) (Nat.le_of_ble_eq_true rfl) (Nat.le_of_ble_eq_true rfl) ?_
  exact W.vret hx hb hr (fun t ht _ => ⟨⟨(h0, q1, q2), rfl, rfl, by rw [ht]; exact hP, hD⟩, hS.F ht⟩) hS.2.2 dX6_init_29
abbrev rmX6_init_8 : Room := { frames := 1, cells := 2, slots := 16, locals := 21 }
set_option maxRecDepth 100000 in
set_option maxHeartbeats 400000 in
theorem c_X6_init_8 (l : Launch) (E : mE) (h0 sz : Nat) : Met l yX6_init wsX6_init rmX6_init_8 (mPm E [.ref h0, .int 8] sz (([(h0, .inr (6, [.null, .null, .int 0]))] : va_W)) []) (mSx E (fun _ => none) (fun u : RowsA => (Rows_c E u (Rows_0 8))) (fun u : RowsA => Rowsa_self u = h0) (va_A (([(h0, .inr (6, [.null, .null, .int 0]))] : va_W)) sz)) 2 16 (va_A (([(h0, .inr (6, [.null, .null, .int 0]))] : va_W)) sz) := by
  refine mOfX (QA := fun A => mSx E (fun _ => none) (fun u : RowsA => (Rows_c E u (Rows_0 8))) (fun u : RowsA => Rowsa_self u = h0) A) (cc := cX6_init) (maxL := 3) (ret := none) (by decide) rfl (Nat.le_of_ble_eq_true rfl) ?_
  intro p e_ s m args below meth c Q A hQ CC hr hlocks hin hA hP hD hKN hGl hR0 hRA ls hl
  have hS : va_S A s.heap s.heap [] := va_S.rf
  have hin : meth.name = "<init>" := hin
  have hK := hKN.1
  have hx := CC.1
  have hb := CC.2.1
  have hml := CC.2.2.1
  have hown : s.vm.findClass RX6 = some m.cls := CC.2.2.2.1
  have hts := CC.2.2.2.2
  have hl : lv_has ls 3 [(0, .ref h0), (1, .int 8)] := hl
  have k0 := hts (.fieldLink RX6 7 "OneDidAll$Rows" "size" "I") (by decide +kernel)
  have k1 := (show ∀ w ∈ u_ws RX6 TX6 3, w ∈ wsX6_init by decide +kernel)
  have k2 := hts (.methodLink RX6 13 Lib.Math.max.name) (by decide +kernel)
  have k3 := hts (.static Lib.Math.max.name) (by decide +kernel)
  have k4 := hts (.initialized "java/lang/Math") (by decide +kernel)
  have k5 := hts (.code Lib.Math.max.name Lib.Math.max.code 2 (some .int)) (by decide +kernel)
  have k6 := hts (.arrayClass .int) (by decide +kernel)
  have k7 := hts (.fieldLink RX6 19 "OneDidAll$Rows" "firsts" "[I") (by decide +kernel)
  have k8 := hts (.fieldLink RX6 23 "OneDidAll$Rows" "seconds" "[I") (by decide +kernel)
  have hP : va_P E.1 vwCl (([(h0, .inr (6, [.null, .null, .int 0]))] : va_W)) s.heap := hP
  obtain ⟨H, hH⟩ : ∃ H, H = s.heap := ⟨_, rfl⟩
  obtain ⟨locs, hlc⟩ : ∃ z : List Loc, z = [] := ⟨_, rfl⟩
  rw [← hH] at hP
  rw [← hlc] at hS
  have hS : va_S A s.heap H locs := by rw [hH]; exact hS
  rw [← hH, ← hlc]
  refine lv_aload_n hx hb dX6_init_0 rfl (lv_at hl 0 rfl) ?_
  refine W.objInit hx hb hown (hts (.methodLink RX6 1 objectInit) (by decide +kernel)) (hts (.instanceMethod objectInit) (by decide +kernel)) (hts (.code objectInit ⟨#[0xb1]⟩ 1 none) (by decide +kernel)) rfl (by rw [hml]; exact hl.1) rfl dX6_init_1 (Nat.le_of_ble_eq_true rfl) (Nat.le_of_ble_eq_true rfl) ?_
  refine W.eq (g2 := F0 m 4 ls []) rfl ?_
  refine lv_aload_n hx hb dX6_init_4 rfl (lv_at hl 0 rfl) ?_
  refine lv_iconst (v := 0) hx hb dX6_init_5 (by decide) ?_
  refine va_put (D := E.1) (ci := 6) (v := .int 0) (ty := .int) (C := RX6) (T := TX6) (N := 3) hx hb hts k1 tyX6 tyX6_ok nmX6 hown hK hP hD hS 0 rfl rfl 2 (by decide) k0 (fun _ h9 => h9) rfl (by decide +kernel) rfl rfl (Nat.le_of_ble_eq_true rfl) dX6_init_6 (fun H locs hP hD hS => ?_)
  have hP : va_P E.1 vwCl (([(h0, .inr (6, [.null, .null, .int 0]))] : va_W)) H := hP
  have hD : va_D A (([(h0, .inr (6, [.null, .null, .int 0]))] : va_W)) := hD
  refine lv_iconst (v := 0) hx hb dX6_init_9 (by decide) ?_
  refine lv_iload_n hx hb dX6_init_10 rfl (lv_at hl 1 rfl) ?_
  refine va_mmax hx hb (hml.trans hl.1.symm) hown k2 k3 k4 k5 (Nat.le_of_ble_eq_true rfl) (Nat.le_of_ble_eq_true rfl) (Nat.zero_le _) (Nat.zero_le _) dX6_init_11 ?_
  refine W.eq (g2 := F0 m 14 ls [.int 8]) rfl ?_
  refine lv_istore_n (lv' := [(2, .int 8), (0, .ref h0), (1, .int 8)]) hx hb dX6_init_14 rfl hl (by decide) rfl (fun ls hl => ?_)
  refine lv_aload_n hx hb dX6_init_15 rfl (lv_at hl 1 rfl) ?_
  refine lv_iload_n hx hb dX6_init_16 rfl (lv_at hl 0 rfl) ?_
  refine va_newa (atype := .int) (ty := .int) (a0 := (8, .inl (fun _ => 0))) hx hb k6 rfl hK hP hD hS hA (fun _ => rfl) (by decide) (by decide) (by decide) (Nat.le_of_ble_eq_true rfl) (Nat.le_of_ble_eq_true rfl) dX6_init_17 (fun q1 cA H hKn hP hD hS => ?_)
  obtain rfl := m_cyI hKn
  have hP : va_P E.1 vwCl ((([(h0, .inr (6, [.null, .null, .int 0]))] : va_W)) ++ (([(q1, .inl (E.2.2.1, 8, .inl (fun _ => 0)))] : va_W))) H := hP
  have hD : va_D A ((([(h0, .inr (6, [.null, .null, .int 0]))] : va_W)) ++ (([(q1, .inl (E.2.2.1, 8, .inl (fun _ => 0)))] : va_W))) := hD
  refine W.widen (k := 1) (n := 8) (Nat.le_of_ble_eq_true rfl) (Nat.le_of_ble_eq_true rfl) ?_
  refine W.eq (g2 := F0 m 19 ls [.ref q1, .ref h0]) rfl ?_
  refine va_putF (D := E.1) (ci := 6) (v := .ref q1) (ty := .array .int) (C := RX6) (T := TX6) (N := 3) hx hb hts k1 tyX6 tyX6_ok nmX6 hown hK hP hD hS 0 rfl rfl 0 (by decide) k7 (fun _ h9 => h9) rfl hin rfl (by decide +kernel) rfl rfl (Nat.le_of_ble_eq_true rfl) dX6_init_19 (fun H locs hP hD hS => ?_)
  have hP : va_P E.1 vwCl ((([(h0, .inr (6, [.ref q1, .null, .int 0]))] : va_W)) ++ (([(q1, .inl (E.2.2.1, 8, .inl (fun _ => 0)))] : va_W))) H := hP
  have hD : va_D A ((([(h0, .inr (6, [.ref q1, .null, .int 0]))] : va_W)) ++ (([(q1, .inl (E.2.2.1, 8, .inl (fun _ => 0)))] : va_W))) := hD
  refine lv_aload_n hx hb dX6_init_22 rfl (lv_at hl 1 rfl) ?_
  refine lv_iload_n hx hb dX6_init_23 rfl (lv_at hl 0 rfl) ?_
  refine va_newa (atype := .int) (ty := .int) (a0 := (8, .inl (fun _ => 0))) hx hb k6 rfl hK hP hD hS hA (fun _ => rfl) (by decide) (by decide) (by decide) (Nat.le_of_ble_eq_true rfl) (Nat.le_of_ble_eq_true rfl) dX6_init_24 (fun q2 cA H hKn hP hD hS => ?_)
  obtain rfl := m_cyI hKn
  have hP : va_P E.1 vwCl ((([(h0, .inr (6, [.ref q1, .null, .int 0]))] : va_W)) ++ ((([(q1, .inl (E.2.2.1, 8, .inl (fun _ => 0)))] : va_W)) ++ (([(q2, .inl (E.2.2.1, 8, .inl (fun _ => 0)))] : va_W)))) H := hP
  have hD : va_D A ((([(h0, .inr (6, [.ref q1, .null, .int 0]))] : va_W)) ++ ((([(q1, .inl (E.2.2.1, 8, .inl (fun _ => 0)))] : va_W)) ++ (([(q2, .inl (E.2.2.1, 8, .inl (fun _ => 0)))] : va_W)))) := hD
  refine W.widen (k := 2) (n := 16) (Nat.le_of_ble_eq_true rfl) (Nat.le_of_ble_eq_true rfl) ?_
  refine W.eq (g2 := F0 m 26 ls [.ref q2, .ref h0]) rfl ?_
  refine va_putF (D := E.1) (ci := 6) (v := .ref q2) (ty := .array .int) (C := RX6) (T := TX6) (N := 3) hx hb hts k1 tyX6 tyX6_ok nmX6 hown hK hP hD hS 0 rfl rfl 1 (by decide) k8 (fun _ h9 => h9) rfl hin rfl (by decide +kernel) rfl rfl (Nat.le_of_ble_eq_true rfl) dX6_init_26 (fun H locs hP hD hS => ?_)
  have hP : va_P E.1 vwCl ((([(h0, .inr (6, [.ref q1, .ref q2, .int 0]))] : va_W)) ++ ((([(q1, .inl (E.2.2.1, 8, .inl (fun _ => 0)))] : va_W)) ++ (([(q2, .inl (E.2.2.1, 8, .inl (fun _ => 0)))] : va_W)))) H := hP
  have hD : va_D A ((([(h0, .inr (6, [.ref q1, .ref q2, .int 0]))] : va_W)) ++ ((([(q1, .inl (E.2.2.1, 8, .inl (fun _ => 0)))] : va_W)) ++ (([(q2, .inl (E.2.2.1, 8, .inl (fun _ => 0)))] : va_W)))) := hD
  have hP : va_P E.1 vwCl (Rows_c E (h0, q1, q2) (Rows_0 8)) H := hP
  have hD : va_D A (Rows_c E (h0, q1, q2) (Rows_0 8)) := hD
  rw [hQ]
  refine W.widen (k := 2) (n := 16) (Nat.le_of_ble_eq_true rfl) (Nat.le_of_ble_eq_true rfl) ?_
  exact W.vret hx hb hr (fun t ht _ => ⟨⟨(h0, q1, q2), rfl, rfl, by rw [ht]; exact hP, hD⟩, hS.F ht⟩) hS.2.2 dX6_init_29
abbrev rmX8_init : Room := { frames := 1, cells := 7, slots := 1968, locals := 12 }
set_option maxRecDepth 100000 in
set_option maxHeartbeats 400000 in
theorem c_X8_init (l : Launch) (E : mE) (h0 sz : Nat) : Met l yX8_init wsX8_init rmX8_init (mPm E [.ref h0] sz (([(h0, .inr (8, [.int 0, .null, .null, .null, .int 0, .int 0, .int 0, .int 0, .int 0, .int 0, .null, .null, .null, .int 0, .int 0, .null, .int 0, .int 0, .int 0, .int 0]))] : va_W)) []) (mSx E (fun _ => none) (fun u : ModelA => (Model_c E u Model_0)) (fun u : ModelA => Modela_self u = h0) (va_A (([(h0, .inr (8, [.int 0, .null, .null, .null, .int 0, .int 0, .int 0, .int 0, .int 0, .int 0, .null, .null, .null, .int 0, .int 0, .null, .int 0, .int 0, .int 0, .int 0]))] : va_W)) sz)) 7 1968 (va_A (([(h0, .inr (8, [.int 0, .null, .null, .null, .int 0, .int 0, .int 0, .int 0, .int 0, .int 0, .null, .null, .null, .int 0, .int 0, .null, .int 0, .int 0, .int 0, .int 0]))] : va_W)) sz) := by
  refine mOfX (QA := fun A => mSx E (fun _ => none) (fun u : ModelA => (Model_c E u Model_0)) (fun u : ModelA => Modela_self u = h0) A) (cc := cX8_init) (maxL := 1) (ret := none) (by decide) rfl (Nat.le_of_ble_eq_true rfl) ?_
  intro p e_ s m args below meth c Q A hQ CC hr hlocks hin hA hP hD hKN hGl hR0 hRA ls hl
  have hS : va_S A s.heap s.heap [] := va_S.rf
  have hin : meth.name = "<init>" := hin
  have hK := hKN.1
  have hx := CC.1
  have hb := CC.2.1
  have hml := CC.2.2.1
  have hown : s.vm.findClass RX8 = some m.cls := CC.2.2.2.1
  have hts := CC.2.2.2.2
  have hl : lv_has ls 1 [(0, .ref h0)] := hl
  have k0 := hts (.arrayClass .int) (by decide +kernel)
  have k1 := hts (.fieldLink RX8 9 "OneDidAllModel" "s" "[I") (by decide +kernel)
  have k2 := (show ∀ w ∈ u_ws RX8 TX8 20, w ∈ wsX8_init by decide +kernel)
  have k3 := hts (.fieldLink RX8 15 "OneDidAllModel" "image" "[I") (by decide +kernel)
  have k4 := hts (.fieldLink RX8 18 "OneDidAllModel" "frame" "[I") (by decide +kernel)
  have k5 := hts (.fieldLink RX8 21 "OneDidAllModel" "by" "[I") (by decide +kernel)
  have k6 := hts (.arrayClass .boolean) (by decide +kernel)
  have k7 := hts (.fieldLink RX8 24 "OneDidAllModel" "truths" "[Z") (by decide +kernel)
  have k8 := hts (.fieldLink RX8 28 "OneDidAllModel" "does" "[I") (by decide +kernel)
  have k9 := hts (.fieldLink RX8 31 "OneDidAllModel" "bodies" "[I") (by decide +kernel)
  have hP : va_P E.1 vwCl (([(h0, .inr (8, [.int 0, .null, .null, .null, .int 0, .int 0, .int 0, .int 0, .int 0, .int 0, .null, .null, .null, .int 0, .int 0, .null, .int 0, .int 0, .int 0, .int 0]))] : va_W)) s.heap := hP
  obtain ⟨H, hH⟩ : ∃ H, H = s.heap := ⟨_, rfl⟩
  obtain ⟨locs, hlc⟩ : ∃ z : List Loc, z = [] := ⟨_, rfl⟩
  rw [← hH] at hP
  rw [← hlc] at hS
  have hS : va_S A s.heap H locs := by rw [hH]; exact hS
  rw [← hH, ← hlc]
  refine lv_aload_n hx hb dX8_init_0 rfl (lv_at hl 0 rfl) ?_
  refine W.objInit hx hb hown (hts (.methodLink RX8 3 objectInit) (by decide +kernel)) (hts (.instanceMethod objectInit) (by decide +kernel)) (hts (.code objectInit ⟨#[0xb1]⟩ 1 none) (by decide +kernel)) rfl (by rw [hml]; exact hl.1) rfl dX8_init_1 (Nat.le_of_ble_eq_true rfl) (Nat.le_of_ble_eq_true rfl) ?_
  refine W.eq (g2 := F0 m 4 ls []) rfl ?_
  refine lv_aload_n hx hb dX8_init_4 rfl (lv_at hl 0 rfl) ?_
  refine lv_sipush (v := 926) hx hb dX8_init_5 (by decide) ?_
  refine va_newa (atype := .int) (ty := .int) (a0 := (926, .inl (fun _ => 0))) hx hb k0 rfl hK hP hD hS hA (fun _ => rfl) (by decide) (by decide) (by decide) (Nat.le_of_ble_eq_true rfl) (Nat.le_of_ble_eq_true rfl) dX8_init_8 (fun q1 cA H hKn hP hD hS => ?_)
  obtain rfl := m_cyI hKn
  have hP : va_P E.1 vwCl ((([(h0, .inr (8, [.int 0, .null, .null, .null, .int 0, .int 0, .int 0, .int 0, .int 0, .int 0, .null, .null, .null, .int 0, .int 0, .null, .int 0, .int 0, .int 0, .int 0]))] : va_W)) ++ (([(q1, .inl (E.2.2.1, 926, .inl (fun _ => 0)))] : va_W))) H := hP
  have hD : va_D A ((([(h0, .inr (8, [.int 0, .null, .null, .null, .int 0, .int 0, .int 0, .int 0, .int 0, .int 0, .null, .null, .null, .int 0, .int 0, .null, .int 0, .int 0, .int 0, .int 0]))] : va_W)) ++ (([(q1, .inl (E.2.2.1, 926, .inl (fun _ => 0)))] : va_W))) := hD
  refine W.widen (k := 1) (n := 926) (Nat.le_of_ble_eq_true rfl) (Nat.le_of_ble_eq_true rfl) ?_
  refine W.eq (g2 := F0 m 10 ls [.ref q1, .ref h0]) rfl ?_
  refine va_putF (D := E.1) (ci := 8) (v := .ref q1) (ty := .array .int) (C := RX8) (T := TX8) (N := 20) hx hb hts k2 tyX8 tyX8_ok nmX8 hown hK hP hD hS 0 rfl rfl 1 (by decide) k1 (fun _ h9 => h9) rfl hin rfl (by decide +kernel) rfl rfl (Nat.le_of_ble_eq_true rfl) dX8_init_10 (fun H locs hP hD hS => ?_)
  have hP : va_P E.1 vwCl ((([(h0, .inr (8, [.int 0, .ref q1, .null, .null, .int 0, .int 0, .int 0, .int 0, .int 0, .int 0, .null, .null, .null, .int 0, .int 0, .null, .int 0, .int 0, .int 0, .int 0]))] : va_W)) ++ (([(q1, .inl (E.2.2.1, 926, .inl (fun _ => 0)))] : va_W))) H := hP
  have hD : va_D A ((([(h0, .inr (8, [.int 0, .ref q1, .null, .null, .int 0, .int 0, .int 0, .int 0, .int 0, .int 0, .null, .null, .null, .int 0, .int 0, .null, .int 0, .int 0, .int 0, .int 0]))] : va_W)) ++ (([(q1, .inl (E.2.2.1, 926, .inl (fun _ => 0)))] : va_W))) := hD
  refine lv_aload_n hx hb dX8_init_13 rfl (lv_at hl 0 rfl) ?_
  refine lv_sipush (v := 926) hx hb dX8_init_14 (by decide) ?_
  refine va_newa (atype := .int) (ty := .int) (a0 := (926, .inl (fun _ => 0))) hx hb k0 rfl hK hP hD hS hA (fun _ => rfl) (by decide) (by decide) (by decide) (Nat.le_of_ble_eq_true rfl) (Nat.le_of_ble_eq_true rfl) dX8_init_17 (fun q2 cA H hKn hP hD hS => ?_)
  obtain rfl := m_cyI hKn
  have hP : va_P E.1 vwCl ((([(h0, .inr (8, [.int 0, .ref q1, .null, .null, .int 0, .int 0, .int 0, .int 0, .int 0, .int 0, .null, .null, .null, .int 0, .int 0, .null, .int 0, .int 0, .int 0, .int 0]))] : va_W)) ++ ((([(q1, .inl (E.2.2.1, 926, .inl (fun _ => 0)))] : va_W)) ++ (([(q2, .inl (E.2.2.1, 926, .inl (fun _ => 0)))] : va_W)))) H := hP
  have hD : va_D A ((([(h0, .inr (8, [.int 0, .ref q1, .null, .null, .int 0, .int 0, .int 0, .int 0, .int 0, .int 0, .null, .null, .null, .int 0, .int 0, .null, .int 0, .int 0, .int 0, .int 0]))] : va_W)) ++ ((([(q1, .inl (E.2.2.1, 926, .inl (fun _ => 0)))] : va_W)) ++ (([(q2, .inl (E.2.2.1, 926, .inl (fun _ => 0)))] : va_W)))) := hD
  refine W.widen (k := 2) (n := 1852) (Nat.le_of_ble_eq_true rfl) (Nat.le_of_ble_eq_true rfl) ?_
  refine W.eq (g2 := F0 m 19 ls [.ref q2, .ref h0]) rfl ?_
  refine va_putF (D := E.1) (ci := 8) (v := .ref q2) (ty := .array .int) (C := RX8) (T := TX8) (N := 20) hx hb hts k2 tyX8 tyX8_ok nmX8 hown hK hP hD hS 0 rfl rfl 2 (by decide) k3 (fun _ h9 => h9) rfl hin rfl (by decide +kernel) rfl rfl (Nat.le_of_ble_eq_true rfl) dX8_init_19 (fun H locs hP hD hS => ?_)
  have hP : va_P E.1 vwCl ((([(h0, .inr (8, [.int 0, .ref q1, .ref q2, .null, .int 0, .int 0, .int 0, .int 0, .int 0, .int 0, .null, .null, .null, .int 0, .int 0, .null, .int 0, .int 0, .int 0, .int 0]))] : va_W)) ++ ((([(q1, .inl (E.2.2.1, 926, .inl (fun _ => 0)))] : va_W)) ++ (([(q2, .inl (E.2.2.1, 926, .inl (fun _ => 0)))] : va_W)))) H := hP
  have hD : va_D A ((([(h0, .inr (8, [.int 0, .ref q1, .ref q2, .null, .int 0, .int 0, .int 0, .int 0, .int 0, .int 0, .null, .null, .null, .int 0, .int 0, .null, .int 0, .int 0, .int 0, .int 0]))] : va_W)) ++ ((([(q1, .inl (E.2.2.1, 926, .inl (fun _ => 0)))] : va_W)) ++ (([(q2, .inl (E.2.2.1, 926, .inl (fun _ => 0)))] : va_W)))) := hD
  refine lv_aload_n hx hb dX8_init_22 rfl (lv_at hl 0 rfl) ?_
  refine lv_bipush (v := 20) hx hb dX8_init_23 (by decide) ?_
  refine va_newa (atype := .int) (ty := .int) (a0 := (20, .inl (fun _ => 0))) hx hb k0 rfl hK hP hD hS hA (fun _ => rfl) (by decide) (by decide) (by decide) (Nat.le_of_ble_eq_true rfl) (Nat.le_of_ble_eq_true rfl) dX8_init_25 (fun q3 cA H hKn hP hD hS => ?_)
  obtain rfl := m_cyI hKn
  have hP : va_P E.1 vwCl ((([(h0, .inr (8, [.int 0, .ref q1, .ref q2, .null, .int 0, .int 0, .int 0, .int 0, .int 0, .int 0, .null, .null, .null, .int 0, .int 0, .null, .int 0, .int 0, .int 0, .int 0]))] : va_W)) ++ ((([(q1, .inl (E.2.2.1, 926, .inl (fun _ => 0)))] : va_W)) ++ ((([(q2, .inl (E.2.2.1, 926, .inl (fun _ => 0)))] : va_W)) ++ (([(q3, .inl (E.2.2.1, 20, .inl (fun _ => 0)))] : va_W))))) H := hP
  have hD : va_D A ((([(h0, .inr (8, [.int 0, .ref q1, .ref q2, .null, .int 0, .int 0, .int 0, .int 0, .int 0, .int 0, .null, .null, .null, .int 0, .int 0, .null, .int 0, .int 0, .int 0, .int 0]))] : va_W)) ++ ((([(q1, .inl (E.2.2.1, 926, .inl (fun _ => 0)))] : va_W)) ++ ((([(q2, .inl (E.2.2.1, 926, .inl (fun _ => 0)))] : va_W)) ++ (([(q3, .inl (E.2.2.1, 20, .inl (fun _ => 0)))] : va_W))))) := hD
  refine W.widen (k := 3) (n := 1872) (Nat.le_of_ble_eq_true rfl) (Nat.le_of_ble_eq_true rfl) ?_
  refine W.eq (g2 := F0 m 27 ls [.ref q3, .ref h0]) rfl ?_
  refine va_putF (D := E.1) (ci := 8) (v := .ref q3) (ty := .array .int) (C := RX8) (T := TX8) (N := 20) hx hb hts k2 tyX8 tyX8_ok nmX8 hown hK hP hD hS 0 rfl rfl 3 (by decide) k4 (fun _ h9 => h9) rfl hin rfl (by decide +kernel) rfl rfl (Nat.le_of_ble_eq_true rfl) dX8_init_27 (fun H locs hP hD hS => ?_)
  have hP : va_P E.1 vwCl ((([(h0, .inr (8, [.int 0, .ref q1, .ref q2, .ref q3, .int 0, .int 0, .int 0, .int 0, .int 0, .int 0, .null, .null, .null, .int 0, .int 0, .null, .int 0, .int 0, .int 0, .int 0]))] : va_W)) ++ ((([(q1, .inl (E.2.2.1, 926, .inl (fun _ => 0)))] : va_W)) ++ ((([(q2, .inl (E.2.2.1, 926, .inl (fun _ => 0)))] : va_W)) ++ (([(q3, .inl (E.2.2.1, 20, .inl (fun _ => 0)))] : va_W))))) H := hP
  have hD : va_D A ((([(h0, .inr (8, [.int 0, .ref q1, .ref q2, .ref q3, .int 0, .int 0, .int 0, .int 0, .int 0, .int 0, .null, .null, .null, .int 0, .int 0, .null, .int 0, .int 0, .int 0, .int 0]))] : va_W)) ++ ((([(q1, .inl (E.2.2.1, 926, .inl (fun _ => 0)))] : va_W)) ++ ((([(q2, .inl (E.2.2.1, 926, .inl (fun _ => 0)))] : va_W)) ++ (([(q3, .inl (E.2.2.1, 20, .inl (fun _ => 0)))] : va_W))))) := hD
  refine lv_aload_n hx hb dX8_init_30 rfl (lv_at hl 0 rfl) ?_
  refine lv_bipush (v := 6) hx hb dX8_init_31 (by decide) ?_
  refine va_newa (atype := .int) (ty := .int) (a0 := (6, .inl (fun _ => 0))) hx hb k0 rfl hK hP hD hS hA (fun _ => rfl) (by decide) (by decide) (by decide) (Nat.le_of_ble_eq_true rfl) (Nat.le_of_ble_eq_true rfl) dX8_init_33 (fun q4 cA H hKn hP hD hS => ?_)
  obtain rfl := m_cyI hKn
  have hP : va_P E.1 vwCl ((([(h0, .inr (8, [.int 0, .ref q1, .ref q2, .ref q3, .int 0, .int 0, .int 0, .int 0, .int 0, .int 0, .null, .null, .null, .int 0, .int 0, .null, .int 0, .int 0, .int 0, .int 0]))] : va_W)) ++ ((([(q1, .inl (E.2.2.1, 926, .inl (fun _ => 0)))] : va_W)) ++ ((([(q2, .inl (E.2.2.1, 926, .inl (fun _ => 0)))] : va_W)) ++ ((([(q3, .inl (E.2.2.1, 20, .inl (fun _ => 0)))] : va_W)) ++ (([(q4, .inl (E.2.2.1, 6, .inl (fun _ => 0)))] : va_W)))))) H := hP
  have hD : va_D A ((([(h0, .inr (8, [.int 0, .ref q1, .ref q2, .ref q3, .int 0, .int 0, .int 0, .int 0, .int 0, .int 0, .null, .null, .null, .int 0, .int 0, .null, .int 0, .int 0, .int 0, .int 0]))] : va_W)) ++ ((([(q1, .inl (E.2.2.1, 926, .inl (fun _ => 0)))] : va_W)) ++ ((([(q2, .inl (E.2.2.1, 926, .inl (fun _ => 0)))] : va_W)) ++ ((([(q3, .inl (E.2.2.1, 20, .inl (fun _ => 0)))] : va_W)) ++ (([(q4, .inl (E.2.2.1, 6, .inl (fun _ => 0)))] : va_W)))))) := hD
  refine W.widen (k := 4) (n := 1878) (Nat.le_of_ble_eq_true rfl) (Nat.le_of_ble_eq_true rfl) ?_
  refine W.eq (g2 := F0 m 35 ls [.ref q4, .ref h0]) rfl ?_
  refine va_putF (D := E.1) (ci := 8) (v := .ref q4) (ty := .array .int) (C := RX8) (T := TX8) (N := 20) hx hb hts k2 tyX8 tyX8_ok nmX8 hown hK hP hD hS 0 rfl rfl 10 (by decide) k5 (fun _ h9 => h9) rfl hin rfl (by decide +kernel) rfl rfl (Nat.le_of_ble_eq_true rfl) dX8_init_35 (fun H locs hP hD hS => ?_)
  have hP : va_P E.1 vwCl ((([(h0, .inr (8, [.int 0, .ref q1, .ref q2, .ref q3, .int 0, .int 0, .int 0, .int 0, .int 0, .int 0, .ref q4, .null, .null, .int 0, .int 0, .null, .int 0, .int 0, .int 0, .int 0]))] : va_W)) ++ ((([(q1, .inl (E.2.2.1, 926, .inl (fun _ => 0)))] : va_W)) ++ ((([(q2, .inl (E.2.2.1, 926, .inl (fun _ => 0)))] : va_W)) ++ ((([(q3, .inl (E.2.2.1, 20, .inl (fun _ => 0)))] : va_W)) ++ (([(q4, .inl (E.2.2.1, 6, .inl (fun _ => 0)))] : va_W)))))) H := hP
  have hD : va_D A ((([(h0, .inr (8, [.int 0, .ref q1, .ref q2, .ref q3, .int 0, .int 0, .int 0, .int 0, .int 0, .int 0, .ref q4, .null, .null, .int 0, .int 0, .null, .int 0, .int 0, .int 0, .int 0]))] : va_W)) ++ ((([(q1, .inl (E.2.2.1, 926, .inl (fun _ => 0)))] : va_W)) ++ ((([(q2, .inl (E.2.2.1, 926, .inl (fun _ => 0)))] : va_W)) ++ ((([(q3, .inl (E.2.2.1, 20, .inl (fun _ => 0)))] : va_W)) ++ (([(q4, .inl (E.2.2.1, 6, .inl (fun _ => 0)))] : va_W)))))) := hD
  refine lv_aload_n hx hb dX8_init_38 rfl (lv_at hl 0 rfl) ?_
  refine lv_bipush (v := 64) hx hb dX8_init_39 (by decide) ?_
  refine va_newa (atype := .boolean) (ty := .boolean) (a0 := (64, .inl (fun _ => 0))) hx hb k6 rfl hK hP hD hS hA (fun _ => rfl) (by decide) (by decide) (by decide) (Nat.le_of_ble_eq_true rfl) (Nat.le_of_ble_eq_true rfl) dX8_init_41 (fun q5 cA H hKn hP hD hS => ?_)
  obtain rfl := m_cyZ hKn
  have hP : va_P E.1 vwCl ((([(h0, .inr (8, [.int 0, .ref q1, .ref q2, .ref q3, .int 0, .int 0, .int 0, .int 0, .int 0, .int 0, .ref q4, .null, .null, .int 0, .int 0, .null, .int 0, .int 0, .int 0, .int 0]))] : va_W)) ++ ((([(q1, .inl (E.2.2.1, 926, .inl (fun _ => 0)))] : va_W)) ++ ((([(q2, .inl (E.2.2.1, 926, .inl (fun _ => 0)))] : va_W)) ++ ((([(q3, .inl (E.2.2.1, 20, .inl (fun _ => 0)))] : va_W)) ++ ((([(q4, .inl (E.2.2.1, 6, .inl (fun _ => 0)))] : va_W)) ++ (([(q5, .inl (E.2.2.2.1, 64, .inl (fun _ => 0)))] : va_W))))))) H := hP
  have hD : va_D A ((([(h0, .inr (8, [.int 0, .ref q1, .ref q2, .ref q3, .int 0, .int 0, .int 0, .int 0, .int 0, .int 0, .ref q4, .null, .null, .int 0, .int 0, .null, .int 0, .int 0, .int 0, .int 0]))] : va_W)) ++ ((([(q1, .inl (E.2.2.1, 926, .inl (fun _ => 0)))] : va_W)) ++ ((([(q2, .inl (E.2.2.1, 926, .inl (fun _ => 0)))] : va_W)) ++ ((([(q3, .inl (E.2.2.1, 20, .inl (fun _ => 0)))] : va_W)) ++ ((([(q4, .inl (E.2.2.1, 6, .inl (fun _ => 0)))] : va_W)) ++ (([(q5, .inl (E.2.2.2.1, 64, .inl (fun _ => 0)))] : va_W))))))) := hD
  refine W.widen (k := 5) (n := 1942) (Nat.le_of_ble_eq_true rfl) (Nat.le_of_ble_eq_true rfl) ?_
  refine W.eq (g2 := F0 m 43 ls [.ref q5, .ref h0]) rfl ?_
  refine va_putF (D := E.1) (ci := 8) (v := .ref q5) (ty := .array .boolean) (C := RX8) (T := TX8) (N := 20) hx hb hts k2 tyX8 tyX8_ok nmX8 hown hK hP hD hS 0 rfl rfl 11 (by decide) k7 (fun _ h9 => h9) rfl hin rfl (by decide +kernel) rfl rfl (Nat.le_of_ble_eq_true rfl) dX8_init_43 (fun H locs hP hD hS => ?_)
  have hP : va_P E.1 vwCl ((([(h0, .inr (8, [.int 0, .ref q1, .ref q2, .ref q3, .int 0, .int 0, .int 0, .int 0, .int 0, .int 0, .ref q4, .ref q5, .null, .int 0, .int 0, .null, .int 0, .int 0, .int 0, .int 0]))] : va_W)) ++ ((([(q1, .inl (E.2.2.1, 926, .inl (fun _ => 0)))] : va_W)) ++ ((([(q2, .inl (E.2.2.1, 926, .inl (fun _ => 0)))] : va_W)) ++ ((([(q3, .inl (E.2.2.1, 20, .inl (fun _ => 0)))] : va_W)) ++ ((([(q4, .inl (E.2.2.1, 6, .inl (fun _ => 0)))] : va_W)) ++ (([(q5, .inl (E.2.2.2.1, 64, .inl (fun _ => 0)))] : va_W))))))) H := hP
  have hD : va_D A ((([(h0, .inr (8, [.int 0, .ref q1, .ref q2, .ref q3, .int 0, .int 0, .int 0, .int 0, .int 0, .int 0, .ref q4, .ref q5, .null, .int 0, .int 0, .null, .int 0, .int 0, .int 0, .int 0]))] : va_W)) ++ ((([(q1, .inl (E.2.2.1, 926, .inl (fun _ => 0)))] : va_W)) ++ ((([(q2, .inl (E.2.2.1, 926, .inl (fun _ => 0)))] : va_W)) ++ ((([(q3, .inl (E.2.2.1, 20, .inl (fun _ => 0)))] : va_W)) ++ ((([(q4, .inl (E.2.2.1, 6, .inl (fun _ => 0)))] : va_W)) ++ (([(q5, .inl (E.2.2.2.1, 64, .inl (fun _ => 0)))] : va_W))))))) := hD
  refine lv_aload_n hx hb dX8_init_46 rfl (lv_at hl 0 rfl) ?_
  refine lv_bipush (v := 6) hx hb dX8_init_47 (by decide) ?_
  refine va_newa (atype := .int) (ty := .int) (a0 := (6, .inl (fun _ => 0))) hx hb k0 rfl hK hP hD hS hA (fun _ => rfl) (by decide) (by decide) (by decide) (Nat.le_of_ble_eq_true rfl) (Nat.le_of_ble_eq_true rfl) dX8_init_49 (fun q6 cA H hKn hP hD hS => ?_)
  obtain rfl := m_cyI hKn
  have hP : va_P E.1 vwCl ((([(h0, .inr (8, [.int 0, .ref q1, .ref q2, .ref q3, .int 0, .int 0, .int 0, .int 0, .int 0, .int 0, .ref q4, .ref q5, .null, .int 0, .int 0, .null, .int 0, .int 0, .int 0, .int 0]))] : va_W)) ++ ((([(q1, .inl (E.2.2.1, 926, .inl (fun _ => 0)))] : va_W)) ++ ((([(q2, .inl (E.2.2.1, 926, .inl (fun _ => 0)))] : va_W)) ++ ((([(q3, .inl (E.2.2.1, 20, .inl (fun _ => 0)))] : va_W)) ++ ((([(q4, .inl (E.2.2.1, 6, .inl (fun _ => 0)))] : va_W)) ++ ((([(q5, .inl (E.2.2.2.1, 64, .inl (fun _ => 0)))] : va_W)) ++ (([(q6, .inl (E.2.2.1, 6, .inl (fun _ => 0)))] : va_W)))))))) H := hP
  have hD : va_D A ((([(h0, .inr (8, [.int 0, .ref q1, .ref q2, .ref q3, .int 0, .int 0, .int 0, .int 0, .int 0, .int 0, .ref q4, .ref q5, .null, .int 0, .int 0, .null, .int 0, .int 0, .int 0, .int 0]))] : va_W)) ++ ((([(q1, .inl (E.2.2.1, 926, .inl (fun _ => 0)))] : va_W)) ++ ((([(q2, .inl (E.2.2.1, 926, .inl (fun _ => 0)))] : va_W)) ++ ((([(q3, .inl (E.2.2.1, 20, .inl (fun _ => 0)))] : va_W)) ++ ((([(q4, .inl (E.2.2.1, 6, .inl (fun _ => 0)))] : va_W)) ++ ((([(q5, .inl (E.2.2.2.1, 64, .inl (fun _ => 0)))] : va_W)) ++ (([(q6, .inl (E.2.2.1, 6, .inl (fun _ => 0)))] : va_W)))))))) := hD
  refine W.widen (k := 6) (n := 1948) (Nat.le_of_ble_eq_true rfl) (Nat.le_of_ble_eq_true rfl) ?_
  refine W.eq (g2 := F0 m 51 ls [.ref q6, .ref h0]) rfl ?_
  refine va_putF (D := E.1) (ci := 8) (v := .ref q6) (ty := .array .int) (C := RX8) (T := TX8) (N := 20) hx hb hts k2 tyX8 tyX8_ok nmX8 hown hK hP hD hS 0 rfl rfl 12 (by decide) k8 (fun _ h9 => h9) rfl hin rfl (by decide +kernel) rfl rfl (Nat.le_of_ble_eq_true rfl) dX8_init_51 (fun H locs hP hD hS => ?_)
  have hP : va_P E.1 vwCl ((([(h0, .inr (8, [.int 0, .ref q1, .ref q2, .ref q3, .int 0, .int 0, .int 0, .int 0, .int 0, .int 0, .ref q4, .ref q5, .ref q6, .int 0, .int 0, .null, .int 0, .int 0, .int 0, .int 0]))] : va_W)) ++ ((([(q1, .inl (E.2.2.1, 926, .inl (fun _ => 0)))] : va_W)) ++ ((([(q2, .inl (E.2.2.1, 926, .inl (fun _ => 0)))] : va_W)) ++ ((([(q3, .inl (E.2.2.1, 20, .inl (fun _ => 0)))] : va_W)) ++ ((([(q4, .inl (E.2.2.1, 6, .inl (fun _ => 0)))] : va_W)) ++ ((([(q5, .inl (E.2.2.2.1, 64, .inl (fun _ => 0)))] : va_W)) ++ (([(q6, .inl (E.2.2.1, 6, .inl (fun _ => 0)))] : va_W)))))))) H := hP
  have hD : va_D A ((([(h0, .inr (8, [.int 0, .ref q1, .ref q2, .ref q3, .int 0, .int 0, .int 0, .int 0, .int 0, .int 0, .ref q4, .ref q5, .ref q6, .int 0, .int 0, .null, .int 0, .int 0, .int 0, .int 0]))] : va_W)) ++ ((([(q1, .inl (E.2.2.1, 926, .inl (fun _ => 0)))] : va_W)) ++ ((([(q2, .inl (E.2.2.1, 926, .inl (fun _ => 0)))] : va_W)) ++ ((([(q3, .inl (E.2.2.1, 20, .inl (fun _ => 0)))] : va_W)) ++ ((([(q4, .inl (E.2.2.1, 6, .inl (fun _ => 0)))] : va_W)) ++ ((([(q5, .inl (E.2.2.2.1, 64, .inl (fun _ => 0)))] : va_W)) ++ (([(q6, .inl (E.2.2.1, 6, .inl (fun _ => 0)))] : va_W)))))))) := hD
  refine lv_aload_n hx hb dX8_init_54 rfl (lv_at hl 0 rfl) ?_
  refine lv_bipush (v := 20) hx hb dX8_init_55 (by decide) ?_
  refine va_newa (atype := .int) (ty := .int) (a0 := (20, .inl (fun _ => 0))) hx hb k0 rfl hK hP hD hS hA (fun _ => rfl) (by decide) (by decide) (by decide) (Nat.le_of_ble_eq_true rfl) (Nat.le_of_ble_eq_true rfl) dX8_init_57 (fun q7 cA H hKn hP hD hS => ?_)
  obtain rfl := m_cyI hKn
  have hP : va_P E.1 vwCl ((([(h0, .inr (8, [.int 0, .ref q1, .ref q2, .ref q3, .int 0, .int 0, .int 0, .int 0, .int 0, .int 0, .ref q4, .ref q5, .ref q6, .int 0, .int 0, .null, .int 0, .int 0, .int 0, .int 0]))] : va_W)) ++ ((([(q1, .inl (E.2.2.1, 926, .inl (fun _ => 0)))] : va_W)) ++ ((([(q2, .inl (E.2.2.1, 926, .inl (fun _ => 0)))] : va_W)) ++ ((([(q3, .inl (E.2.2.1, 20, .inl (fun _ => 0)))] : va_W)) ++ ((([(q4, .inl (E.2.2.1, 6, .inl (fun _ => 0)))] : va_W)) ++ ((([(q5, .inl (E.2.2.2.1, 64, .inl (fun _ => 0)))] : va_W)) ++ ((([(q6, .inl (E.2.2.1, 6, .inl (fun _ => 0)))] : va_W)) ++ (([(q7, .inl (E.2.2.1, 20, .inl (fun _ => 0)))] : va_W))))))))) H := hP
  have hD : va_D A ((([(h0, .inr (8, [.int 0, .ref q1, .ref q2, .ref q3, .int 0, .int 0, .int 0, .int 0, .int 0, .int 0, .ref q4, .ref q5, .ref q6, .int 0, .int 0, .null, .int 0, .int 0, .int 0, .int 0]))] : va_W)) ++ ((([(q1, .inl (E.2.2.1, 926, .inl (fun _ => 0)))] : va_W)) ++ ((([(q2, .inl (E.2.2.1, 926, .inl (fun _ => 0)))] : va_W)) ++ ((([(q3, .inl (E.2.2.1, 20, .inl (fun _ => 0)))] : va_W)) ++ ((([(q4, .inl (E.2.2.1, 6, .inl (fun _ => 0)))] : va_W)) ++ ((([(q5, .inl (E.2.2.2.1, 64, .inl (fun _ => 0)))] : va_W)) ++ ((([(q6, .inl (E.2.2.1, 6, .inl (fun _ => 0)))] : va_W)) ++ (([(q7, .inl (E.2.2.1, 20, .inl (fun _ => 0)))] : va_W))))))))) := hD
  refine W.widen (k := 7) (n := 1968) (Nat.le_of_ble_eq_true rfl) (Nat.le_of_ble_eq_true rfl) ?_
  refine W.eq (g2 := F0 m 59 ls [.ref q7, .ref h0]) rfl ?_
  refine va_putF (D := E.1) (ci := 8) (v := .ref q7) (ty := .array .int) (C := RX8) (T := TX8) (N := 20) hx hb hts k2 tyX8 tyX8_ok nmX8 hown hK hP hD hS 0 rfl rfl 15 (by decide) k9 (fun _ h9 => h9) rfl hin rfl (by decide +kernel) rfl rfl (Nat.le_of_ble_eq_true rfl) dX8_init_59 (fun H locs hP hD hS => ?_)
  have hP : va_P E.1 vwCl ((([(h0, .inr (8, [.int 0, .ref q1, .ref q2, .ref q3, .int 0, .int 0, .int 0, .int 0, .int 0, .int 0, .ref q4, .ref q5, .ref q6, .int 0, .int 0, .ref q7, .int 0, .int 0, .int 0, .int 0]))] : va_W)) ++ ((([(q1, .inl (E.2.2.1, 926, .inl (fun _ => 0)))] : va_W)) ++ ((([(q2, .inl (E.2.2.1, 926, .inl (fun _ => 0)))] : va_W)) ++ ((([(q3, .inl (E.2.2.1, 20, .inl (fun _ => 0)))] : va_W)) ++ ((([(q4, .inl (E.2.2.1, 6, .inl (fun _ => 0)))] : va_W)) ++ ((([(q5, .inl (E.2.2.2.1, 64, .inl (fun _ => 0)))] : va_W)) ++ ((([(q6, .inl (E.2.2.1, 6, .inl (fun _ => 0)))] : va_W)) ++ (([(q7, .inl (E.2.2.1, 20, .inl (fun _ => 0)))] : va_W))))))))) H := hP
  have hD : va_D A ((([(h0, .inr (8, [.int 0, .ref q1, .ref q2, .ref q3, .int 0, .int 0, .int 0, .int 0, .int 0, .int 0, .ref q4, .ref q5, .ref q6, .int 0, .int 0, .ref q7, .int 0, .int 0, .int 0, .int 0]))] : va_W)) ++ ((([(q1, .inl (E.2.2.1, 926, .inl (fun _ => 0)))] : va_W)) ++ ((([(q2, .inl (E.2.2.1, 926, .inl (fun _ => 0)))] : va_W)) ++ ((([(q3, .inl (E.2.2.1, 20, .inl (fun _ => 0)))] : va_W)) ++ ((([(q4, .inl (E.2.2.1, 6, .inl (fun _ => 0)))] : va_W)) ++ ((([(q5, .inl (E.2.2.2.1, 64, .inl (fun _ => 0)))] : va_W)) ++ ((([(q6, .inl (E.2.2.1, 6, .inl (fun _ => 0)))] : va_W)) ++ (([(q7, .inl (E.2.2.1, 20, .inl (fun _ => 0)))] : va_W))))))))) := hD
  refine lv_aload_n hx hb dX8_init_62 rfl (lv_at hl 0 rfl) ?_
  refine va_get (D := E.1) (ci := 8) (v := .ref q1) (C := RX8) (T := TX8) (N := 20) hx hb hts k2 hown hK hP 0 rfl rfl 1 (by decide) k1 (fun _ h9 => h9) rfl dX8_init_63 ?_
  refine lv_bipush (v := 26) hx hb dX8_init_66 (by decide) ?_
  refine lv_iconst (v := (-1)) hx hb dX8_init_68 (by decide) ?_
  refine va_iast (f := (fun _ => 0)) hx hb hK hP hD hS 1 1 rfl rfl (mIn_ok (by decide)) dX8_init_69 (fun H locs hP hD hS => ?_)
  have hP : va_P E.1 vwCl ((([(h0, .inr (8, [.int 0, .ref q1, .ref q2, .ref q3, .int 0, .int 0, .int 0, .int 0, .int 0, .int 0, .ref q4, .ref q5, .ref q6, .int 0, .int 0, .ref q7, .int 0, .int 0, .int 0, .int 0]))] : va_W)) ++ ((([(q1, .inl (E.2.2.1, 926, .inl (upd (fun _ => 0) (26 : Int32).toNatClampNeg ((-1)))))] : va_W)) ++ ((([(q2, .inl (E.2.2.1, 926, .inl (fun _ => 0)))] : va_W)) ++ ((([(q3, .inl (E.2.2.1, 20, .inl (fun _ => 0)))] : va_W)) ++ ((([(q4, .inl (E.2.2.1, 6, .inl (fun _ => 0)))] : va_W)) ++ ((([(q5, .inl (E.2.2.2.1, 64, .inl (fun _ => 0)))] : va_W)) ++ ((([(q6, .inl (E.2.2.1, 6, .inl (fun _ => 0)))] : va_W)) ++ (([(q7, .inl (E.2.2.1, 20, .inl (fun _ => 0)))] : va_W))))))))) H := hP
  have hD : va_D A ((([(h0, .inr (8, [.int 0, .ref q1, .ref q2, .ref q3, .int 0, .int 0, .int 0, .int 0, .int 0, .int 0, .ref q4, .ref q5, .ref q6, .int 0, .int 0, .ref q7, .int 0, .int 0, .int 0, .int 0]))] : va_W)) ++ ((([(q1, .inl (E.2.2.1, 926, .inl (upd (fun _ => 0) (26 : Int32).toNatClampNeg ((-1)))))] : va_W)) ++ ((([(q2, .inl (E.2.2.1, 926, .inl (fun _ => 0)))] : va_W)) ++ ((([(q3, .inl (E.2.2.1, 20, .inl (fun _ => 0)))] : va_W)) ++ ((([(q4, .inl (E.2.2.1, 6, .inl (fun _ => 0)))] : va_W)) ++ ((([(q5, .inl (E.2.2.2.1, 64, .inl (fun _ => 0)))] : va_W)) ++ ((([(q6, .inl (E.2.2.1, 6, .inl (fun _ => 0)))] : va_W)) ++ (([(q7, .inl (E.2.2.1, 20, .inl (fun _ => 0)))] : va_W))))))))) := hD
  have hP : va_P E.1 vwCl (Model_c E (h0, q1, q2, q3, q4, q5, q6, q7) Model_0) H := hP
  have hD : va_D A (Model_c E (h0, q1, q2, q3, q4, q5, q6, q7) Model_0) := hD
  rw [hQ]
  refine W.widen (k := 7) (n := 1968) (Nat.le_of_ble_eq_true rfl) (Nat.le_of_ble_eq_true rfl) ?_
  exact W.vret hx hb hr (fun t ht _ => ⟨⟨(h0, q1, q2, q3, q4, q5, q6, q7), rfl, rfl, by rw [ht]; exact hP, hD⟩, hS.F ht⟩) hS.2.2 dX8_init_70
abbrev rmX4_init : Room := { frames := 2, cells := 4, slots := 127, locals := 32 }
set_option maxRecDepth 100000 in
set_option maxHeartbeats 400000 in
theorem c_X4_init (l : Launch) (E : mE) (h0 sz : Nat) (tp : Nat) (tf : Nat → Int32) (x0 : Int32) : Met l yX4_init wsX4_init rmX4_init (mPm E [.ref h0, .ref tp, .int x0] sz (([(h0, .inr (4, [.null, .int 0, .int 0, .int 0, .null]))] : va_W)) [(tp, .inl (E.2.1, 100, .inl tf))]) (mSx E (fun _ => none) (fun u : LessonA => ((([(h0, .inr (4, [.ref tp, .int (mMin x0 100), .int 0, .int 0, .ref (Lessona_self u)]))] : va_W)) ++ (Lesson_c E u Lesson_0))) (fun u : LessonA => True) (va_A (([(h0, .inr (4, [.null, .int 0, .int 0, .int 0, .null]))] : va_W)) sz)) 4 127 (va_A (([(h0, .inr (4, [.null, .int 0, .int 0, .int 0, .null]))] : va_W)) sz) := by
  refine mOfX (l := l) (y := yX4_init) (ws := wsX4_init) (rm := rmX4_init) (E := E) (av := [.ref h0, .ref tp, .int x0]) (bs := (([(h0, .inr (4, [.null, .int 0, .int 0, .int 0, .null]))] : va_W))) (ro := [(tp, .inl (E.2.1, 100, .inl tf))]) (mc := 4) (ms := 127) (sz := sz) (QA := fun A => mSx E (fun _ => none) (fun u : LessonA => ((([(h0, .inr (4, [.ref tp, .int (mMin x0 100), .int 0, .int 0, .ref (Lessona_self u)]))] : va_W)) ++ (Lesson_c E u Lesson_0))) (fun u : LessonA => True) A) (cc := cX4_init) (maxL := 3) (ret := none) (by decide) rfl (Nat.le_of_ble_eq_true rfl) ?_
  intro p e_ s m args below meth c Q A hQ CC hr hlocks hin hA hP hD hKN hGl hR0 hRA ls hl
  have hS : va_S A s.heap s.heap [] := va_S.rf
  have hin : meth.name = "<init>" := hin
  have hK := hKN.1
  have hx := CC.1
  have hb := CC.2.1
  have hml := CC.2.2.1
  have hown : s.vm.findClass RX4 = some m.cls := CC.2.2.2.1
  have hts := CC.2.2.2.2
  have hl : lv_has ls 3 [(0, .ref h0), (1, .ref tp), (2, .int x0)] := hl
  have k0 := hts (.fieldLink RX4 9 "OneDidAll$Reader" "place" "I") (by decide +kernel)
  have k1 := (show ∀ w ∈ u_ws RX4 TX4 5, w ∈ wsX4_init by decide +kernel)
  have k2 := hts (.fieldLink RX4 15 "OneDidAll$Reader" "number" "I") (by decide +kernel)
  have k3 := hts (.classLink RX4 18 RX3) (by decide +kernel)
  have k4 := hts (.instantiable RX3 7) (by decide +kernel)
  have k5 := hts (.initialized RX3) (by decide +kernel)
  have k6 := (show ∀ w ∈ u_ws RX3 TX3 7, w ∈ wsX4_init by decide +kernel)
  have k7 := hts (.fieldLink RX4 21 "OneDidAll$Reader" "lesson" "LOneDidAll$Lesson;") (by decide +kernel)
  have k8 := hts (.fieldLink RX4 25 "OneDidAll$Reader" "tape" "[B") (by decide +kernel)
  have k9 := hts (.methodLink RX4 29 Lib.Math.min.name) (by decide +kernel)
  have k10 := hts (.static Lib.Math.min.name) (by decide +kernel)
  have k11 := hts (.initialized "java/lang/Math") (by decide +kernel)
  have k12 := hts (.code Lib.Math.min.name Lib.Math.min.code 2 (some .int)) (by decide +kernel)
  have k13 := hts (.fieldLink RX4 35 "OneDidAll$Reader" "size" "I") (by decide +kernel)
  have hP : va_P E.1 vwCl (([(h0, .inr (4, [.null, .int 0, .int 0, .int 0, .null]))] : va_W)) s.heap := hP
  obtain ⟨H, hH⟩ : ∃ H, H = s.heap := ⟨_, rfl⟩
  obtain ⟨locs, hlc⟩ : ∃ z : List Loc, z = [] := ⟨_, rfl⟩
  rw [← hH] at hP
  rw [← hlc] at hS
  have hS : va_S A s.heap H locs := by rw [hH]; exact hS
  rw [← hH, ← hlc]
  refine lv_aload_n hx hb dX4_init_0 rfl (lv_at hl 0 rfl) ?_
  refine W.objInit hx hb hown (hts (.methodLink RX4 3 objectInit) (by decide +kernel)) (hts (.instanceMethod objectInit) (by decide +kernel)) (hts (.code objectInit ⟨#[0xb1]⟩ 1 none) (by decide +kernel)) rfl (by rw [hml]; exact hl.1) rfl dX4_init_1 (Nat.le_of_ble_eq_true rfl) (Nat.le_of_ble_eq_true rfl) ?_
  refine W.eq (g2 := F0 m 4 ls []) rfl ?_
  refine lv_aload_n hx hb dX4_init_4 rfl (lv_at hl 0 rfl) ?_
  refine lv_iconst (v := 0) hx hb dX4_init_5 (by decide) ?_
  refine va_put (D := E.1) (ci := 4) (v := .int 0) (ty := .int) (C := RX4) (T := TX4) (N := 5) hx hb hts k1 tyX4 tyX4_ok nmX4 hown hK hP hD hS 0 rfl rfl 2 (by decide) k0 (fun _ h9 => h9) rfl (by decide +kernel) rfl rfl (Nat.le_of_ble_eq_true rfl) dX4_init_6 (fun H locs hP hD hS => ?_)
  have hP : va_P E.1 vwCl (([(h0, .inr (4, [.null, .int 0, .int 0, .int 0, .null]))] : va_W)) H := hP
  have hD : va_D A (([(h0, .inr (4, [.null, .int 0, .int 0, .int 0, .null]))] : va_W)) := hD
  refine lv_aload_n hx hb dX4_init_9 rfl (lv_at hl 0 rfl) ?_
  refine lv_iconst (v := 0) hx hb dX4_init_10 (by decide) ?_
  refine va_put (D := E.1) (ci := 4) (v := .int 0) (ty := .int) (C := RX4) (T := TX4) (N := 5) hx hb hts k1 tyX4 tyX4_ok nmX4 hown hK hP hD hS 0 rfl rfl 3 (by decide) k2 (fun _ h9 => h9) rfl (by decide +kernel) rfl rfl (Nat.le_of_ble_eq_true rfl) dX4_init_11 (fun H locs hP hD hS => ?_)
  have hP : va_P E.1 vwCl (([(h0, .inr (4, [.null, .int 0, .int 0, .int 0, .null]))] : va_W)) H := hP
  have hD : va_D A (([(h0, .inr (4, [.null, .int 0, .int 0, .int 0, .null]))] : va_W)) := hD
  refine lv_aload_n hx hb dX4_init_14 rfl (lv_at hl 0 rfl) ?_
  refine va_new (ci := 3) (fs := [.null, .int 0, .null, .null, .int 0, .int 0, .int 0]) (C := RX3) (T := TX3) (N := 7) hx hb hts k6 tyX3 tyX3_ok hown k3 k4 k5 hK hP hD hS hA rfl (by decide +kernel) (Nat.le_of_ble_eq_true rfl) (Nat.le_of_ble_eq_true rfl) dX4_init_15 (fun q1 H hP hD hS => ?_)
  have hP : va_P E.1 vwCl ((([(h0, .inr (4, [.null, .int 0, .int 0, .int 0, .null]))] : va_W)) ++ (([(q1, .inr (3, [.null, .int 0, .null, .null, .int 0, .int 0, .int 0]))] : va_W))) H := hP
  have hD : va_D A ((([(h0, .inr (4, [.null, .int 0, .int 0, .int 0, .null]))] : va_W)) ++ (([(q1, .inr (3, [.null, .int 0, .null, .null, .int 0, .int 0, .int 0]))] : va_W))) := hD
  refine W.widen (k := 1) (n := 7) (Nat.le_of_ble_eq_true rfl) (Nat.le_of_ble_eq_true rfl) ?_
  refine W.eq (g2 := F0 m 18 ls [.ref q1, .ref h0]) rfl ?_
  refine lv_dup hx hb dX4_init_18 rfl ?_
  have hpm : List.Perm ((([(h0, .inr (4, [.null, .int 0, .int 0, .int 0, .null]))] : va_W)) ++ (([(q1, .inr (3, [.null, .int 0, .null, .null, .int 0, .int 0, .int 0]))] : va_W))) (([(q1, .inr (3, [.null, .int 0, .null, .null, .int 0, .int 0, .int 0]))] : va_W) ++ ((List.take 1 ((([(h0, .inr (4, [.null, .int 0, .int 0, .int 0, .null]))] : va_W)) ++ (([(q1, .inr (3, [.null, .int 0, .null, .null, .int 0, .int 0, .int 0]))] : va_W)))) ++ (List.drop 2 ((([(h0, .inr (4, [.null, .int 0, .int 0, .int 0, .null]))] : va_W)) ++ (([(q1, .inr (3, [.null, .int 0, .null, .null, .int 0, .int 0, .int 0]))] : va_W)))))) := m_p1 (A := (List.take 1 ((([(h0, .inr (4, [.null, .int 0, .int 0, .int 0, .null]))] : va_W)) ++ (([(q1, .inr (3, [.null, .int 0, .null, .null, .int 0, .int 0, .int 0]))] : va_W))))) (m := ([(q1, .inr (3, [.null, .int 0, .null, .null, .int 0, .int 0, .int 0]))] : va_W)) (C := (List.drop 2 ((([(h0, .inr (4, [.null, .int 0, .int 0, .int 0, .null]))] : va_W)) ++ (([(q1, .inr (3, [.null, .int 0, .null, .null, .int 0, .int 0, .int 0]))] : va_W)))))
  obtain ⟨hPc, hDc, hFc⟩ := m_pre hpm hP hD hS hA
  refine mINX (host := "OneDidAll") (n := 0) (rest := [.ref q1, .ref h0]) (As := []) CC hKN hGl (c_X3_init l E q1 _) gX4_init_X3_init_n20 rfl ⟨rfl, rfl⟩ (hts (.initialized RX3) (by decide +kernel)) (hKN.2.2.1 ("OneDidAll$Reader", 20, ⟨"OneDidAll$Lesson", "<init>", "()V"⟩, "OneDidAll") (by decide +kernel)) (hts (.instanceMethod yX3_init) (by decide +kernel)) rfl (by decide +kernel) ⟨Nat.le_of_ble_eq_true rfl, Nat.le_of_ble_eq_true rfl⟩ hPc hDc m_nil m_nilA hS hFc rfl hl.1 rfl (Nat.le_of_ble_eq_true rfl) ⟨Nat.le_of_ble_eq_true rfl, Nat.le_of_ble_eq_true rfl⟩ dX4_init_19 (fun u2 H locs hu hP1 hD1 hz1 hk1 hSn => ?_)
  have hpn : List.Perm ((([(h0, .inr (4, [.null, .int 0, .int 0, .int 0, .null]))] : va_W)) ++ (Lesson_c E u2 Lesson_0)) ((Lesson_c E u2 Lesson_0) ++ ((List.take 1 ((([(h0, .inr (4, [.null, .int 0, .int 0, .int 0, .null]))] : va_W)) ++ (([(q1, .inr (3, [.null, .int 0, .null, .null, .int 0, .int 0, .int 0]))] : va_W)))) ++ (List.drop 2 ((([(h0, .inr (4, [.null, .int 0, .int 0, .int 0, .null]))] : va_W)) ++ (([(q1, .inr (3, [.null, .int 0, .null, .null, .int 0, .int 0, .int 0]))] : va_W)))))) := m_p1 (A := (List.take 1 ((([(h0, .inr (4, [.null, .int 0, .int 0, .int 0, .null]))] : va_W)) ++ (([(q1, .inr (3, [.null, .int 0, .null, .null, .int 0, .int 0, .int 0]))] : va_W))))) (m := (Lesson_c E u2 Lesson_0)) (C := (List.drop 2 ((([(h0, .inr (4, [.null, .int 0, .int 0, .int 0, .null]))] : va_W)) ++ (([(q1, .inr (3, [.null, .int 0, .null, .null, .int 0, .int 0, .int 0]))] : va_W)))))
  obtain ⟨hPn, hDn⟩ := m_spl hpm hpn hP hD hk1 hFc hP1 hD1
  clear hpm hpn hPc hDc hFc hP1 hD1 hk1 hz1
  subst hu
  have hP := hPn
  have hD := hDn
  have hS := hSn
  refine W.widen (k := 4) (n := 127) (Nat.le_of_ble_eq_true rfl) (Nat.le_of_ble_eq_true rfl) ?_
  refine W.eq (g2 := F0 m 22 ls [.ref (Lessona_self u2), .ref h0]) rfl ?_
  refine va_putF (D := E.1) (ci := 4) (v := .ref (Lessona_self u2)) (ty := .object "OneDidAll$Lesson") (C := RX4) (T := TX4) (N := 5) hx hb hts k1 tyX4 tyX4_ok nmX4 hown hK hP hD hS 0 rfl rfl 4 (by decide) k7 (fun _ h9 => h9) rfl hin rfl (by decide +kernel) rfl rfl (Nat.le_of_ble_eq_true rfl) dX4_init_22 (fun H locs hP hD hS => ?_)
  have hP : va_P E.1 vwCl ((([(h0, .inr (4, [.null, .int 0, .int 0, .int 0, .ref (Lessona_self u2)]))] : va_W)) ++ (Lesson_c E u2 Lesson_0)) H := hP
  have hD : va_D A ((([(h0, .inr (4, [.null, .int 0, .int 0, .int 0, .ref (Lessona_self u2)]))] : va_W)) ++ (Lesson_c E u2 Lesson_0)) := hD
  refine lv_aload_n hx hb dX4_init_25 rfl (lv_at hl 0 rfl) ?_
  refine lv_aload_n hx hb dX4_init_26 rfl (lv_at hl 1 rfl) ?_
  refine va_putF (D := E.1) (ci := 4) (v := .ref tp) (ty := .array .byte) (C := RX4) (T := TX4) (N := 5) hx hb hts k1 tyX4 tyX4_ok nmX4 hown hK hP hD hS 0 rfl rfl 0 (by decide) k8 (fun _ h9 => h9) rfl hin rfl (by decide +kernel) rfl rfl (Nat.le_of_ble_eq_true rfl) dX4_init_27 (fun H locs hP hD hS => ?_)
  have hP : va_P E.1 vwCl ((([(h0, .inr (4, [.ref tp, .int 0, .int 0, .int 0, .ref (Lessona_self u2)]))] : va_W)) ++ (Lesson_c E u2 Lesson_0)) H := hP
  have hD : va_D A ((([(h0, .inr (4, [.ref tp, .int 0, .int 0, .int 0, .ref (Lessona_self u2)]))] : va_W)) ++ (Lesson_c E u2 Lesson_0)) := hD
  refine lv_aload_n hx hb dX4_init_30 rfl (lv_at hl 0 rfl) ?_
  refine lv_iload_n hx hb dX4_init_31 rfl (lv_at hl 2 rfl) ?_
  refine lv_aload_n hx hb dX4_init_32 rfl (lv_at hl 1 rfl) ?_
  refine va_alen (v := 100) hx hb hK (m_ro hR0 hRA hS) 0 0 rfl rfl rfl dX4_init_33 ?_
  refine va_mmin hx hb (hml.trans hl.1.symm) hown k9 k10 k11 k12 (Nat.le_of_ble_eq_true rfl) (Nat.le_of_ble_eq_true rfl) (Nat.le_of_ble_eq_true rfl) (Nat.le_of_ble_eq_true rfl) dX4_init_34 ?_
  refine W.eq (g2 := F0 m 37 ls [.int (mMin x0 100), .ref h0]) rfl ?_
  refine va_putF (D := E.1) (ci := 4) (v := .int (mMin x0 100)) (ty := .int) (C := RX4) (T := TX4) (N := 5) hx hb hts k1 tyX4 tyX4_ok nmX4 hown hK hP hD hS 0 rfl rfl 1 (by decide) k13 (fun _ h9 => h9) rfl hin rfl (by decide +kernel) rfl rfl (Nat.le_of_ble_eq_true rfl) dX4_init_37 (fun H locs hP hD hS => ?_)
  have hP : va_P E.1 vwCl ((([(h0, .inr (4, [.ref tp, .int (mMin x0 100), .int 0, .int 0, .ref (Lessona_self u2)]))] : va_W)) ++ (Lesson_c E u2 Lesson_0)) H := hP
  have hD : va_D A ((([(h0, .inr (4, [.ref tp, .int (mMin x0 100), .int 0, .int 0, .ref (Lessona_self u2)]))] : va_W)) ++ (Lesson_c E u2 Lesson_0)) := hD
  have hP : va_P E.1 vwCl ((([(h0, .inr (4, [.ref tp, .int (mMin x0 100), .int 0, .int 0, .ref (Lessona_self u2)]))] : va_W)) ++ (Lesson_c E u2 Lesson_0)) H := hP
  have hD : va_D A ((([(h0, .inr (4, [.ref tp, .int (mMin x0 100), .int 0, .int 0, .ref (Lessona_self u2)]))] : va_W)) ++ (Lesson_c E u2 Lesson_0)) := hD
  rw [hQ]
  refine W.widen (k := 4) (n := 127) (Nat.le_of_ble_eq_true rfl) (Nat.le_of_ble_eq_true rfl) ?_
  exact W.vret hx hb hr (fun t ht _ => ⟨⟨u2, rfl, trivial, by rw [ht]; exact hP, hD⟩, hS.F ht⟩) hS.2.2 dX4_init_40
abbrev rmX5_init : Room := { frames := 2, cells := 24, slots := 360, locals := 43 }
set_option maxRecDepth 100000 in
set_option maxHeartbeats 400000 in
theorem c_X5_init (l : Launch) (E : mE) (h0 sz : Nat) : Met l yX5_init wsX5_init rmX5_init (mPm E [.ref h0] sz (([(h0, .inr (5, [.null, .null, .int 0, .null, .int 0, .null, .null, .null, .null]))] : va_W)) []) (mSx E (fun _ => none) (fun u : (RoomA × LessonA) => ((Room_c E u.1 (Room_0 (Lessona_self u.2))) ++ (Lesson_c E u.2 Lesson_0))) (fun u : (RoomA × LessonA) => Rooma_self u.1 = h0) (va_A (([(h0, .inr (5, [.null, .null, .int 0, .null, .int 0, .null, .null, .null, .null]))] : va_W)) sz)) 24 360 (va_A (([(h0, .inr (5, [.null, .null, .int 0, .null, .int 0, .null, .null, .null, .null]))] : va_W)) sz) := by
  refine mOfX (QA := fun A => mSx E (fun _ => none) (fun u : (RoomA × LessonA) => ((Room_c E u.1 (Room_0 (Lessona_self u.2))) ++ (Lesson_c E u.2 Lesson_0))) (fun u : (RoomA × LessonA) => Rooma_self u.1 = h0) A) (cc := cX5_init) (maxL := 1) (ret := none) (by decide) rfl (Nat.le_of_ble_eq_true rfl) ?_
  intro p e_ s m args below meth c Q A hQ CC hr hlocks hin hA hP hD hKN hGl hR0 hRA ls hl
  have hS : va_S A s.heap s.heap [] := va_S.rf
  have hin : meth.name = "<init>" := hin
  have hK := hKN.1
  have hx := CC.1
  have hb := CC.2.1
  have hml := CC.2.2.1
  have hown : s.vm.findClass RX5 = some m.cls := CC.2.2.2.1
  have hts := CC.2.2.2.2
  have hl : lv_has ls 1 [(0, .ref h0)] := hl
  have hover : va_AO "OneDidAll$Lesson" s := hKN.2.2.2.2
  have k0 := hts (.classLink RX5 9 RX2) (by decide +kernel)
  have k1 := hts (.instantiable RX2 11) (by decide +kernel)
  have k2 := hts (.initialized RX2) (by decide +kernel)
  have k3 := (show ∀ w ∈ u_ws RX2 TX2 11, w ∈ wsX5_init by decide +kernel)
  have k4 := hts (.fieldLink RX5 12 "OneDidAll$Room" "group" "LOneDidAll$Group;") (by decide +kernel)
  have k5 := (show ∀ w ∈ u_ws RX5 TX5 9, w ∈ wsX5_init by decide +kernel)
  have k6 := hts (.arrayClass .byte) (by decide +kernel)
  have k7 := hts (.fieldLink RX5 18 "OneDidAll$Room" "tape" "[B") (by decide +kernel)
  have k8 := hts (.fieldLink RX5 22 "OneDidAll$Room" "signs" "I") (by decide +kernel)
  have k9 := hts (.classLink RX5 26 RX3) (by decide +kernel)
  have k10 := hts (.fieldLink RX5 28 "OneDidAll$Room" "lessons" "[LOneDidAll$Lesson;") (by decide +kernel)
  have k11 := hts (.fieldLink RX5 32 "OneDidAll$Room" "lessonCount" "I") (by decide +kernel)
  have k12 := hts (.instantiable RX3 7) (by decide +kernel)
  have k13 := hts (.initialized RX3) (by decide +kernel)
  have k14 := (show ∀ w ∈ u_ws RX3 TX3 7, w ∈ wsX5_init by decide +kernel)
  have k15 := hts (.fieldLink RX5 36 "OneDidAll$Room" "none" "LOneDidAll$Lesson;") (by decide +kernel)
  have k16 := hts (.classLink RX5 40 RX6) (by decide +kernel)
  have k17 := hts (.instantiable RX6 3) (by decide +kernel)
  have k18 := hts (.initialized RX6) (by decide +kernel)
  have k19 := (show ∀ w ∈ u_ws RX6 TX6 3, w ∈ wsX5_init by decide +kernel)
  have k20 := hts (.fieldLink RX5 45 "OneDidAll$Room" "seen" "LOneDidAll$Rows;") (by decide +kernel)
  have k21 := hts (.fieldLink RX5 49 "OneDidAll$Room" "plan" "LOneDidAll$Rows;") (by decide +kernel)
  have k22 := hts (.fieldLink RX5 52 "OneDidAll$Room" "book" "LOneDidAll$Rows;") (by decide +kernel)
  have hP : va_P E.1 vwCl (([(h0, .inr (5, [.null, .null, .int 0, .null, .int 0, .null, .null, .null, .null]))] : va_W)) s.heap := hP
  obtain ⟨H, hH⟩ : ∃ H, H = s.heap := ⟨_, rfl⟩
  obtain ⟨locs, hlc⟩ : ∃ z : List Loc, z = [] := ⟨_, rfl⟩
  rw [← hH] at hP
  rw [← hlc] at hS
  have hS : va_S A s.heap H locs := by rw [hH]; exact hS
  rw [← hH, ← hlc]
  refine lv_aload_n hx hb dX5_init_0 rfl (lv_at hl 0 rfl) ?_
  refine W.objInit hx hb hown (hts (.methodLink RX5 3 objectInit) (by decide +kernel)) (hts (.instanceMethod objectInit) (by decide +kernel)) (hts (.code objectInit ⟨#[0xb1]⟩ 1 none) (by decide +kernel)) rfl (by rw [hml]; exact hl.1) rfl dX5_init_1 (Nat.le_of_ble_eq_true rfl) (Nat.le_of_ble_eq_true rfl) ?_
  refine W.eq (g2 := F0 m 4 ls []) rfl ?_
  refine lv_aload_n hx hb dX5_init_4 rfl (lv_at hl 0 rfl) ?_
  refine va_new (ci := 2) (fs := [.int 0, .int 0, .int 0, .null, .null, .null, .null, .null, .null, .null, .null]) (C := RX2) (T := TX2) (N := 11) hx hb hts k3 tyX2 tyX2_ok hown k0 k1 k2 hK hP hD hS hA rfl (by decide +kernel) (Nat.le_of_ble_eq_true rfl) (Nat.le_of_ble_eq_true rfl) dX5_init_5 (fun q1 H hP hD hS => ?_)
  have hP : va_P E.1 vwCl ((([(h0, .inr (5, [.null, .null, .int 0, .null, .int 0, .null, .null, .null, .null]))] : va_W)) ++ (([(q1, .inr (2, [.int 0, .int 0, .int 0, .null, .null, .null, .null, .null, .null, .null, .null]))] : va_W))) H := hP
  have hD : va_D A ((([(h0, .inr (5, [.null, .null, .int 0, .null, .int 0, .null, .null, .null, .null]))] : va_W)) ++ (([(q1, .inr (2, [.int 0, .int 0, .int 0, .null, .null, .null, .null, .null, .null, .null, .null]))] : va_W))) := hD
  refine W.widen (k := 1) (n := 11) (Nat.le_of_ble_eq_true rfl) (Nat.le_of_ble_eq_true rfl) ?_
  refine W.eq (g2 := F0 m 8 ls [.ref q1, .ref h0]) rfl ?_
  refine lv_dup hx hb dX5_init_8 rfl ?_
  have hpm : List.Perm ((([(h0, .inr (5, [.null, .null, .int 0, .null, .int 0, .null, .null, .null, .null]))] : va_W)) ++ (([(q1, .inr (2, [.int 0, .int 0, .int 0, .null, .null, .null, .null, .null, .null, .null, .null]))] : va_W))) (([(q1, .inr (2, [.int 0, .int 0, .int 0, .null, .null, .null, .null, .null, .null, .null, .null]))] : va_W) ++ ((List.take 1 ((([(h0, .inr (5, [.null, .null, .int 0, .null, .int 0, .null, .null, .null, .null]))] : va_W)) ++ (([(q1, .inr (2, [.int 0, .int 0, .int 0, .null, .null, .null, .null, .null, .null, .null, .null]))] : va_W)))) ++ (List.drop 2 ((([(h0, .inr (5, [.null, .null, .int 0, .null, .int 0, .null, .null, .null, .null]))] : va_W)) ++ (([(q1, .inr (2, [.int 0, .int 0, .int 0, .null, .null, .null, .null, .null, .null, .null, .null]))] : va_W)))))) := m_p1 (A := (List.take 1 ((([(h0, .inr (5, [.null, .null, .int 0, .null, .int 0, .null, .null, .null, .null]))] : va_W)) ++ (([(q1, .inr (2, [.int 0, .int 0, .int 0, .null, .null, .null, .null, .null, .null, .null, .null]))] : va_W))))) (m := ([(q1, .inr (2, [.int 0, .int 0, .int 0, .null, .null, .null, .null, .null, .null, .null, .null]))] : va_W)) (C := (List.drop 2 ((([(h0, .inr (5, [.null, .null, .int 0, .null, .int 0, .null, .null, .null, .null]))] : va_W)) ++ (([(q1, .inr (2, [.int 0, .int 0, .int 0, .null, .null, .null, .null, .null, .null, .null, .null]))] : va_W)))))
  obtain ⟨hPc, hDc, hFc⟩ := m_pre hpm hP hD hS hA
  refine mINX (host := "OneDidAll") (n := 0) (rest := [.ref q1, .ref h0]) (As := []) CC hKN hGl (c_X2_init l E q1 _) gX5_init_X2_init_n11 rfl ⟨rfl, rfl⟩ (hts (.initialized RX2) (by decide +kernel)) (hKN.2.2.1 ("OneDidAll$Room", 11, ⟨"OneDidAll$Group", "<init>", "()V"⟩, "OneDidAll") (by decide +kernel)) (hts (.instanceMethod yX2_init) (by decide +kernel)) rfl (by decide +kernel) ⟨Nat.le_of_ble_eq_true rfl, Nat.le_of_ble_eq_true rfl⟩ hPc hDc m_nil m_nilA hS hFc rfl hl.1 rfl (Nat.le_of_ble_eq_true rfl) ⟨Nat.le_of_ble_eq_true rfl, Nat.le_of_ble_eq_true rfl⟩ dX5_init_9 (fun u2 H locs hu hP1 hD1 hz1 hk1 hSn => ?_)
  have hpn : List.Perm ((([(h0, .inr (5, [.null, .null, .int 0, .null, .int 0, .null, .null, .null, .null]))] : va_W)) ++ (Group_c E u2 Group_0)) ((Group_c E u2 Group_0) ++ ((List.take 1 ((([(h0, .inr (5, [.null, .null, .int 0, .null, .int 0, .null, .null, .null, .null]))] : va_W)) ++ (([(q1, .inr (2, [.int 0, .int 0, .int 0, .null, .null, .null, .null, .null, .null, .null, .null]))] : va_W)))) ++ (List.drop 2 ((([(h0, .inr (5, [.null, .null, .int 0, .null, .int 0, .null, .null, .null, .null]))] : va_W)) ++ (([(q1, .inr (2, [.int 0, .int 0, .int 0, .null, .null, .null, .null, .null, .null, .null, .null]))] : va_W)))))) := m_p1 (A := (List.take 1 ((([(h0, .inr (5, [.null, .null, .int 0, .null, .int 0, .null, .null, .null, .null]))] : va_W)) ++ (([(q1, .inr (2, [.int 0, .int 0, .int 0, .null, .null, .null, .null, .null, .null, .null, .null]))] : va_W))))) (m := (Group_c E u2 Group_0)) (C := (List.drop 2 ((([(h0, .inr (5, [.null, .null, .int 0, .null, .int 0, .null, .null, .null, .null]))] : va_W)) ++ (([(q1, .inr (2, [.int 0, .int 0, .int 0, .null, .null, .null, .null, .null, .null, .null, .null]))] : va_W)))))
  obtain ⟨hPn, hDn⟩ := m_spl hpm hpn hP hD hk1 hFc hP1 hD1
  clear hpm hpn hPc hDc hFc hP1 hD1 hk1 hz1
  subst hu
  have hP := hPn
  have hD := hDn
  have hS := hSn
  refine W.widen (k := 9) (n := 77) (Nat.le_of_ble_eq_true rfl) (Nat.le_of_ble_eq_true rfl) ?_
  refine W.eq (g2 := F0 m 12 ls [.ref (Groupa_self u2), .ref h0]) rfl ?_
  refine va_putF (D := E.1) (ci := 5) (v := .ref (Groupa_self u2)) (ty := .object "OneDidAll$Group") (C := RX5) (T := TX5) (N := 9) hx hb hts k5 tyX5 tyX5_ok nmX5 hown hK hP hD hS 0 rfl rfl 0 (by decide) k4 (fun _ h9 => h9) rfl hin rfl (by decide +kernel) rfl rfl (Nat.le_of_ble_eq_true rfl) dX5_init_12 (fun H locs hP hD hS => ?_)
  have hP : va_P E.1 vwCl ((([(h0, .inr (5, [.ref (Groupa_self u2), .null, .int 0, .null, .int 0, .null, .null, .null, .null]))] : va_W)) ++ (Group_c E u2 Group_0)) H := hP
  have hD : va_D A ((([(h0, .inr (5, [.ref (Groupa_self u2), .null, .int 0, .null, .int 0, .null, .null, .null, .null]))] : va_W)) ++ (Group_c E u2 Group_0)) := hD
  refine lv_aload_n hx hb dX5_init_15 rfl (lv_at hl 0 rfl) ?_
  refine lv_bipush (v := 100) hx hb dX5_init_16 (by decide) ?_
  refine va_newa (atype := .byte) (ty := .byte) (a0 := (100, .inl (fun _ => 0))) hx hb k6 rfl hK hP hD hS hA (fun _ => rfl) (by decide) (by decide) (by decide) (Nat.le_of_ble_eq_true rfl) (Nat.le_of_ble_eq_true rfl) dX5_init_18 (fun q3 cA H hKn hP hD hS => ?_)
  obtain rfl := m_cyB hKn
  have hP : va_P E.1 vwCl ((([(h0, .inr (5, [.ref (Groupa_self u2), .null, .int 0, .null, .int 0, .null, .null, .null, .null]))] : va_W)) ++ ((Group_c E u2 Group_0) ++ (([(q3, .inl (E.2.1, 100, .inl (fun _ => 0)))] : va_W)))) H := hP
  have hD : va_D A ((([(h0, .inr (5, [.ref (Groupa_self u2), .null, .int 0, .null, .int 0, .null, .null, .null, .null]))] : va_W)) ++ ((Group_c E u2 Group_0) ++ (([(q3, .inl (E.2.1, 100, .inl (fun _ => 0)))] : va_W)))) := hD
  refine W.widen (k := 10) (n := 177) (Nat.le_of_ble_eq_true rfl) (Nat.le_of_ble_eq_true rfl) ?_
  refine W.eq (g2 := F0 m 20 ls [.ref q3, .ref h0]) rfl ?_
  refine va_putF (D := E.1) (ci := 5) (v := .ref q3) (ty := .array .byte) (C := RX5) (T := TX5) (N := 9) hx hb hts k5 tyX5 tyX5_ok nmX5 hown hK hP hD hS 0 rfl rfl 1 (by decide) k7 (fun _ h9 => h9) rfl hin rfl (by decide +kernel) rfl rfl (Nat.le_of_ble_eq_true rfl) dX5_init_20 (fun H locs hP hD hS => ?_)
  have hP : va_P E.1 vwCl ((([(h0, .inr (5, [.ref (Groupa_self u2), .ref q3, .int 0, .null, .int 0, .null, .null, .null, .null]))] : va_W)) ++ ((Group_c E u2 Group_0) ++ (([(q3, .inl (E.2.1, 100, .inl (fun _ => 0)))] : va_W)))) H := hP
  have hD : va_D A ((([(h0, .inr (5, [.ref (Groupa_self u2), .ref q3, .int 0, .null, .int 0, .null, .null, .null, .null]))] : va_W)) ++ ((Group_c E u2 Group_0) ++ (([(q3, .inl (E.2.1, 100, .inl (fun _ => 0)))] : va_W)))) := hD
  refine lv_aload_n hx hb dX5_init_23 rfl (lv_at hl 0 rfl) ?_
  refine lv_iconst (v := 0) hx hb dX5_init_24 (by decide) ?_
  refine va_put (D := E.1) (ci := 5) (v := .int 0) (ty := .int) (C := RX5) (T := TX5) (N := 9) hx hb hts k5 tyX5 tyX5_ok nmX5 hown hK hP hD hS 0 rfl rfl 2 (by decide) k8 (fun _ h9 => h9) rfl (by decide +kernel) rfl rfl (Nat.le_of_ble_eq_true rfl) dX5_init_25 (fun H locs hP hD hS => ?_)
  have hP : va_P E.1 vwCl ((([(h0, .inr (5, [.ref (Groupa_self u2), .ref q3, .int 0, .null, .int 0, .null, .null, .null, .null]))] : va_W)) ++ ((Group_c E u2 Group_0) ++ (([(q3, .inl (E.2.1, 100, .inl (fun _ => 0)))] : va_W)))) H := hP
  have hD : va_D A ((([(h0, .inr (5, [.ref (Groupa_self u2), .ref q3, .int 0, .null, .int 0, .null, .null, .null, .null]))] : va_W)) ++ ((Group_c E u2 Group_0) ++ (([(q3, .inl (E.2.1, 100, .inl (fun _ => 0)))] : va_W)))) := hD
  refine lv_aload_n hx hb dX5_init_28 rfl (lv_at hl 0 rfl) ?_
  refine lv_iconst (v := 5) hx hb dX5_init_29 (by decide) ?_
  refine va_newq (C := "OneDidAll$Lesson") hx hb hown k9 hover hK hP hD hS hA (by decide) (by decide : (5 : Int32).toNatClampNeg = 5) (by decide) (Nat.le_of_ble_eq_true rfl) (Nat.le_of_ble_eq_true rfl) dX5_init_30 (fun q4 cA H hKn hP hD hS => ?_)
  obtain rfl := m_cyL hKn
  have hP : va_P E.1 vwCl ((([(h0, .inr (5, [.ref (Groupa_self u2), .ref q3, .int 0, .null, .int 0, .null, .null, .null, .null]))] : va_W)) ++ ((Group_c E u2 Group_0) ++ ((([(q3, .inl (E.2.1, 100, .inl (fun _ => 0)))] : va_W)) ++ (([(q4, .inl (E.2.2.2.2.1, 5, .inr (.inr (.inr (.inr (fun _ => none))))))] : va_W))))) H := hP
  have hD : va_D A ((([(h0, .inr (5, [.ref (Groupa_self u2), .ref q3, .int 0, .null, .int 0, .null, .null, .null, .null]))] : va_W)) ++ ((Group_c E u2 Group_0) ++ ((([(q3, .inl (E.2.1, 100, .inl (fun _ => 0)))] : va_W)) ++ (([(q4, .inl (E.2.2.2.2.1, 5, .inr (.inr (.inr (.inr (fun _ => none))))))] : va_W))))) := hD
  refine W.widen (k := 11) (n := 182) (Nat.le_of_ble_eq_true rfl) (Nat.le_of_ble_eq_true rfl) ?_
  refine W.eq (g2 := F0 m 33 ls [.ref q4, .ref h0]) rfl ?_
  refine va_putF (D := E.1) (ci := 5) (v := .ref q4) (ty := .array (.object "OneDidAll$Lesson")) (C := RX5) (T := TX5) (N := 9) hx hb hts k5 tyX5 tyX5_ok nmX5 hown hK hP hD hS 0 rfl rfl 3 (by decide) k10 (fun _ h9 => h9) rfl hin rfl (by decide +kernel) rfl rfl (Nat.le_of_ble_eq_true rfl) dX5_init_33 (fun H locs hP hD hS => ?_)
  have hP : va_P E.1 vwCl ((([(h0, .inr (5, [.ref (Groupa_self u2), .ref q3, .int 0, .ref q4, .int 0, .null, .null, .null, .null]))] : va_W)) ++ ((Group_c E u2 Group_0) ++ ((([(q3, .inl (E.2.1, 100, .inl (fun _ => 0)))] : va_W)) ++ (([(q4, .inl (E.2.2.2.2.1, 5, .inr (.inr (.inr (.inr (fun _ => none))))))] : va_W))))) H := hP
  have hD : va_D A ((([(h0, .inr (5, [.ref (Groupa_self u2), .ref q3, .int 0, .ref q4, .int 0, .null, .null, .null, .null]))] : va_W)) ++ ((Group_c E u2 Group_0) ++ ((([(q3, .inl (E.2.1, 100, .inl (fun _ => 0)))] : va_W)) ++ (([(q4, .inl (E.2.2.2.2.1, 5, .inr (.inr (.inr (.inr (fun _ => none))))))] : va_W))))) := hD
  refine lv_aload_n hx hb dX5_init_36 rfl (lv_at hl 0 rfl) ?_
  refine lv_iconst (v := 0) hx hb dX5_init_37 (by decide) ?_
  refine va_put (D := E.1) (ci := 5) (v := .int 0) (ty := .int) (C := RX5) (T := TX5) (N := 9) hx hb hts k5 tyX5 tyX5_ok nmX5 hown hK hP hD hS 0 rfl rfl 4 (by decide) k11 (fun _ h9 => h9) rfl (by decide +kernel) rfl rfl (Nat.le_of_ble_eq_true rfl) dX5_init_38 (fun H locs hP hD hS => ?_)
  have hP : va_P E.1 vwCl ((([(h0, .inr (5, [.ref (Groupa_self u2), .ref q3, .int 0, .ref q4, .int 0, .null, .null, .null, .null]))] : va_W)) ++ ((Group_c E u2 Group_0) ++ ((([(q3, .inl (E.2.1, 100, .inl (fun _ => 0)))] : va_W)) ++ (([(q4, .inl (E.2.2.2.2.1, 5, .inr (.inr (.inr (.inr (fun _ => none))))))] : va_W))))) H := hP
  have hD : va_D A ((([(h0, .inr (5, [.ref (Groupa_self u2), .ref q3, .int 0, .ref q4, .int 0, .null, .null, .null, .null]))] : va_W)) ++ ((Group_c E u2 Group_0) ++ ((([(q3, .inl (E.2.1, 100, .inl (fun _ => 0)))] : va_W)) ++ (([(q4, .inl (E.2.2.2.2.1, 5, .inr (.inr (.inr (.inr (fun _ => none))))))] : va_W))))) := hD
  refine lv_aload_n hx hb dX5_init_41 rfl (lv_at hl 0 rfl) ?_
  refine va_new (ci := 3) (fs := [.null, .int 0, .null, .null, .int 0, .int 0, .int 0]) (C := RX3) (T := TX3) (N := 7) hx hb hts k14 tyX3 tyX3_ok hown k9 k12 k13 hK hP hD hS hA rfl (by decide +kernel) (Nat.le_of_ble_eq_true rfl) (Nat.le_of_ble_eq_true rfl) dX5_init_42 (fun q5 H hP hD hS => ?_)
  have hP : va_P E.1 vwCl ((([(h0, .inr (5, [.ref (Groupa_self u2), .ref q3, .int 0, .ref q4, .int 0, .null, .null, .null, .null]))] : va_W)) ++ ((Group_c E u2 Group_0) ++ ((([(q3, .inl (E.2.1, 100, .inl (fun _ => 0)))] : va_W)) ++ ((([(q4, .inl (E.2.2.2.2.1, 5, .inr (.inr (.inr (.inr (fun _ => none))))))] : va_W)) ++ (([(q5, .inr (3, [.null, .int 0, .null, .null, .int 0, .int 0, .int 0]))] : va_W)))))) H := hP
  have hD : va_D A ((([(h0, .inr (5, [.ref (Groupa_self u2), .ref q3, .int 0, .ref q4, .int 0, .null, .null, .null, .null]))] : va_W)) ++ ((Group_c E u2 Group_0) ++ ((([(q3, .inl (E.2.1, 100, .inl (fun _ => 0)))] : va_W)) ++ ((([(q4, .inl (E.2.2.2.2.1, 5, .inr (.inr (.inr (.inr (fun _ => none))))))] : va_W)) ++ (([(q5, .inr (3, [.null, .int 0, .null, .null, .int 0, .int 0, .int 0]))] : va_W)))))) := hD
  refine W.widen (k := 12) (n := 189) (Nat.le_of_ble_eq_true rfl) (Nat.le_of_ble_eq_true rfl) ?_
  refine W.eq (g2 := F0 m 45 ls [.ref q5, .ref h0]) rfl ?_
  refine lv_dup hx hb dX5_init_45 rfl ?_
  have hpm : List.Perm ((([(h0, .inr (5, [.ref (Groupa_self u2), .ref q3, .int 0, .ref q4, .int 0, .null, .null, .null, .null]))] : va_W)) ++ ((Group_c E u2 Group_0) ++ ((([(q3, .inl (E.2.1, 100, .inl (fun _ => 0)))] : va_W)) ++ ((([(q4, .inl (E.2.2.2.2.1, 5, .inr (.inr (.inr (.inr (fun _ => none))))))] : va_W)) ++ (([(q5, .inr (3, [.null, .int 0, .null, .null, .int 0, .int 0, .int 0]))] : va_W)))))) (([(q5, .inr (3, [.null, .int 0, .null, .null, .int 0, .int 0, .int 0]))] : va_W) ++ ((List.take 12 ((([(h0, .inr (5, [.ref (Groupa_self u2), .ref q3, .int 0, .ref q4, .int 0, .null, .null, .null, .null]))] : va_W)) ++ ((Group_c E u2 Group_0) ++ ((([(q3, .inl (E.2.1, 100, .inl (fun _ => 0)))] : va_W)) ++ ((([(q4, .inl (E.2.2.2.2.1, 5, .inr (.inr (.inr (.inr (fun _ => none))))))] : va_W)) ++ (([(q5, .inr (3, [.null, .int 0, .null, .null, .int 0, .int 0, .int 0]))] : va_W))))))) ++ (List.drop 13 ((([(h0, .inr (5, [.ref (Groupa_self u2), .ref q3, .int 0, .ref q4, .int 0, .null, .null, .null, .null]))] : va_W)) ++ ((Group_c E u2 Group_0) ++ ((([(q3, .inl (E.2.1, 100, .inl (fun _ => 0)))] : va_W)) ++ ((([(q4, .inl (E.2.2.2.2.1, 5, .inr (.inr (.inr (.inr (fun _ => none))))))] : va_W)) ++ (([(q5, .inr (3, [.null, .int 0, .null, .null, .int 0, .int 0, .int 0]))] : va_W))))))))) := m_p1 (A := (List.take 12 ((([(h0, .inr (5, [.ref (Groupa_self u2), .ref q3, .int 0, .ref q4, .int 0, .null, .null, .null, .null]))] : va_W)) ++ ((Group_c E u2 Group_0) ++ ((([(q3, .inl (E.2.1, 100, .inl (fun _ => 0)))] : va_W)) ++ ((([(q4, .inl (E.2.2.2.2.1, 5, .inr (.inr (.inr (.inr (fun _ => none))))))] : va_W)) ++ (([(q5, .inr (3, [.null, .int 0, .null, .null, .int 0, .int 0, .int 0]))] : va_W)))))))) (m := ([(q5, .inr (3, [.null, .int 0, .null, .null, .int 0, .int 0, .int 0]))] : va_W)) (C := (List.drop 13 ((([(h0, .inr (5, [.ref (Groupa_self u2), .ref q3, .int 0, .ref q4, .int 0, .null, .null, .null, .null]))] : va_W)) ++ ((Group_c E u2 Group_0) ++ ((([(q3, .inl (E.2.1, 100, .inl (fun _ => 0)))] : va_W)) ++ ((([(q4, .inl (E.2.2.2.2.1, 5, .inr (.inr (.inr (.inr (fun _ => none))))))] : va_W)) ++ (([(q5, .inr (3, [.null, .int 0, .null, .null, .int 0, .int 0, .int 0]))] : va_W))))))))
  obtain ⟨hPc, hDc, hFc⟩ := m_pre hpm hP hD hS hA
  refine mINX (host := "OneDidAll") (n := 0) (rest := [.ref q5, .ref h0]) (As := []) CC hKN hGl (c_X3_init l E q5 _) gX5_init_X3_init_n35 rfl ⟨rfl, rfl⟩ (hts (.initialized RX3) (by decide +kernel)) (hKN.2.2.1 ("OneDidAll$Room", 35, ⟨"OneDidAll$Lesson", "<init>", "()V"⟩, "OneDidAll") (by decide +kernel)) (hts (.instanceMethod yX3_init) (by decide +kernel)) rfl (by decide +kernel) ⟨Nat.le_of_ble_eq_true rfl, Nat.le_of_ble_eq_true rfl⟩ hPc hDc m_nil m_nilA hS hFc rfl hl.1 rfl (Nat.le_of_ble_eq_true rfl) ⟨Nat.le_of_ble_eq_true rfl, Nat.le_of_ble_eq_true rfl⟩ dX5_init_46 (fun u6 H locs hu hP1 hD1 hz1 hk1 hSn => ?_)
  have hpn : List.Perm ((([(h0, .inr (5, [.ref (Groupa_self u2), .ref q3, .int 0, .ref q4, .int 0, .null, .null, .null, .null]))] : va_W)) ++ ((Group_c E u2 Group_0) ++ ((([(q3, .inl (E.2.1, 100, .inl (fun _ => 0)))] : va_W)) ++ ((([(q4, .inl (E.2.2.2.2.1, 5, .inr (.inr (.inr (.inr (fun _ => none))))))] : va_W)) ++ (Lesson_c E u6 Lesson_0))))) ((Lesson_c E u6 Lesson_0) ++ ((List.take 12 ((([(h0, .inr (5, [.ref (Groupa_self u2), .ref q3, .int 0, .ref q4, .int 0, .null, .null, .null, .null]))] : va_W)) ++ ((Group_c E u2 Group_0) ++ ((([(q3, .inl (E.2.1, 100, .inl (fun _ => 0)))] : va_W)) ++ ((([(q4, .inl (E.2.2.2.2.1, 5, .inr (.inr (.inr (.inr (fun _ => none))))))] : va_W)) ++ (([(q5, .inr (3, [.null, .int 0, .null, .null, .int 0, .int 0, .int 0]))] : va_W))))))) ++ (List.drop 13 ((([(h0, .inr (5, [.ref (Groupa_self u2), .ref q3, .int 0, .ref q4, .int 0, .null, .null, .null, .null]))] : va_W)) ++ ((Group_c E u2 Group_0) ++ ((([(q3, .inl (E.2.1, 100, .inl (fun _ => 0)))] : va_W)) ++ ((([(q4, .inl (E.2.2.2.2.1, 5, .inr (.inr (.inr (.inr (fun _ => none))))))] : va_W)) ++ (([(q5, .inr (3, [.null, .int 0, .null, .null, .int 0, .int 0, .int 0]))] : va_W))))))))) := m_p1 (A := (List.take 12 ((([(h0, .inr (5, [.ref (Groupa_self u2), .ref q3, .int 0, .ref q4, .int 0, .null, .null, .null, .null]))] : va_W)) ++ ((Group_c E u2 Group_0) ++ ((([(q3, .inl (E.2.1, 100, .inl (fun _ => 0)))] : va_W)) ++ ((([(q4, .inl (E.2.2.2.2.1, 5, .inr (.inr (.inr (.inr (fun _ => none))))))] : va_W)) ++ (([(q5, .inr (3, [.null, .int 0, .null, .null, .int 0, .int 0, .int 0]))] : va_W)))))))) (m := (Lesson_c E u6 Lesson_0)) (C := (List.drop 13 ((([(h0, .inr (5, [.ref (Groupa_self u2), .ref q3, .int 0, .ref q4, .int 0, .null, .null, .null, .null]))] : va_W)) ++ ((Group_c E u2 Group_0) ++ ((([(q3, .inl (E.2.1, 100, .inl (fun _ => 0)))] : va_W)) ++ ((([(q4, .inl (E.2.2.2.2.1, 5, .inr (.inr (.inr (.inr (fun _ => none))))))] : va_W)) ++ (([(q5, .inr (3, [.null, .int 0, .null, .null, .int 0, .int 0, .int 0]))] : va_W))))))))
  obtain ⟨hPn, hDn⟩ := m_spl hpm hpn hP hD hk1 hFc hP1 hD1
  clear hpm hpn hPc hDc hFc hP1 hD1 hk1 hz1
  subst hu
  have hP := hPn
  have hD := hDn
  have hS := hSn
  refine W.widen (k := 15) (n := 309) (Nat.le_of_ble_eq_true rfl) (Nat.le_of_ble_eq_true rfl) ?_
  refine W.eq (g2 := F0 m 49 ls [.ref (Lessona_self u6), .ref h0]) rfl ?_
  refine va_putF (D := E.1) (ci := 5) (v := .ref (Lessona_self u6)) (ty := .object "OneDidAll$Lesson") (C := RX5) (T := TX5) (N := 9) hx hb hts k5 tyX5 tyX5_ok nmX5 hown hK hP hD hS 0 rfl rfl 5 (by decide) k15 (fun _ h9 => h9) rfl hin rfl (by decide +kernel) rfl rfl (Nat.le_of_ble_eq_true rfl) dX5_init_49 (fun H locs hP hD hS => ?_)
  have hP : va_P E.1 vwCl ((([(h0, .inr (5, [.ref (Groupa_self u2), .ref q3, .int 0, .ref q4, .int 0, .ref (Lessona_self u6), .null, .null, .null]))] : va_W)) ++ ((Group_c E u2 Group_0) ++ ((([(q3, .inl (E.2.1, 100, .inl (fun _ => 0)))] : va_W)) ++ ((([(q4, .inl (E.2.2.2.2.1, 5, .inr (.inr (.inr (.inr (fun _ => none))))))] : va_W)) ++ (Lesson_c E u6 Lesson_0))))) H := hP
  have hD : va_D A ((([(h0, .inr (5, [.ref (Groupa_self u2), .ref q3, .int 0, .ref q4, .int 0, .ref (Lessona_self u6), .null, .null, .null]))] : va_W)) ++ ((Group_c E u2 Group_0) ++ ((([(q3, .inl (E.2.1, 100, .inl (fun _ => 0)))] : va_W)) ++ ((([(q4, .inl (E.2.2.2.2.1, 5, .inr (.inr (.inr (.inr (fun _ => none))))))] : va_W)) ++ (Lesson_c E u6 Lesson_0))))) := hD
  refine lv_aload_n hx hb dX5_init_52 rfl (lv_at hl 0 rfl) ?_
  refine va_new (ci := 6) (fs := [.null, .null, .int 0]) (C := RX6) (T := TX6) (N := 3) hx hb hts k19 tyX6 tyX6_ok hown k16 k17 k18 hK hP hD hS hA rfl (by decide +kernel) (Nat.le_of_ble_eq_true rfl) (Nat.le_of_ble_eq_true rfl) dX5_init_53 (fun q7 H hP hD hS => ?_)
  have hP : va_P E.1 vwCl ((([(h0, .inr (5, [.ref (Groupa_self u2), .ref q3, .int 0, .ref q4, .int 0, .ref (Lessona_self u6), .null, .null, .null]))] : va_W)) ++ ((Group_c E u2 Group_0) ++ ((([(q3, .inl (E.2.1, 100, .inl (fun _ => 0)))] : va_W)) ++ ((([(q4, .inl (E.2.2.2.2.1, 5, .inr (.inr (.inr (.inr (fun _ => none))))))] : va_W)) ++ ((Lesson_c E u6 Lesson_0) ++ (([(q7, .inr (6, [.null, .null, .int 0]))] : va_W))))))) H := hP
  have hD : va_D A ((([(h0, .inr (5, [.ref (Groupa_self u2), .ref q3, .int 0, .ref q4, .int 0, .ref (Lessona_self u6), .null, .null, .null]))] : va_W)) ++ ((Group_c E u2 Group_0) ++ ((([(q3, .inl (E.2.1, 100, .inl (fun _ => 0)))] : va_W)) ++ ((([(q4, .inl (E.2.2.2.2.1, 5, .inr (.inr (.inr (.inr (fun _ => none))))))] : va_W)) ++ ((Lesson_c E u6 Lesson_0) ++ (([(q7, .inr (6, [.null, .null, .int 0]))] : va_W))))))) := hD
  refine W.widen (k := 16) (n := 312) (Nat.le_of_ble_eq_true rfl) (Nat.le_of_ble_eq_true rfl) ?_
  refine W.eq (g2 := F0 m 56 ls [.ref q7, .ref h0]) rfl ?_
  refine lv_dup hx hb dX5_init_56 rfl ?_
  refine lv_iconst (v := 5) hx hb dX5_init_57 (by decide) ?_
  have hpm : List.Perm ((([(h0, .inr (5, [.ref (Groupa_self u2), .ref q3, .int 0, .ref q4, .int 0, .ref (Lessona_self u6), .null, .null, .null]))] : va_W)) ++ ((Group_c E u2 Group_0) ++ ((([(q3, .inl (E.2.1, 100, .inl (fun _ => 0)))] : va_W)) ++ ((([(q4, .inl (E.2.2.2.2.1, 5, .inr (.inr (.inr (.inr (fun _ => none))))))] : va_W)) ++ ((Lesson_c E u6 Lesson_0) ++ (([(q7, .inr (6, [.null, .null, .int 0]))] : va_W))))))) (([(q7, .inr (6, [.null, .null, .int 0]))] : va_W) ++ ((List.take 16 ((([(h0, .inr (5, [.ref (Groupa_self u2), .ref q3, .int 0, .ref q4, .int 0, .ref (Lessona_self u6), .null, .null, .null]))] : va_W)) ++ ((Group_c E u2 Group_0) ++ ((([(q3, .inl (E.2.1, 100, .inl (fun _ => 0)))] : va_W)) ++ ((([(q4, .inl (E.2.2.2.2.1, 5, .inr (.inr (.inr (.inr (fun _ => none))))))] : va_W)) ++ ((Lesson_c E u6 Lesson_0) ++ (([(q7, .inr (6, [.null, .null, .int 0]))] : va_W)))))))) ++ (List.drop 17 ((([(h0, .inr (5, [.ref (Groupa_self u2), .ref q3, .int 0, .ref q4, .int 0, .ref (Lessona_self u6), .null, .null, .null]))] : va_W)) ++ ((Group_c E u2 Group_0) ++ ((([(q3, .inl (E.2.1, 100, .inl (fun _ => 0)))] : va_W)) ++ ((([(q4, .inl (E.2.2.2.2.1, 5, .inr (.inr (.inr (.inr (fun _ => none))))))] : va_W)) ++ ((Lesson_c E u6 Lesson_0) ++ (([(q7, .inr (6, [.null, .null, .int 0]))] : va_W)))))))))) := m_p1 (A := (List.take 16 ((([(h0, .inr (5, [.ref (Groupa_self u2), .ref q3, .int 0, .ref q4, .int 0, .ref (Lessona_self u6), .null, .null, .null]))] : va_W)) ++ ((Group_c E u2 Group_0) ++ ((([(q3, .inl (E.2.1, 100, .inl (fun _ => 0)))] : va_W)) ++ ((([(q4, .inl (E.2.2.2.2.1, 5, .inr (.inr (.inr (.inr (fun _ => none))))))] : va_W)) ++ ((Lesson_c E u6 Lesson_0) ++ (([(q7, .inr (6, [.null, .null, .int 0]))] : va_W))))))))) (m := ([(q7, .inr (6, [.null, .null, .int 0]))] : va_W)) (C := (List.drop 17 ((([(h0, .inr (5, [.ref (Groupa_self u2), .ref q3, .int 0, .ref q4, .int 0, .ref (Lessona_self u6), .null, .null, .null]))] : va_W)) ++ ((Group_c E u2 Group_0) ++ ((([(q3, .inl (E.2.1, 100, .inl (fun _ => 0)))] : va_W)) ++ ((([(q4, .inl (E.2.2.2.2.1, 5, .inr (.inr (.inr (.inr (fun _ => none))))))] : va_W)) ++ ((Lesson_c E u6 Lesson_0) ++ (([(q7, .inr (6, [.null, .null, .int 0]))] : va_W)))))))))
  obtain ⟨hPc, hDc, hFc⟩ := m_pre hpm hP hD hS hA
  refine mIX (n := 1) (rest := [.ref q7, .ref h0]) (As := [.int 5]) CC hKN hGl (c_X6_init_5 l E q7 _) gX5_init_X6_init rfl ⟨rfl, rfl⟩ (hts (.initialized RX6) (by decide +kernel)) (hts (.methodLink RX5 42 yX6_init) (by decide +kernel)) (hts (.instanceMethod yX6_init) (by decide +kernel)) rfl (by decide +kernel) ⟨Nat.le_of_ble_eq_true rfl, Nat.le_of_ble_eq_true rfl⟩ hPc hDc m_nil m_nilA hS hFc rfl hl.1 rfl (Nat.le_of_ble_eq_true rfl) ⟨Nat.le_of_ble_eq_true rfl, Nat.le_of_ble_eq_true rfl⟩ dX5_init_58 (fun u8 H locs hu hP1 hD1 hz1 hk1 hSn => ?_)
  have hpn : List.Perm ((([(h0, .inr (5, [.ref (Groupa_self u2), .ref q3, .int 0, .ref q4, .int 0, .ref (Lessona_self u6), .null, .null, .null]))] : va_W)) ++ ((Group_c E u2 Group_0) ++ ((([(q3, .inl (E.2.1, 100, .inl (fun _ => 0)))] : va_W)) ++ ((([(q4, .inl (E.2.2.2.2.1, 5, .inr (.inr (.inr (.inr (fun _ => none))))))] : va_W)) ++ ((Lesson_c E u6 Lesson_0) ++ (Rows_c E u8 (Rows_0 5))))))) ((Rows_c E u8 (Rows_0 5)) ++ ((List.take 16 ((([(h0, .inr (5, [.ref (Groupa_self u2), .ref q3, .int 0, .ref q4, .int 0, .ref (Lessona_self u6), .null, .null, .null]))] : va_W)) ++ ((Group_c E u2 Group_0) ++ ((([(q3, .inl (E.2.1, 100, .inl (fun _ => 0)))] : va_W)) ++ ((([(q4, .inl (E.2.2.2.2.1, 5, .inr (.inr (.inr (.inr (fun _ => none))))))] : va_W)) ++ ((Lesson_c E u6 Lesson_0) ++ (([(q7, .inr (6, [.null, .null, .int 0]))] : va_W)))))))) ++ (List.drop 17 ((([(h0, .inr (5, [.ref (Groupa_self u2), .ref q3, .int 0, .ref q4, .int 0, .ref (Lessona_self u6), .null, .null, .null]))] : va_W)) ++ ((Group_c E u2 Group_0) ++ ((([(q3, .inl (E.2.1, 100, .inl (fun _ => 0)))] : va_W)) ++ ((([(q4, .inl (E.2.2.2.2.1, 5, .inr (.inr (.inr (.inr (fun _ => none))))))] : va_W)) ++ ((Lesson_c E u6 Lesson_0) ++ (([(q7, .inr (6, [.null, .null, .int 0]))] : va_W)))))))))) := m_p1 (A := (List.take 16 ((([(h0, .inr (5, [.ref (Groupa_self u2), .ref q3, .int 0, .ref q4, .int 0, .ref (Lessona_self u6), .null, .null, .null]))] : va_W)) ++ ((Group_c E u2 Group_0) ++ ((([(q3, .inl (E.2.1, 100, .inl (fun _ => 0)))] : va_W)) ++ ((([(q4, .inl (E.2.2.2.2.1, 5, .inr (.inr (.inr (.inr (fun _ => none))))))] : va_W)) ++ ((Lesson_c E u6 Lesson_0) ++ (([(q7, .inr (6, [.null, .null, .int 0]))] : va_W))))))))) (m := (Rows_c E u8 (Rows_0 5))) (C := (List.drop 17 ((([(h0, .inr (5, [.ref (Groupa_self u2), .ref q3, .int 0, .ref q4, .int 0, .ref (Lessona_self u6), .null, .null, .null]))] : va_W)) ++ ((Group_c E u2 Group_0) ++ ((([(q3, .inl (E.2.1, 100, .inl (fun _ => 0)))] : va_W)) ++ ((([(q4, .inl (E.2.2.2.2.1, 5, .inr (.inr (.inr (.inr (fun _ => none))))))] : va_W)) ++ ((Lesson_c E u6 Lesson_0) ++ (([(q7, .inr (6, [.null, .null, .int 0]))] : va_W)))))))))
  obtain ⟨hPn, hDn⟩ := m_spl hpm hpn hP hD hk1 hFc hP1 hD1
  clear hpm hpn hPc hDc hFc hP1 hD1 hk1 hz1
  subst hu
  have hP := hPn
  have hD := hDn
  have hS := hSn
  refine W.widen (k := 18) (n := 322) (Nat.le_of_ble_eq_true rfl) (Nat.le_of_ble_eq_true rfl) ?_
  refine W.eq (g2 := F0 m 61 ls [.ref (Rowsa_self u8), .ref h0]) rfl ?_
  refine va_putF (D := E.1) (ci := 5) (v := .ref (Rowsa_self u8)) (ty := .object "OneDidAll$Rows") (C := RX5) (T := TX5) (N := 9) hx hb hts k5 tyX5 tyX5_ok nmX5 hown hK hP hD hS 0 rfl rfl 6 (by decide) k20 (fun _ h9 => h9) rfl hin rfl (by decide +kernel) rfl rfl (Nat.le_of_ble_eq_true rfl) dX5_init_61 (fun H locs hP hD hS => ?_)
  have hP : va_P E.1 vwCl ((([(h0, .inr (5, [.ref (Groupa_self u2), .ref q3, .int 0, .ref q4, .int 0, .ref (Lessona_self u6), .ref (Rowsa_self u8), .null, .null]))] : va_W)) ++ ((Group_c E u2 Group_0) ++ ((([(q3, .inl (E.2.1, 100, .inl (fun _ => 0)))] : va_W)) ++ ((([(q4, .inl (E.2.2.2.2.1, 5, .inr (.inr (.inr (.inr (fun _ => none))))))] : va_W)) ++ ((Lesson_c E u6 Lesson_0) ++ (Rows_c E u8 (Rows_0 5))))))) H := hP
  have hD : va_D A ((([(h0, .inr (5, [.ref (Groupa_self u2), .ref q3, .int 0, .ref q4, .int 0, .ref (Lessona_self u6), .ref (Rowsa_self u8), .null, .null]))] : va_W)) ++ ((Group_c E u2 Group_0) ++ ((([(q3, .inl (E.2.1, 100, .inl (fun _ => 0)))] : va_W)) ++ ((([(q4, .inl (E.2.2.2.2.1, 5, .inr (.inr (.inr (.inr (fun _ => none))))))] : va_W)) ++ ((Lesson_c E u6 Lesson_0) ++ (Rows_c E u8 (Rows_0 5))))))) := hD
  refine lv_aload_n hx hb dX5_init_64 rfl (lv_at hl 0 rfl) ?_
  refine va_new (ci := 6) (fs := [.null, .null, .int 0]) (C := RX6) (T := TX6) (N := 3) hx hb hts k19 tyX6 tyX6_ok hown k16 k17 k18 hK hP hD hS hA rfl (by decide +kernel) (Nat.le_of_ble_eq_true rfl) (Nat.le_of_ble_eq_true rfl) dX5_init_65 (fun q9 H hP hD hS => ?_)
  have hP : va_P E.1 vwCl ((([(h0, .inr (5, [.ref (Groupa_self u2), .ref q3, .int 0, .ref q4, .int 0, .ref (Lessona_self u6), .ref (Rowsa_self u8), .null, .null]))] : va_W)) ++ ((Group_c E u2 Group_0) ++ ((([(q3, .inl (E.2.1, 100, .inl (fun _ => 0)))] : va_W)) ++ ((([(q4, .inl (E.2.2.2.2.1, 5, .inr (.inr (.inr (.inr (fun _ => none))))))] : va_W)) ++ ((Lesson_c E u6 Lesson_0) ++ ((Rows_c E u8 (Rows_0 5)) ++ (([(q9, .inr (6, [.null, .null, .int 0]))] : va_W)))))))) H := hP
  have hD : va_D A ((([(h0, .inr (5, [.ref (Groupa_self u2), .ref q3, .int 0, .ref q4, .int 0, .ref (Lessona_self u6), .ref (Rowsa_self u8), .null, .null]))] : va_W)) ++ ((Group_c E u2 Group_0) ++ ((([(q3, .inl (E.2.1, 100, .inl (fun _ => 0)))] : va_W)) ++ ((([(q4, .inl (E.2.2.2.2.1, 5, .inr (.inr (.inr (.inr (fun _ => none))))))] : va_W)) ++ ((Lesson_c E u6 Lesson_0) ++ ((Rows_c E u8 (Rows_0 5)) ++ (([(q9, .inr (6, [.null, .null, .int 0]))] : va_W)))))))) := hD
  refine W.widen (k := 19) (n := 325) (Nat.le_of_ble_eq_true rfl) (Nat.le_of_ble_eq_true rfl) ?_
  refine W.eq (g2 := F0 m 68 ls [.ref q9, .ref h0]) rfl ?_
  refine lv_dup hx hb dX5_init_68 rfl ?_
  refine lv_bipush (v := 8) hx hb dX5_init_69 (by decide) ?_
  have hpm : List.Perm ((([(h0, .inr (5, [.ref (Groupa_self u2), .ref q3, .int 0, .ref q4, .int 0, .ref (Lessona_self u6), .ref (Rowsa_self u8), .null, .null]))] : va_W)) ++ ((Group_c E u2 Group_0) ++ ((([(q3, .inl (E.2.1, 100, .inl (fun _ => 0)))] : va_W)) ++ ((([(q4, .inl (E.2.2.2.2.1, 5, .inr (.inr (.inr (.inr (fun _ => none))))))] : va_W)) ++ ((Lesson_c E u6 Lesson_0) ++ ((Rows_c E u8 (Rows_0 5)) ++ (([(q9, .inr (6, [.null, .null, .int 0]))] : va_W)))))))) (([(q9, .inr (6, [.null, .null, .int 0]))] : va_W) ++ ((List.take 19 ((([(h0, .inr (5, [.ref (Groupa_self u2), .ref q3, .int 0, .ref q4, .int 0, .ref (Lessona_self u6), .ref (Rowsa_self u8), .null, .null]))] : va_W)) ++ ((Group_c E u2 Group_0) ++ ((([(q3, .inl (E.2.1, 100, .inl (fun _ => 0)))] : va_W)) ++ ((([(q4, .inl (E.2.2.2.2.1, 5, .inr (.inr (.inr (.inr (fun _ => none))))))] : va_W)) ++ ((Lesson_c E u6 Lesson_0) ++ ((Rows_c E u8 (Rows_0 5)) ++ (([(q9, .inr (6, [.null, .null, .int 0]))] : va_W))))))))) ++ (List.drop 20 ((([(h0, .inr (5, [.ref (Groupa_self u2), .ref q3, .int 0, .ref q4, .int 0, .ref (Lessona_self u6), .ref (Rowsa_self u8), .null, .null]))] : va_W)) ++ ((Group_c E u2 Group_0) ++ ((([(q3, .inl (E.2.1, 100, .inl (fun _ => 0)))] : va_W)) ++ ((([(q4, .inl (E.2.2.2.2.1, 5, .inr (.inr (.inr (.inr (fun _ => none))))))] : va_W)) ++ ((Lesson_c E u6 Lesson_0) ++ ((Rows_c E u8 (Rows_0 5)) ++ (([(q9, .inr (6, [.null, .null, .int 0]))] : va_W))))))))))) := m_p1 (A := (List.take 19 ((([(h0, .inr (5, [.ref (Groupa_self u2), .ref q3, .int 0, .ref q4, .int 0, .ref (Lessona_self u6), .ref (Rowsa_self u8), .null, .null]))] : va_W)) ++ ((Group_c E u2 Group_0) ++ ((([(q3, .inl (E.2.1, 100, .inl (fun _ => 0)))] : va_W)) ++ ((([(q4, .inl (E.2.2.2.2.1, 5, .inr (.inr (.inr (.inr (fun _ => none))))))] : va_W)) ++ ((Lesson_c E u6 Lesson_0) ++ ((Rows_c E u8 (Rows_0 5)) ++ (([(q9, .inr (6, [.null, .null, .int 0]))] : va_W)))))))))) (m := ([(q9, .inr (6, [.null, .null, .int 0]))] : va_W)) (C := (List.drop 20 ((([(h0, .inr (5, [.ref (Groupa_self u2), .ref q3, .int 0, .ref q4, .int 0, .ref (Lessona_self u6), .ref (Rowsa_self u8), .null, .null]))] : va_W)) ++ ((Group_c E u2 Group_0) ++ ((([(q3, .inl (E.2.1, 100, .inl (fun _ => 0)))] : va_W)) ++ ((([(q4, .inl (E.2.2.2.2.1, 5, .inr (.inr (.inr (.inr (fun _ => none))))))] : va_W)) ++ ((Lesson_c E u6 Lesson_0) ++ ((Rows_c E u8 (Rows_0 5)) ++ (([(q9, .inr (6, [.null, .null, .int 0]))] : va_W))))))))))
  obtain ⟨hPc, hDc, hFc⟩ := m_pre hpm hP hD hS hA
  refine mIX (n := 1) (rest := [.ref q9, .ref h0]) (As := [.int 8]) CC hKN hGl (c_X6_init_8 l E q9 _) gX5_init_X6_init rfl ⟨rfl, rfl⟩ (hts (.initialized RX6) (by decide +kernel)) (hts (.methodLink RX5 42 yX6_init) (by decide +kernel)) (hts (.instanceMethod yX6_init) (by decide +kernel)) rfl (by decide +kernel) ⟨Nat.le_of_ble_eq_true rfl, Nat.le_of_ble_eq_true rfl⟩ hPc hDc m_nil m_nilA hS hFc rfl hl.1 rfl (Nat.le_of_ble_eq_true rfl) ⟨Nat.le_of_ble_eq_true rfl, Nat.le_of_ble_eq_true rfl⟩ dX5_init_71 (fun u10 H locs hu hP1 hD1 hz1 hk1 hSn => ?_)
  have hpn : List.Perm ((([(h0, .inr (5, [.ref (Groupa_self u2), .ref q3, .int 0, .ref q4, .int 0, .ref (Lessona_self u6), .ref (Rowsa_self u8), .null, .null]))] : va_W)) ++ ((Group_c E u2 Group_0) ++ ((([(q3, .inl (E.2.1, 100, .inl (fun _ => 0)))] : va_W)) ++ ((([(q4, .inl (E.2.2.2.2.1, 5, .inr (.inr (.inr (.inr (fun _ => none))))))] : va_W)) ++ ((Lesson_c E u6 Lesson_0) ++ ((Rows_c E u8 (Rows_0 5)) ++ (Rows_c E u10 (Rows_0 8)))))))) ((Rows_c E u10 (Rows_0 8)) ++ ((List.take 19 ((([(h0, .inr (5, [.ref (Groupa_self u2), .ref q3, .int 0, .ref q4, .int 0, .ref (Lessona_self u6), .ref (Rowsa_self u8), .null, .null]))] : va_W)) ++ ((Group_c E u2 Group_0) ++ ((([(q3, .inl (E.2.1, 100, .inl (fun _ => 0)))] : va_W)) ++ ((([(q4, .inl (E.2.2.2.2.1, 5, .inr (.inr (.inr (.inr (fun _ => none))))))] : va_W)) ++ ((Lesson_c E u6 Lesson_0) ++ ((Rows_c E u8 (Rows_0 5)) ++ (([(q9, .inr (6, [.null, .null, .int 0]))] : va_W))))))))) ++ (List.drop 20 ((([(h0, .inr (5, [.ref (Groupa_self u2), .ref q3, .int 0, .ref q4, .int 0, .ref (Lessona_self u6), .ref (Rowsa_self u8), .null, .null]))] : va_W)) ++ ((Group_c E u2 Group_0) ++ ((([(q3, .inl (E.2.1, 100, .inl (fun _ => 0)))] : va_W)) ++ ((([(q4, .inl (E.2.2.2.2.1, 5, .inr (.inr (.inr (.inr (fun _ => none))))))] : va_W)) ++ ((Lesson_c E u6 Lesson_0) ++ ((Rows_c E u8 (Rows_0 5)) ++ (([(q9, .inr (6, [.null, .null, .int 0]))] : va_W))))))))))) := m_p1 (A := (List.take 19 ((([(h0, .inr (5, [.ref (Groupa_self u2), .ref q3, .int 0, .ref q4, .int 0, .ref (Lessona_self u6), .ref (Rowsa_self u8), .null, .null]))] : va_W)) ++ ((Group_c E u2 Group_0) ++ ((([(q3, .inl (E.2.1, 100, .inl (fun _ => 0)))] : va_W)) ++ ((([(q4, .inl (E.2.2.2.2.1, 5, .inr (.inr (.inr (.inr (fun _ => none))))))] : va_W)) ++ ((Lesson_c E u6 Lesson_0) ++ ((Rows_c E u8 (Rows_0 5)) ++ (([(q9, .inr (6, [.null, .null, .int 0]))] : va_W)))))))))) (m := (Rows_c E u10 (Rows_0 8))) (C := (List.drop 20 ((([(h0, .inr (5, [.ref (Groupa_self u2), .ref q3, .int 0, .ref q4, .int 0, .ref (Lessona_self u6), .ref (Rowsa_self u8), .null, .null]))] : va_W)) ++ ((Group_c E u2 Group_0) ++ ((([(q3, .inl (E.2.1, 100, .inl (fun _ => 0)))] : va_W)) ++ ((([(q4, .inl (E.2.2.2.2.1, 5, .inr (.inr (.inr (.inr (fun _ => none))))))] : va_W)) ++ ((Lesson_c E u6 Lesson_0) ++ ((Rows_c E u8 (Rows_0 5)) ++ (([(q9, .inr (6, [.null, .null, .int 0]))] : va_W))))))))))
  obtain ⟨hPn, hDn⟩ := m_spl hpm hpn hP hD hk1 hFc hP1 hD1
  clear hpm hpn hPc hDc hFc hP1 hD1 hk1 hz1
  subst hu
  have hP := hPn
  have hD := hDn
  have hS := hSn
  refine W.widen (k := 21) (n := 341) (Nat.le_of_ble_eq_true rfl) (Nat.le_of_ble_eq_true rfl) ?_
  refine W.eq (g2 := F0 m 74 ls [.ref (Rowsa_self u10), .ref h0]) rfl ?_
  refine va_putF (D := E.1) (ci := 5) (v := .ref (Rowsa_self u10)) (ty := .object "OneDidAll$Rows") (C := RX5) (T := TX5) (N := 9) hx hb hts k5 tyX5 tyX5_ok nmX5 hown hK hP hD hS 0 rfl rfl 7 (by decide) k21 (fun _ h9 => h9) rfl hin rfl (by decide +kernel) rfl rfl (Nat.le_of_ble_eq_true rfl) dX5_init_74 (fun H locs hP hD hS => ?_)
  have hP : va_P E.1 vwCl ((([(h0, .inr (5, [.ref (Groupa_self u2), .ref q3, .int 0, .ref q4, .int 0, .ref (Lessona_self u6), .ref (Rowsa_self u8), .ref (Rowsa_self u10), .null]))] : va_W)) ++ ((Group_c E u2 Group_0) ++ ((([(q3, .inl (E.2.1, 100, .inl (fun _ => 0)))] : va_W)) ++ ((([(q4, .inl (E.2.2.2.2.1, 5, .inr (.inr (.inr (.inr (fun _ => none))))))] : va_W)) ++ ((Lesson_c E u6 Lesson_0) ++ ((Rows_c E u8 (Rows_0 5)) ++ (Rows_c E u10 (Rows_0 8)))))))) H := hP
  have hD : va_D A ((([(h0, .inr (5, [.ref (Groupa_self u2), .ref q3, .int 0, .ref q4, .int 0, .ref (Lessona_self u6), .ref (Rowsa_self u8), .ref (Rowsa_self u10), .null]))] : va_W)) ++ ((Group_c E u2 Group_0) ++ ((([(q3, .inl (E.2.1, 100, .inl (fun _ => 0)))] : va_W)) ++ ((([(q4, .inl (E.2.2.2.2.1, 5, .inr (.inr (.inr (.inr (fun _ => none))))))] : va_W)) ++ ((Lesson_c E u6 Lesson_0) ++ ((Rows_c E u8 (Rows_0 5)) ++ (Rows_c E u10 (Rows_0 8)))))))) := hD
  refine lv_aload_n hx hb dX5_init_77 rfl (lv_at hl 0 rfl) ?_
  refine va_new (ci := 6) (fs := [.null, .null, .int 0]) (C := RX6) (T := TX6) (N := 3) hx hb hts k19 tyX6 tyX6_ok hown k16 k17 k18 hK hP hD hS hA rfl (by decide +kernel) (Nat.le_of_ble_eq_true rfl) (Nat.le_of_ble_eq_true rfl) dX5_init_78 (fun q11 H hP hD hS => ?_)
  have hP : va_P E.1 vwCl ((([(h0, .inr (5, [.ref (Groupa_self u2), .ref q3, .int 0, .ref q4, .int 0, .ref (Lessona_self u6), .ref (Rowsa_self u8), .ref (Rowsa_self u10), .null]))] : va_W)) ++ ((Group_c E u2 Group_0) ++ ((([(q3, .inl (E.2.1, 100, .inl (fun _ => 0)))] : va_W)) ++ ((([(q4, .inl (E.2.2.2.2.1, 5, .inr (.inr (.inr (.inr (fun _ => none))))))] : va_W)) ++ ((Lesson_c E u6 Lesson_0) ++ ((Rows_c E u8 (Rows_0 5)) ++ ((Rows_c E u10 (Rows_0 8)) ++ (([(q11, .inr (6, [.null, .null, .int 0]))] : va_W))))))))) H := hP
  have hD : va_D A ((([(h0, .inr (5, [.ref (Groupa_self u2), .ref q3, .int 0, .ref q4, .int 0, .ref (Lessona_self u6), .ref (Rowsa_self u8), .ref (Rowsa_self u10), .null]))] : va_W)) ++ ((Group_c E u2 Group_0) ++ ((([(q3, .inl (E.2.1, 100, .inl (fun _ => 0)))] : va_W)) ++ ((([(q4, .inl (E.2.2.2.2.1, 5, .inr (.inr (.inr (.inr (fun _ => none))))))] : va_W)) ++ ((Lesson_c E u6 Lesson_0) ++ ((Rows_c E u8 (Rows_0 5)) ++ ((Rows_c E u10 (Rows_0 8)) ++ (([(q11, .inr (6, [.null, .null, .int 0]))] : va_W))))))))) := hD
  refine W.widen (k := 22) (n := 344) (Nat.le_of_ble_eq_true rfl) (Nat.le_of_ble_eq_true rfl) ?_
  refine W.eq (g2 := F0 m 81 ls [.ref q11, .ref h0]) rfl ?_
  refine lv_dup hx hb dX5_init_81 rfl ?_
  refine lv_bipush (v := 8) hx hb dX5_init_82 (by decide) ?_
  have hpm : List.Perm ((([(h0, .inr (5, [.ref (Groupa_self u2), .ref q3, .int 0, .ref q4, .int 0, .ref (Lessona_self u6), .ref (Rowsa_self u8), .ref (Rowsa_self u10), .null]))] : va_W)) ++ ((Group_c E u2 Group_0) ++ ((([(q3, .inl (E.2.1, 100, .inl (fun _ => 0)))] : va_W)) ++ ((([(q4, .inl (E.2.2.2.2.1, 5, .inr (.inr (.inr (.inr (fun _ => none))))))] : va_W)) ++ ((Lesson_c E u6 Lesson_0) ++ ((Rows_c E u8 (Rows_0 5)) ++ ((Rows_c E u10 (Rows_0 8)) ++ (([(q11, .inr (6, [.null, .null, .int 0]))] : va_W))))))))) (([(q11, .inr (6, [.null, .null, .int 0]))] : va_W) ++ ((List.take 22 ((([(h0, .inr (5, [.ref (Groupa_self u2), .ref q3, .int 0, .ref q4, .int 0, .ref (Lessona_self u6), .ref (Rowsa_self u8), .ref (Rowsa_self u10), .null]))] : va_W)) ++ ((Group_c E u2 Group_0) ++ ((([(q3, .inl (E.2.1, 100, .inl (fun _ => 0)))] : va_W)) ++ ((([(q4, .inl (E.2.2.2.2.1, 5, .inr (.inr (.inr (.inr (fun _ => none))))))] : va_W)) ++ ((Lesson_c E u6 Lesson_0) ++ ((Rows_c E u8 (Rows_0 5)) ++ ((Rows_c E u10 (Rows_0 8)) ++ (([(q11, .inr (6, [.null, .null, .int 0]))] : va_W)))))))))) ++ (List.drop 23 ((([(h0, .inr (5, [.ref (Groupa_self u2), .ref q3, .int 0, .ref q4, .int 0, .ref (Lessona_self u6), .ref (Rowsa_self u8), .ref (Rowsa_self u10), .null]))] : va_W)) ++ ((Group_c E u2 Group_0) ++ ((([(q3, .inl (E.2.1, 100, .inl (fun _ => 0)))] : va_W)) ++ ((([(q4, .inl (E.2.2.2.2.1, 5, .inr (.inr (.inr (.inr (fun _ => none))))))] : va_W)) ++ ((Lesson_c E u6 Lesson_0) ++ ((Rows_c E u8 (Rows_0 5)) ++ ((Rows_c E u10 (Rows_0 8)) ++ (([(q11, .inr (6, [.null, .null, .int 0]))] : va_W)))))))))))) := m_p1 (A := (List.take 22 ((([(h0, .inr (5, [.ref (Groupa_self u2), .ref q3, .int 0, .ref q4, .int 0, .ref (Lessona_self u6), .ref (Rowsa_self u8), .ref (Rowsa_self u10), .null]))] : va_W)) ++ ((Group_c E u2 Group_0) ++ ((([(q3, .inl (E.2.1, 100, .inl (fun _ => 0)))] : va_W)) ++ ((([(q4, .inl (E.2.2.2.2.1, 5, .inr (.inr (.inr (.inr (fun _ => none))))))] : va_W)) ++ ((Lesson_c E u6 Lesson_0) ++ ((Rows_c E u8 (Rows_0 5)) ++ ((Rows_c E u10 (Rows_0 8)) ++ (([(q11, .inr (6, [.null, .null, .int 0]))] : va_W))))))))))) (m := ([(q11, .inr (6, [.null, .null, .int 0]))] : va_W)) (C := (List.drop 23 ((([(h0, .inr (5, [.ref (Groupa_self u2), .ref q3, .int 0, .ref q4, .int 0, .ref (Lessona_self u6), .ref (Rowsa_self u8), .ref (Rowsa_self u10), .null]))] : va_W)) ++ ((Group_c E u2 Group_0) ++ ((([(q3, .inl (E.2.1, 100, .inl (fun _ => 0)))] : va_W)) ++ ((([(q4, .inl (E.2.2.2.2.1, 5, .inr (.inr (.inr (.inr (fun _ => none))))))] : va_W)) ++ ((Lesson_c E u6 Lesson_0) ++ ((Rows_c E u8 (Rows_0 5)) ++ ((Rows_c E u10 (Rows_0 8)) ++ (([(q11, .inr (6, [.null, .null, .int 0]))] : va_W)))))))))))
  obtain ⟨hPc, hDc, hFc⟩ := m_pre hpm hP hD hS hA
  refine mIX (n := 1) (rest := [.ref q11, .ref h0]) (As := [.int 8]) CC hKN hGl (c_X6_init_8 l E q11 _) gX5_init_X6_init rfl ⟨rfl, rfl⟩ (hts (.initialized RX6) (by decide +kernel)) (hts (.methodLink RX5 42 yX6_init) (by decide +kernel)) (hts (.instanceMethod yX6_init) (by decide +kernel)) rfl (by decide +kernel) ⟨Nat.le_of_ble_eq_true rfl, Nat.le_of_ble_eq_true rfl⟩ hPc hDc m_nil m_nilA hS hFc rfl hl.1 rfl (Nat.le_of_ble_eq_true rfl) ⟨Nat.le_of_ble_eq_true rfl, Nat.le_of_ble_eq_true rfl⟩ dX5_init_84 (fun u12 H locs hu hP1 hD1 hz1 hk1 hSn => ?_)
  have hpn : List.Perm ((([(h0, .inr (5, [.ref (Groupa_self u2), .ref q3, .int 0, .ref q4, .int 0, .ref (Lessona_self u6), .ref (Rowsa_self u8), .ref (Rowsa_self u10), .null]))] : va_W)) ++ ((Group_c E u2 Group_0) ++ ((([(q3, .inl (E.2.1, 100, .inl (fun _ => 0)))] : va_W)) ++ ((([(q4, .inl (E.2.2.2.2.1, 5, .inr (.inr (.inr (.inr (fun _ => none))))))] : va_W)) ++ ((Lesson_c E u6 Lesson_0) ++ ((Rows_c E u8 (Rows_0 5)) ++ ((Rows_c E u10 (Rows_0 8)) ++ (Rows_c E u12 (Rows_0 8))))))))) ((Rows_c E u12 (Rows_0 8)) ++ ((List.take 22 ((([(h0, .inr (5, [.ref (Groupa_self u2), .ref q3, .int 0, .ref q4, .int 0, .ref (Lessona_self u6), .ref (Rowsa_self u8), .ref (Rowsa_self u10), .null]))] : va_W)) ++ ((Group_c E u2 Group_0) ++ ((([(q3, .inl (E.2.1, 100, .inl (fun _ => 0)))] : va_W)) ++ ((([(q4, .inl (E.2.2.2.2.1, 5, .inr (.inr (.inr (.inr (fun _ => none))))))] : va_W)) ++ ((Lesson_c E u6 Lesson_0) ++ ((Rows_c E u8 (Rows_0 5)) ++ ((Rows_c E u10 (Rows_0 8)) ++ (([(q11, .inr (6, [.null, .null, .int 0]))] : va_W)))))))))) ++ (List.drop 23 ((([(h0, .inr (5, [.ref (Groupa_self u2), .ref q3, .int 0, .ref q4, .int 0, .ref (Lessona_self u6), .ref (Rowsa_self u8), .ref (Rowsa_self u10), .null]))] : va_W)) ++ ((Group_c E u2 Group_0) ++ ((([(q3, .inl (E.2.1, 100, .inl (fun _ => 0)))] : va_W)) ++ ((([(q4, .inl (E.2.2.2.2.1, 5, .inr (.inr (.inr (.inr (fun _ => none))))))] : va_W)) ++ ((Lesson_c E u6 Lesson_0) ++ ((Rows_c E u8 (Rows_0 5)) ++ ((Rows_c E u10 (Rows_0 8)) ++ (([(q11, .inr (6, [.null, .null, .int 0]))] : va_W)))))))))))) := m_p1 (A := (List.take 22 ((([(h0, .inr (5, [.ref (Groupa_self u2), .ref q3, .int 0, .ref q4, .int 0, .ref (Lessona_self u6), .ref (Rowsa_self u8), .ref (Rowsa_self u10), .null]))] : va_W)) ++ ((Group_c E u2 Group_0) ++ ((([(q3, .inl (E.2.1, 100, .inl (fun _ => 0)))] : va_W)) ++ ((([(q4, .inl (E.2.2.2.2.1, 5, .inr (.inr (.inr (.inr (fun _ => none))))))] : va_W)) ++ ((Lesson_c E u6 Lesson_0) ++ ((Rows_c E u8 (Rows_0 5)) ++ ((Rows_c E u10 (Rows_0 8)) ++ (([(q11, .inr (6, [.null, .null, .int 0]))] : va_W))))))))))) (m := (Rows_c E u12 (Rows_0 8))) (C := (List.drop 23 ((([(h0, .inr (5, [.ref (Groupa_self u2), .ref q3, .int 0, .ref q4, .int 0, .ref (Lessona_self u6), .ref (Rowsa_self u8), .ref (Rowsa_self u10), .null]))] : va_W)) ++ ((Group_c E u2 Group_0) ++ ((([(q3, .inl (E.2.1, 100, .inl (fun _ => 0)))] : va_W)) ++ ((([(q4, .inl (E.2.2.2.2.1, 5, .inr (.inr (.inr (.inr (fun _ => none))))))] : va_W)) ++ ((Lesson_c E u6 Lesson_0) ++ ((Rows_c E u8 (Rows_0 5)) ++ ((Rows_c E u10 (Rows_0 8)) ++ (([(q11, .inr (6, [.null, .null, .int 0]))] : va_W)))))))))))
  obtain ⟨hPn, hDn⟩ := m_spl hpm hpn hP hD hk1 hFc hP1 hD1
  clear hpm hpn hPc hDc hFc hP1 hD1 hk1 hz1
  subst hu
  have hP := hPn
  have hD := hDn
  have hS := hSn
  refine W.widen (k := 24) (n := 360) (Nat.le_of_ble_eq_true rfl) (Nat.le_of_ble_eq_true rfl) ?_
  refine W.eq (g2 := F0 m 87 ls [.ref (Rowsa_self u12), .ref h0]) rfl ?_
  refine va_putF (D := E.1) (ci := 5) (v := .ref (Rowsa_self u12)) (ty := .object "OneDidAll$Rows") (C := RX5) (T := TX5) (N := 9) hx hb hts k5 tyX5 tyX5_ok nmX5 hown hK hP hD hS 0 rfl rfl 8 (by decide) k22 (fun _ h9 => h9) rfl hin rfl (by decide +kernel) rfl rfl (Nat.le_of_ble_eq_true rfl) dX5_init_87 (fun H locs hP hD hS => ?_)
  have hP : va_P E.1 vwCl ((([(h0, .inr (5, [.ref (Groupa_self u2), .ref q3, .int 0, .ref q4, .int 0, .ref (Lessona_self u6), .ref (Rowsa_self u8), .ref (Rowsa_self u10), .ref (Rowsa_self u12)]))] : va_W)) ++ ((Group_c E u2 Group_0) ++ ((([(q3, .inl (E.2.1, 100, .inl (fun _ => 0)))] : va_W)) ++ ((([(q4, .inl (E.2.2.2.2.1, 5, .inr (.inr (.inr (.inr (fun _ => none))))))] : va_W)) ++ ((Lesson_c E u6 Lesson_0) ++ ((Rows_c E u8 (Rows_0 5)) ++ ((Rows_c E u10 (Rows_0 8)) ++ (Rows_c E u12 (Rows_0 8))))))))) H := hP
  have hD : va_D A ((([(h0, .inr (5, [.ref (Groupa_self u2), .ref q3, .int 0, .ref q4, .int 0, .ref (Lessona_self u6), .ref (Rowsa_self u8), .ref (Rowsa_self u10), .ref (Rowsa_self u12)]))] : va_W)) ++ ((Group_c E u2 Group_0) ++ ((([(q3, .inl (E.2.1, 100, .inl (fun _ => 0)))] : va_W)) ++ ((([(q4, .inl (E.2.2.2.2.1, 5, .inr (.inr (.inr (.inr (fun _ => none))))))] : va_W)) ++ ((Lesson_c E u6 Lesson_0) ++ ((Rows_c E u8 (Rows_0 5)) ++ ((Rows_c E u10 (Rows_0 8)) ++ (Rows_c E u12 (Rows_0 8))))))))) := hD
  have hmv : List.Perm ((([(h0, .inr (5, [.ref (Groupa_self u2), .ref q3, .int 0, .ref q4, .int 0, .ref (Lessona_self u6), .ref (Rowsa_self u8), .ref (Rowsa_self u10), .ref (Rowsa_self u12)]))] : va_W)) ++ ((Group_c E u2 Group_0) ++ ((([(q3, .inl (E.2.1, 100, .inl (fun _ => 0)))] : va_W)) ++ ((([(q4, .inl (E.2.2.2.2.1, 5, .inr (.inr (.inr (.inr (fun _ => none))))))] : va_W)) ++ ((Lesson_c E u6 Lesson_0) ++ ((Rows_c E u8 (Rows_0 5)) ++ ((Rows_c E u10 (Rows_0 8)) ++ (Rows_c E u12 (Rows_0 8))))))))) ((([(h0, .inr (5, [.ref (Groupa_self u2), .ref q3, .int 0, .ref q4, .int 0, .ref (Lessona_self u6), .ref (Rowsa_self u8), .ref (Rowsa_self u10), .ref (Rowsa_self u12)]))] : va_W)) ++ ((Group_c E u2 Group_0) ++ ((([(q3, .inl (E.2.1, 100, .inl (fun _ => 0)))] : va_W)) ++ ((([(q4, .inl (E.2.2.2.2.1, 5, .inr (.inr (.inr (.inr (fun _ => none))))))] : va_W)) ++ ((Rows_c E u8 (Rows_0 5)) ++ ((Rows_c E u10 (Rows_0 8)) ++ ((Rows_c E u12 (Rows_0 8)) ++ (Lesson_c E u6 Lesson_0)))))))) := m_mv (A := (List.take 12 ((([(h0, .inr (5, [.ref (Groupa_self u2), .ref q3, .int 0, .ref q4, .int 0, .ref (Lessona_self u6), .ref (Rowsa_self u8), .ref (Rowsa_self u10), .ref (Rowsa_self u12)]))] : va_W)) ++ ((Group_c E u2 Group_0) ++ ((([(q3, .inl (E.2.1, 100, .inl (fun _ => 0)))] : va_W)) ++ ((([(q4, .inl (E.2.2.2.2.1, 5, .inr (.inr (.inr (.inr (fun _ => none))))))] : va_W)) ++ ((Lesson_c E u6 Lesson_0) ++ ((Rows_c E u8 (Rows_0 5)) ++ ((Rows_c E u10 (Rows_0 8)) ++ (Rows_c E u12 (Rows_0 8))))))))))) (m := Lesson_c E u6 Lesson_0) (C := (List.drop 16 ((([(h0, .inr (5, [.ref (Groupa_self u2), .ref q3, .int 0, .ref q4, .int 0, .ref (Lessona_self u6), .ref (Rowsa_self u8), .ref (Rowsa_self u10), .ref (Rowsa_self u12)]))] : va_W)) ++ ((Group_c E u2 Group_0) ++ ((([(q3, .inl (E.2.1, 100, .inl (fun _ => 0)))] : va_W)) ++ ((([(q4, .inl (E.2.2.2.2.1, 5, .inr (.inr (.inr (.inr (fun _ => none))))))] : va_W)) ++ ((Lesson_c E u6 Lesson_0) ++ ((Rows_c E u8 (Rows_0 5)) ++ ((Rows_c E u10 (Rows_0 8)) ++ (Rows_c E u12 (Rows_0 8)))))))))))
  have hP := m_permP hmv hP
  have hD := m_permD hmv hD
  have hP : va_P E.1 vwCl ((Room_c E ((h0, u2, q3, q4, u8, u10, u12), u6).1 (Room_0 (Lessona_self ((h0, u2, q3, q4, u8, u10, u12), u6).2))) ++ (Lesson_c E ((h0, u2, q3, q4, u8, u10, u12), u6).2 Lesson_0)) H := hP
  have hD : va_D A ((Room_c E ((h0, u2, q3, q4, u8, u10, u12), u6).1 (Room_0 (Lessona_self ((h0, u2, q3, q4, u8, u10, u12), u6).2))) ++ (Lesson_c E ((h0, u2, q3, q4, u8, u10, u12), u6).2 Lesson_0)) := hD
  rw [hQ]
  refine W.widen (k := 24) (n := 360) (Nat.le_of_ble_eq_true rfl) (Nat.le_of_ble_eq_true rfl) ?_
  exact W.vret hx hb hr (fun t ht _ => ⟨⟨((h0, u2, q3, q4, u8, u10, u12), u6), rfl, rfl, by rw [ht]; exact hP, hD⟩, hS.F ht⟩) hS.2.2 dX5_init_90
abbrev rmX1_init : Room := { frames := 2, cells := 22, slots := 281, locals := 32 }
set_option maxRecDepth 100000 in
set_option maxHeartbeats 400000 in
theorem c_X1_init (l : Launch) (E : mE) (h0 sz : Nat) : Met l yX1_init wsX1_init rmX1_init (mPm E [.ref h0] sz (([(h0, .inr (1, [.null, .null, .null]))] : va_W)) []) (mSx E (fun _ => none) (fun u : (ForecastA × LessonA) => ((Forecast_c E u.1 (Forecast_0 (Lessona_self u.2))) ++ (Lesson_c E u.2 Lesson_0))) (fun u : (ForecastA × LessonA) => Forecasta_self u.1 = h0) (va_A (([(h0, .inr (1, [.null, .null, .null]))] : va_W)) sz)) 22 281 (va_A (([(h0, .inr (1, [.null, .null, .null]))] : va_W)) sz) := by
  refine mOfX (QA := fun A => mSx E (fun _ => none) (fun u : (ForecastA × LessonA) => ((Forecast_c E u.1 (Forecast_0 (Lessona_self u.2))) ++ (Lesson_c E u.2 Lesson_0))) (fun u : (ForecastA × LessonA) => Forecasta_self u.1 = h0) A) (cc := cX1_init) (maxL := 1) (ret := none) (by decide) rfl (Nat.le_of_ble_eq_true rfl) ?_
  intro p e_ s m args below meth c Q A hQ CC hr hlocks hin hA hP hD hKN hGl hR0 hRA ls hl
  have hS : va_S A s.heap s.heap [] := va_S.rf
  have hin : meth.name = "<init>" := hin
  have hK := hKN.1
  have hx := CC.1
  have hb := CC.2.1
  have hml := CC.2.2.1
  have hown : s.vm.findClass RX1 = some m.cls := CC.2.2.2.1
  have hts := CC.2.2.2.2
  have hl : lv_has ls 1 [(0, .ref h0)] := hl
  have k0 := hts (.classLink RX1 9 RX2) (by decide +kernel)
  have k1 := hts (.instantiable RX2 11) (by decide +kernel)
  have k2 := hts (.initialized RX2) (by decide +kernel)
  have k3 := (show ∀ w ∈ u_ws RX2 TX2 11, w ∈ wsX1_init by decide +kernel)
  have k4 := hts (.fieldLink RX1 12 "OneDidAll$Forecast" "trial" "LOneDidAll$Group;") (by decide +kernel)
  have k5 := (show ∀ w ∈ u_ws RX1 TX1 3, w ∈ wsX1_init by decide +kernel)
  have k6 := hts (.fieldLink RX1 18 "OneDidAll$Forecast" "start" "LOneDidAll$Group;") (by decide +kernel)
  have k7 := hts (.classLink RX1 21 RX3) (by decide +kernel)
  have k8 := hts (.instantiable RX3 7) (by decide +kernel)
  have k9 := hts (.initialized RX3) (by decide +kernel)
  have k10 := (show ∀ w ∈ u_ws RX3 TX3 7, w ∈ wsX1_init by decide +kernel)
  have k11 := hts (.fieldLink RX1 24 "OneDidAll$Forecast" "lesson" "LOneDidAll$Lesson;") (by decide +kernel)
  have hP : va_P E.1 vwCl (([(h0, .inr (1, [.null, .null, .null]))] : va_W)) s.heap := hP
  obtain ⟨H, hH⟩ : ∃ H, H = s.heap := ⟨_, rfl⟩
  obtain ⟨locs, hlc⟩ : ∃ z : List Loc, z = [] := ⟨_, rfl⟩
  rw [← hH] at hP
  rw [← hlc] at hS
  have hS : va_S A s.heap H locs := by rw [hH]; exact hS
  rw [← hH, ← hlc]
  refine lv_aload_n hx hb dX1_init_0 rfl (lv_at hl 0 rfl) ?_
  refine W.objInit hx hb hown (hts (.methodLink RX1 3 objectInit) (by decide +kernel)) (hts (.instanceMethod objectInit) (by decide +kernel)) (hts (.code objectInit ⟨#[0xb1]⟩ 1 none) (by decide +kernel)) rfl (by rw [hml]; exact hl.1) rfl dX1_init_1 (Nat.le_of_ble_eq_true rfl) (Nat.le_of_ble_eq_true rfl) ?_
  refine W.eq (g2 := F0 m 4 ls []) rfl ?_
  refine lv_aload_n hx hb dX1_init_4 rfl (lv_at hl 0 rfl) ?_
  refine va_new (ci := 2) (fs := [.int 0, .int 0, .int 0, .null, .null, .null, .null, .null, .null, .null, .null]) (C := RX2) (T := TX2) (N := 11) hx hb hts k3 tyX2 tyX2_ok hown k0 k1 k2 hK hP hD hS hA rfl (by decide +kernel) (Nat.le_of_ble_eq_true rfl) (Nat.le_of_ble_eq_true rfl) dX1_init_5 (fun q1 H hP hD hS => ?_)
  have hP : va_P E.1 vwCl ((([(h0, .inr (1, [.null, .null, .null]))] : va_W)) ++ (([(q1, .inr (2, [.int 0, .int 0, .int 0, .null, .null, .null, .null, .null, .null, .null, .null]))] : va_W))) H := hP
  have hD : va_D A ((([(h0, .inr (1, [.null, .null, .null]))] : va_W)) ++ (([(q1, .inr (2, [.int 0, .int 0, .int 0, .null, .null, .null, .null, .null, .null, .null, .null]))] : va_W))) := hD
  refine W.widen (k := 1) (n := 11) (Nat.le_of_ble_eq_true rfl) (Nat.le_of_ble_eq_true rfl) ?_
  refine W.eq (g2 := F0 m 8 ls [.ref q1, .ref h0]) rfl ?_
  refine lv_dup hx hb dX1_init_8 rfl ?_
  have hpm : List.Perm ((([(h0, .inr (1, [.null, .null, .null]))] : va_W)) ++ (([(q1, .inr (2, [.int 0, .int 0, .int 0, .null, .null, .null, .null, .null, .null, .null, .null]))] : va_W))) (([(q1, .inr (2, [.int 0, .int 0, .int 0, .null, .null, .null, .null, .null, .null, .null, .null]))] : va_W) ++ ((List.take 1 ((([(h0, .inr (1, [.null, .null, .null]))] : va_W)) ++ (([(q1, .inr (2, [.int 0, .int 0, .int 0, .null, .null, .null, .null, .null, .null, .null, .null]))] : va_W)))) ++ (List.drop 2 ((([(h0, .inr (1, [.null, .null, .null]))] : va_W)) ++ (([(q1, .inr (2, [.int 0, .int 0, .int 0, .null, .null, .null, .null, .null, .null, .null, .null]))] : va_W)))))) := m_p1 (A := (List.take 1 ((([(h0, .inr (1, [.null, .null, .null]))] : va_W)) ++ (([(q1, .inr (2, [.int 0, .int 0, .int 0, .null, .null, .null, .null, .null, .null, .null, .null]))] : va_W))))) (m := ([(q1, .inr (2, [.int 0, .int 0, .int 0, .null, .null, .null, .null, .null, .null, .null, .null]))] : va_W)) (C := (List.drop 2 ((([(h0, .inr (1, [.null, .null, .null]))] : va_W)) ++ (([(q1, .inr (2, [.int 0, .int 0, .int 0, .null, .null, .null, .null, .null, .null, .null, .null]))] : va_W)))))
  obtain ⟨hPc, hDc, hFc⟩ := m_pre hpm hP hD hS hA
  refine mINX (host := "OneDidAll") (n := 0) (rest := [.ref q1, .ref h0]) (As := []) CC hKN hGl (c_X2_init l E q1 _) gX1_init_X2_init_n11 rfl ⟨rfl, rfl⟩ (hts (.initialized RX2) (by decide +kernel)) (hKN.2.2.1 ("OneDidAll$Forecast", 11, ⟨"OneDidAll$Group", "<init>", "()V"⟩, "OneDidAll") (by decide +kernel)) (hts (.instanceMethod yX2_init) (by decide +kernel)) rfl (by decide +kernel) ⟨Nat.le_of_ble_eq_true rfl, Nat.le_of_ble_eq_true rfl⟩ hPc hDc m_nil m_nilA hS hFc rfl hl.1 rfl (Nat.le_of_ble_eq_true rfl) ⟨Nat.le_of_ble_eq_true rfl, Nat.le_of_ble_eq_true rfl⟩ dX1_init_9 (fun u2 H locs hu hP1 hD1 hz1 hk1 hSn => ?_)
  have hpn : List.Perm ((([(h0, .inr (1, [.null, .null, .null]))] : va_W)) ++ (Group_c E u2 Group_0)) ((Group_c E u2 Group_0) ++ ((List.take 1 ((([(h0, .inr (1, [.null, .null, .null]))] : va_W)) ++ (([(q1, .inr (2, [.int 0, .int 0, .int 0, .null, .null, .null, .null, .null, .null, .null, .null]))] : va_W)))) ++ (List.drop 2 ((([(h0, .inr (1, [.null, .null, .null]))] : va_W)) ++ (([(q1, .inr (2, [.int 0, .int 0, .int 0, .null, .null, .null, .null, .null, .null, .null, .null]))] : va_W)))))) := m_p1 (A := (List.take 1 ((([(h0, .inr (1, [.null, .null, .null]))] : va_W)) ++ (([(q1, .inr (2, [.int 0, .int 0, .int 0, .null, .null, .null, .null, .null, .null, .null, .null]))] : va_W))))) (m := (Group_c E u2 Group_0)) (C := (List.drop 2 ((([(h0, .inr (1, [.null, .null, .null]))] : va_W)) ++ (([(q1, .inr (2, [.int 0, .int 0, .int 0, .null, .null, .null, .null, .null, .null, .null, .null]))] : va_W)))))
  obtain ⟨hPn, hDn⟩ := m_spl hpm hpn hP hD hk1 hFc hP1 hD1
  clear hpm hpn hPc hDc hFc hP1 hD1 hk1 hz1
  subst hu
  have hP := hPn
  have hD := hDn
  have hS := hSn
  refine W.widen (k := 9) (n := 77) (Nat.le_of_ble_eq_true rfl) (Nat.le_of_ble_eq_true rfl) ?_
  refine W.eq (g2 := F0 m 12 ls [.ref (Groupa_self u2), .ref h0]) rfl ?_
  refine va_putF (D := E.1) (ci := 1) (v := .ref (Groupa_self u2)) (ty := .object "OneDidAll$Group") (C := RX1) (T := TX1) (N := 3) hx hb hts k5 tyX1 tyX1_ok nmX1 hown hK hP hD hS 0 rfl rfl 0 (by decide) k4 (fun _ h9 => h9) rfl hin rfl (by decide +kernel) rfl rfl (Nat.le_of_ble_eq_true rfl) dX1_init_12 (fun H locs hP hD hS => ?_)
  have hP : va_P E.1 vwCl ((([(h0, .inr (1, [.ref (Groupa_self u2), .null, .null]))] : va_W)) ++ (Group_c E u2 Group_0)) H := hP
  have hD : va_D A ((([(h0, .inr (1, [.ref (Groupa_self u2), .null, .null]))] : va_W)) ++ (Group_c E u2 Group_0)) := hD
  refine lv_aload_n hx hb dX1_init_15 rfl (lv_at hl 0 rfl) ?_
  refine va_new (ci := 2) (fs := [.int 0, .int 0, .int 0, .null, .null, .null, .null, .null, .null, .null, .null]) (C := RX2) (T := TX2) (N := 11) hx hb hts k3 tyX2 tyX2_ok hown k0 k1 k2 hK hP hD hS hA rfl (by decide +kernel) (Nat.le_of_ble_eq_true rfl) (Nat.le_of_ble_eq_true rfl) dX1_init_16 (fun q3 H hP hD hS => ?_)
  have hP : va_P E.1 vwCl ((([(h0, .inr (1, [.ref (Groupa_self u2), .null, .null]))] : va_W)) ++ ((Group_c E u2 Group_0) ++ (([(q3, .inr (2, [.int 0, .int 0, .int 0, .null, .null, .null, .null, .null, .null, .null, .null]))] : va_W)))) H := hP
  have hD : va_D A ((([(h0, .inr (1, [.ref (Groupa_self u2), .null, .null]))] : va_W)) ++ ((Group_c E u2 Group_0) ++ (([(q3, .inr (2, [.int 0, .int 0, .int 0, .null, .null, .null, .null, .null, .null, .null, .null]))] : va_W)))) := hD
  refine W.widen (k := 10) (n := 88) (Nat.le_of_ble_eq_true rfl) (Nat.le_of_ble_eq_true rfl) ?_
  refine W.eq (g2 := F0 m 19 ls [.ref q3, .ref h0]) rfl ?_
  refine lv_dup hx hb dX1_init_19 rfl ?_
  have hpm : List.Perm ((([(h0, .inr (1, [.ref (Groupa_self u2), .null, .null]))] : va_W)) ++ ((Group_c E u2 Group_0) ++ (([(q3, .inr (2, [.int 0, .int 0, .int 0, .null, .null, .null, .null, .null, .null, .null, .null]))] : va_W)))) (([(q3, .inr (2, [.int 0, .int 0, .int 0, .null, .null, .null, .null, .null, .null, .null, .null]))] : va_W) ++ ((List.take 10 ((([(h0, .inr (1, [.ref (Groupa_self u2), .null, .null]))] : va_W)) ++ ((Group_c E u2 Group_0) ++ (([(q3, .inr (2, [.int 0, .int 0, .int 0, .null, .null, .null, .null, .null, .null, .null, .null]))] : va_W))))) ++ (List.drop 11 ((([(h0, .inr (1, [.ref (Groupa_self u2), .null, .null]))] : va_W)) ++ ((Group_c E u2 Group_0) ++ (([(q3, .inr (2, [.int 0, .int 0, .int 0, .null, .null, .null, .null, .null, .null, .null, .null]))] : va_W))))))) := m_p1 (A := (List.take 10 ((([(h0, .inr (1, [.ref (Groupa_self u2), .null, .null]))] : va_W)) ++ ((Group_c E u2 Group_0) ++ (([(q3, .inr (2, [.int 0, .int 0, .int 0, .null, .null, .null, .null, .null, .null, .null, .null]))] : va_W)))))) (m := ([(q3, .inr (2, [.int 0, .int 0, .int 0, .null, .null, .null, .null, .null, .null, .null, .null]))] : va_W)) (C := (List.drop 11 ((([(h0, .inr (1, [.ref (Groupa_self u2), .null, .null]))] : va_W)) ++ ((Group_c E u2 Group_0) ++ (([(q3, .inr (2, [.int 0, .int 0, .int 0, .null, .null, .null, .null, .null, .null, .null, .null]))] : va_W))))))
  obtain ⟨hPc, hDc, hFc⟩ := m_pre hpm hP hD hS hA
  refine mINX (host := "OneDidAll") (n := 0) (rest := [.ref q3, .ref h0]) (As := []) CC hKN hGl (c_X2_init l E q3 _) gX1_init_X2_init_n11 rfl ⟨rfl, rfl⟩ (hts (.initialized RX2) (by decide +kernel)) (hKN.2.2.1 ("OneDidAll$Forecast", 11, ⟨"OneDidAll$Group", "<init>", "()V"⟩, "OneDidAll") (by decide +kernel)) (hts (.instanceMethod yX2_init) (by decide +kernel)) rfl (by decide +kernel) ⟨Nat.le_of_ble_eq_true rfl, Nat.le_of_ble_eq_true rfl⟩ hPc hDc m_nil m_nilA hS hFc rfl hl.1 rfl (Nat.le_of_ble_eq_true rfl) ⟨Nat.le_of_ble_eq_true rfl, Nat.le_of_ble_eq_true rfl⟩ dX1_init_20 (fun u4 H locs hu hP1 hD1 hz1 hk1 hSn => ?_)
  have hpn : List.Perm ((([(h0, .inr (1, [.ref (Groupa_self u2), .null, .null]))] : va_W)) ++ ((Group_c E u2 Group_0) ++ (Group_c E u4 Group_0))) ((Group_c E u4 Group_0) ++ ((List.take 10 ((([(h0, .inr (1, [.ref (Groupa_self u2), .null, .null]))] : va_W)) ++ ((Group_c E u2 Group_0) ++ (([(q3, .inr (2, [.int 0, .int 0, .int 0, .null, .null, .null, .null, .null, .null, .null, .null]))] : va_W))))) ++ (List.drop 11 ((([(h0, .inr (1, [.ref (Groupa_self u2), .null, .null]))] : va_W)) ++ ((Group_c E u2 Group_0) ++ (([(q3, .inr (2, [.int 0, .int 0, .int 0, .null, .null, .null, .null, .null, .null, .null, .null]))] : va_W))))))) := m_p1 (A := (List.take 10 ((([(h0, .inr (1, [.ref (Groupa_self u2), .null, .null]))] : va_W)) ++ ((Group_c E u2 Group_0) ++ (([(q3, .inr (2, [.int 0, .int 0, .int 0, .null, .null, .null, .null, .null, .null, .null, .null]))] : va_W)))))) (m := (Group_c E u4 Group_0)) (C := (List.drop 11 ((([(h0, .inr (1, [.ref (Groupa_self u2), .null, .null]))] : va_W)) ++ ((Group_c E u2 Group_0) ++ (([(q3, .inr (2, [.int 0, .int 0, .int 0, .null, .null, .null, .null, .null, .null, .null, .null]))] : va_W))))))
  obtain ⟨hPn, hDn⟩ := m_spl hpm hpn hP hD hk1 hFc hP1 hD1
  clear hpm hpn hPc hDc hFc hP1 hD1 hk1 hz1
  subst hu
  have hP := hPn
  have hD := hDn
  have hS := hSn
  refine W.widen (k := 18) (n := 154) (Nat.le_of_ble_eq_true rfl) (Nat.le_of_ble_eq_true rfl) ?_
  refine W.eq (g2 := F0 m 23 ls [.ref (Groupa_self u4), .ref h0]) rfl ?_
  refine va_putF (D := E.1) (ci := 1) (v := .ref (Groupa_self u4)) (ty := .object "OneDidAll$Group") (C := RX1) (T := TX1) (N := 3) hx hb hts k5 tyX1 tyX1_ok nmX1 hown hK hP hD hS 0 rfl rfl 1 (by decide) k6 (fun _ h9 => h9) rfl hin rfl (by decide +kernel) rfl rfl (Nat.le_of_ble_eq_true rfl) dX1_init_23 (fun H locs hP hD hS => ?_)
  have hP : va_P E.1 vwCl ((([(h0, .inr (1, [.ref (Groupa_self u2), .ref (Groupa_self u4), .null]))] : va_W)) ++ ((Group_c E u2 Group_0) ++ (Group_c E u4 Group_0))) H := hP
  have hD : va_D A ((([(h0, .inr (1, [.ref (Groupa_self u2), .ref (Groupa_self u4), .null]))] : va_W)) ++ ((Group_c E u2 Group_0) ++ (Group_c E u4 Group_0))) := hD
  refine lv_aload_n hx hb dX1_init_26 rfl (lv_at hl 0 rfl) ?_
  refine va_new (ci := 3) (fs := [.null, .int 0, .null, .null, .int 0, .int 0, .int 0]) (C := RX3) (T := TX3) (N := 7) hx hb hts k10 tyX3 tyX3_ok hown k7 k8 k9 hK hP hD hS hA rfl (by decide +kernel) (Nat.le_of_ble_eq_true rfl) (Nat.le_of_ble_eq_true rfl) dX1_init_27 (fun q5 H hP hD hS => ?_)
  have hP : va_P E.1 vwCl ((([(h0, .inr (1, [.ref (Groupa_self u2), .ref (Groupa_self u4), .null]))] : va_W)) ++ ((Group_c E u2 Group_0) ++ ((Group_c E u4 Group_0) ++ (([(q5, .inr (3, [.null, .int 0, .null, .null, .int 0, .int 0, .int 0]))] : va_W))))) H := hP
  have hD : va_D A ((([(h0, .inr (1, [.ref (Groupa_self u2), .ref (Groupa_self u4), .null]))] : va_W)) ++ ((Group_c E u2 Group_0) ++ ((Group_c E u4 Group_0) ++ (([(q5, .inr (3, [.null, .int 0, .null, .null, .int 0, .int 0, .int 0]))] : va_W))))) := hD
  refine W.widen (k := 19) (n := 161) (Nat.le_of_ble_eq_true rfl) (Nat.le_of_ble_eq_true rfl) ?_
  refine W.eq (g2 := F0 m 30 ls [.ref q5, .ref h0]) rfl ?_
  refine lv_dup hx hb dX1_init_30 rfl ?_
  have hpm : List.Perm ((([(h0, .inr (1, [.ref (Groupa_self u2), .ref (Groupa_self u4), .null]))] : va_W)) ++ ((Group_c E u2 Group_0) ++ ((Group_c E u4 Group_0) ++ (([(q5, .inr (3, [.null, .int 0, .null, .null, .int 0, .int 0, .int 0]))] : va_W))))) (([(q5, .inr (3, [.null, .int 0, .null, .null, .int 0, .int 0, .int 0]))] : va_W) ++ ((List.take 19 ((([(h0, .inr (1, [.ref (Groupa_self u2), .ref (Groupa_self u4), .null]))] : va_W)) ++ ((Group_c E u2 Group_0) ++ ((Group_c E u4 Group_0) ++ (([(q5, .inr (3, [.null, .int 0, .null, .null, .int 0, .int 0, .int 0]))] : va_W)))))) ++ (List.drop 20 ((([(h0, .inr (1, [.ref (Groupa_self u2), .ref (Groupa_self u4), .null]))] : va_W)) ++ ((Group_c E u2 Group_0) ++ ((Group_c E u4 Group_0) ++ (([(q5, .inr (3, [.null, .int 0, .null, .null, .int 0, .int 0, .int 0]))] : va_W)))))))) := m_p1 (A := (List.take 19 ((([(h0, .inr (1, [.ref (Groupa_self u2), .ref (Groupa_self u4), .null]))] : va_W)) ++ ((Group_c E u2 Group_0) ++ ((Group_c E u4 Group_0) ++ (([(q5, .inr (3, [.null, .int 0, .null, .null, .int 0, .int 0, .int 0]))] : va_W))))))) (m := ([(q5, .inr (3, [.null, .int 0, .null, .null, .int 0, .int 0, .int 0]))] : va_W)) (C := (List.drop 20 ((([(h0, .inr (1, [.ref (Groupa_self u2), .ref (Groupa_self u4), .null]))] : va_W)) ++ ((Group_c E u2 Group_0) ++ ((Group_c E u4 Group_0) ++ (([(q5, .inr (3, [.null, .int 0, .null, .null, .int 0, .int 0, .int 0]))] : va_W)))))))
  obtain ⟨hPc, hDc, hFc⟩ := m_pre hpm hP hD hS hA
  refine mINX (host := "OneDidAll") (n := 0) (rest := [.ref q5, .ref h0]) (As := []) CC hKN hGl (c_X3_init l E q5 _) gX1_init_X3_init_n23 rfl ⟨rfl, rfl⟩ (hts (.initialized RX3) (by decide +kernel)) (hKN.2.2.1 ("OneDidAll$Forecast", 23, ⟨"OneDidAll$Lesson", "<init>", "()V"⟩, "OneDidAll") (by decide +kernel)) (hts (.instanceMethod yX3_init) (by decide +kernel)) rfl (by decide +kernel) ⟨Nat.le_of_ble_eq_true rfl, Nat.le_of_ble_eq_true rfl⟩ hPc hDc m_nil m_nilA hS hFc rfl hl.1 rfl (Nat.le_of_ble_eq_true rfl) ⟨Nat.le_of_ble_eq_true rfl, Nat.le_of_ble_eq_true rfl⟩ dX1_init_31 (fun u6 H locs hu hP1 hD1 hz1 hk1 hSn => ?_)
  have hpn : List.Perm ((([(h0, .inr (1, [.ref (Groupa_self u2), .ref (Groupa_self u4), .null]))] : va_W)) ++ ((Group_c E u2 Group_0) ++ ((Group_c E u4 Group_0) ++ (Lesson_c E u6 Lesson_0)))) ((Lesson_c E u6 Lesson_0) ++ ((List.take 19 ((([(h0, .inr (1, [.ref (Groupa_self u2), .ref (Groupa_self u4), .null]))] : va_W)) ++ ((Group_c E u2 Group_0) ++ ((Group_c E u4 Group_0) ++ (([(q5, .inr (3, [.null, .int 0, .null, .null, .int 0, .int 0, .int 0]))] : va_W)))))) ++ (List.drop 20 ((([(h0, .inr (1, [.ref (Groupa_self u2), .ref (Groupa_self u4), .null]))] : va_W)) ++ ((Group_c E u2 Group_0) ++ ((Group_c E u4 Group_0) ++ (([(q5, .inr (3, [.null, .int 0, .null, .null, .int 0, .int 0, .int 0]))] : va_W)))))))) := m_p1 (A := (List.take 19 ((([(h0, .inr (1, [.ref (Groupa_self u2), .ref (Groupa_self u4), .null]))] : va_W)) ++ ((Group_c E u2 Group_0) ++ ((Group_c E u4 Group_0) ++ (([(q5, .inr (3, [.null, .int 0, .null, .null, .int 0, .int 0, .int 0]))] : va_W))))))) (m := (Lesson_c E u6 Lesson_0)) (C := (List.drop 20 ((([(h0, .inr (1, [.ref (Groupa_self u2), .ref (Groupa_self u4), .null]))] : va_W)) ++ ((Group_c E u2 Group_0) ++ ((Group_c E u4 Group_0) ++ (([(q5, .inr (3, [.null, .int 0, .null, .null, .int 0, .int 0, .int 0]))] : va_W)))))))
  obtain ⟨hPn, hDn⟩ := m_spl hpm hpn hP hD hk1 hFc hP1 hD1
  clear hpm hpn hPc hDc hFc hP1 hD1 hk1 hz1
  subst hu
  have hP := hPn
  have hD := hDn
  have hS := hSn
  refine W.widen (k := 22) (n := 281) (Nat.le_of_ble_eq_true rfl) (Nat.le_of_ble_eq_true rfl) ?_
  refine W.eq (g2 := F0 m 34 ls [.ref (Lessona_self u6), .ref h0]) rfl ?_
  refine va_put (D := E.1) (ci := 1) (v := .ref (Lessona_self u6)) (ty := .object "OneDidAll$Lesson") (C := RX1) (T := TX1) (N := 3) hx hb hts k5 tyX1 tyX1_ok nmX1 hown hK hP hD hS 0 rfl rfl 2 (by decide) k11 (fun _ h9 => h9) rfl (by decide +kernel) rfl rfl (Nat.le_of_ble_eq_true rfl) dX1_init_34 (fun H locs hP hD hS => ?_)
  have hP : va_P E.1 vwCl ((([(h0, .inr (1, [.ref (Groupa_self u2), .ref (Groupa_self u4), .ref (Lessona_self u6)]))] : va_W)) ++ ((Group_c E u2 Group_0) ++ ((Group_c E u4 Group_0) ++ (Lesson_c E u6 Lesson_0)))) H := hP
  have hD : va_D A ((([(h0, .inr (1, [.ref (Groupa_self u2), .ref (Groupa_self u4), .ref (Lessona_self u6)]))] : va_W)) ++ ((Group_c E u2 Group_0) ++ ((Group_c E u4 Group_0) ++ (Lesson_c E u6 Lesson_0)))) := hD
  have hmv : List.Perm ((([(h0, .inr (1, [.ref (Groupa_self u2), .ref (Groupa_self u4), .ref (Lessona_self u6)]))] : va_W)) ++ ((Group_c E u2 Group_0) ++ ((Group_c E u4 Group_0) ++ (Lesson_c E u6 Lesson_0)))) ((([(h0, .inr (1, [.ref (Groupa_self u2), .ref (Groupa_self u4), .ref (Lessona_self u6)]))] : va_W)) ++ ((Group_c E u2 Group_0) ++ ((Group_c E u4 Group_0) ++ (Lesson_c E u6 Lesson_0)))) := m_mv (A := (List.take 19 ((([(h0, .inr (1, [.ref (Groupa_self u2), .ref (Groupa_self u4), .ref (Lessona_self u6)]))] : va_W)) ++ ((Group_c E u2 Group_0) ++ ((Group_c E u4 Group_0) ++ (Lesson_c E u6 Lesson_0)))))) (m := Lesson_c E u6 Lesson_0) (C := (List.drop 23 ((([(h0, .inr (1, [.ref (Groupa_self u2), .ref (Groupa_self u4), .ref (Lessona_self u6)]))] : va_W)) ++ ((Group_c E u2 Group_0) ++ ((Group_c E u4 Group_0) ++ (Lesson_c E u6 Lesson_0))))))
  have hP := m_permP hmv hP
  have hD := m_permD hmv hD
  have hP : va_P E.1 vwCl ((Forecast_c E ((h0, u2, u4), u6).1 (Forecast_0 (Lessona_self ((h0, u2, u4), u6).2))) ++ (Lesson_c E ((h0, u2, u4), u6).2 Lesson_0)) H := hP
  have hD : va_D A ((Forecast_c E ((h0, u2, u4), u6).1 (Forecast_0 (Lessona_self ((h0, u2, u4), u6).2))) ++ (Lesson_c E ((h0, u2, u4), u6).2 Lesson_0)) := hD
  rw [hQ]
  refine W.widen (k := 22) (n := 281) (Nat.le_of_ble_eq_true rfl) (Nat.le_of_ble_eq_true rfl) ?_
  exact W.vret hx hb hr (fun t ht _ => ⟨⟨((h0, u2, u4), u6), rfl, rfl, by rw [ht]; exact hP, hD⟩, hS.F ht⟩) hS.2.2 dX1_init_37
