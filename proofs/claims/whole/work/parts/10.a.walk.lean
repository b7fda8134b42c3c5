def fn_X0_begins (v : ActsV) (x0 : Int32) : Option ActsV :=
  jp (fun (wx_29 : ActsV) => some (Acts_ran_s wx_29 ((Acts_ran wx_29) + 1))) (fun j29 => (if (Acts_ran v) < 0 then j29 v else (if (Int32.ofNat 20) ≤ (Acts_ran v) then j29 v else (if mIn (Acts_ran v) 20 = true then j29 (Acts_kept_s v (upd (Acts_kept v) ((Acts_ran v)).toNatClampNeg x0)) else none))))
abbrev rmX0_begins : Room := { frames := 0, cells := 0, slots := 0, locals := 0 }
set_option maxRecDepth 100000 in
set_option maxHeartbeats 400000 in
theorem c_X0_begins (l : Launch) (E : mE) (a : ActsA) (v : ActsV) (x0 : Int32) (t : ActsV) (hF : fn_X0_begins v x0 = some t) (sz : Nat) : Met l yX0_begins wsX0_begins rmX0_begins (mPm E [.ref (Actsa_self a), .int x0] sz ((Acts_c E a v)) (([] : va_W))) (mSm E (none) ((Acts_c E a t)) (va_A ((Acts_c E a v)) sz)) 0 0 (va_A ((Acts_c E a v)) sz) := by
  refine mOfM (cc := cX0_begins) (maxL := 2) (ret := none) (by decide) rfl (Nat.le_of_ble_eq_true rfl) ?_
  intro p e_ s m args below meth c Q A hQ CC hr hlocks hin hA hP hD hKN hGl hR0 hRA ls hl
  have hS : va_S A s.heap s.heap [] := va_S.rf
  have hK := hKN.1
  have hx := CC.1
  have hb := CC.2.1
  have hml := CC.2.2.1
  have hown : s.vm.findClass RX0 = some m.cls := CC.2.2.2.1
  have hts := CC.2.2.2.2
  have hl : lv_has ls 2 [(0, .ref (Actsa_self a)), (1, .int x0)] := hl
  have k0 := hts (.fieldLink RX0 15 "OneDidAll$Acts" "ran" "I") (by decide +kernel)
  have k1 := (show ∀ w ∈ u_ws RX0 TX0 5, w ∈ wsX0_begins by decide +kernel)
  have k2 := hts (.fieldLink RX0 9 "OneDidAll$Acts" "kept" "[I") (by decide +kernel)
  have hP : va_P E.1 vwCl (Acts_c E a v) s.heap := hP
  obtain ⟨H, hH⟩ : ∃ H, H = s.heap := ⟨_, rfl⟩
  obtain ⟨locs, hlc⟩ : ∃ z : List Loc, z = [] := ⟨_, rfl⟩
  rw [← hH] at hP
  rw [← hlc] at hS
  have hS : va_S A s.heap H locs := by rw [hH]; exact hS
  rw [← hH, ← hlc]
  unfold fn_X0_begins at hF
  refine lv_aload_n hx hb dX0_begins_0 rfl (lv_at hl 0 rfl) ?_
  refine va_get (D := E.1) (ci := 0) (v := .int (Acts_ran v)) (C := RX0) (T := TX0) (N := 5) hx hb hts k1 hown hK hP 0 rfl rfl 1 (by decide) k0 (fun _ h9 => h9) rfl dX0_begins_1 ?_
  obtain ⟨j29, hjd29, hF⟩ := m_jp hF
  have hj29 : ∀ (wx_29 : ActsV) (H : Heap) (locs : List Loc) (ls : Array Slot), j29 wx_29 = some t → va_P E.1 vwCl (Acts_c E a wx_29) H → va_D A (Acts_c E a wx_29) → va_S A s.heap H locs → lv_has ls 2 [(0, .ref (Actsa_self a))] → W p l e_ rmX0_begins s m args below meth c H locs 0 0 Q (F0 m 29 ls []) := by
    intro wx_29 H locs ls hF hP hD hS hl
    rw [hjd29] at hF
    refine lv_aload_n hx hb dX0_begins_29 rfl (lv_at hl 0 rfl) ?_
    refine lv_dup hx hb dX0_begins_30 rfl ?_
    refine va_get (D := E.1) (ci := 0) (v := .int (Acts_ran wx_29)) (C := RX0) (T := TX0) (N := 5) hx hb hts k1 hown hK hP 0 rfl rfl 1 (by decide) k0 (fun _ h9 => h9) rfl dX0_begins_31 ?_
    refine lv_iconst (v := 1) hx hb dX0_begins_34 (by decide) ?_
    refine lv_iadd hx hb dX0_begins_35 ?_
    refine va_put (D := E.1) (ci := 0) (v := .int ((Acts_ran wx_29) + 1)) (ty := .int) (C := RX0) (T := TX0) (N := 5) hx hb hts k1 tyX0 tyX0_ok nmX0 hown hK hP hD hS 0 rfl rfl 1 (by decide) k0 (fun _ h9 => h9) rfl (by decide +kernel) rfl rfl (Nat.le_of_ble_eq_true rfl) dX0_begins_36 (fun H locs hP hD hS => ?_)
    have hP : va_P E.1 vwCl (Acts_c E a (Acts_ran_s wx_29 ((Acts_ran wx_29) + 1))) H := hP
    have hD : va_D A (Acts_c E a (Acts_ran_s wx_29 ((Acts_ran wx_29) + 1))) := hD
    have hF := Option.some.inj hF
    subst hF
    rw [hQ]
    exact W.vret hx hb hr (fun t ht _ => ⟨⟨rfl, by rw [ht]; exact hP, hD⟩, hS.F ht⟩) hS.2.2 dX0_begins_39
  clear hjd29
  refine lv_if_lt (tgt := 29) hx hb dX0_begins_4 (by decide) (fun c1 => ?_) (fun c1 => ?_)
  · have hF := m_pos c1 hF
    exact hj29 v H locs ls hF hP hD hS (lv_sub hl [0] rfl)
  · have hF := m_neg c1 hF
    refine lv_aload_n hx hb dX0_begins_7 rfl (lv_at hl 0 rfl) ?_
    refine va_get (D := E.1) (ci := 0) (v := .int (Acts_ran v)) (C := RX0) (T := TX0) (N := 5) hx hb hts k1 hown hK hP 0 rfl rfl 1 (by decide) k0 (fun _ h9 => h9) rfl dX0_begins_8 ?_
    refine lv_aload_n hx hb dX0_begins_11 rfl (lv_at hl 0 rfl) ?_
    refine va_get (D := E.1) (ci := 0) (v := .ref (Actsa_kept a)) (C := RX0) (T := TX0) (N := 5) hx hb hts k1 hown hK hP 0 rfl rfl 0 (by decide) k2 (fun _ h9 => h9) rfl dX0_begins_12 ?_
    refine va_alen (v := (Int32.ofNat 20)) hx hb hK hP 1 1 rfl rfl rfl dX0_begins_15 ?_
    refine lv_icmp_ge (tgt := 29) hx hb dX0_begins_16 (by decide) (fun c2 => ?_) (fun c2 => ?_)
    · have hF := m_pos c2 hF
      exact hj29 v H locs ls hF hP hD hS (lv_sub hl [0] rfl)
    · have hF := m_neg c2 hF
      refine lv_aload_n hx hb dX0_begins_19 rfl (lv_at hl 0 rfl) ?_
      refine va_get (D := E.1) (ci := 0) (v := .ref (Actsa_kept a)) (C := RX0) (T := TX0) (N := 5) hx hb hts k1 hown hK hP 0 rfl rfl 0 (by decide) k2 (fun _ h9 => h9) rfl dX0_begins_20 ?_
      refine lv_aload_n hx hb dX0_begins_23 rfl (lv_at hl 0 rfl) ?_
      refine va_get (D := E.1) (ci := 0) (v := .int (Acts_ran v)) (C := RX0) (T := TX0) (N := 5) hx hb hts k1 hown hK hP 0 rfl rfl 1 (by decide) k0 (fun _ h9 => h9) rfl dX0_begins_24 ?_
      refine lv_iload_n hx hb dX0_begins_27 rfl (lv_at hl 1 rfl) ?_
      obtain ⟨h3, hF⟩ := m_chk hF
      refine va_iast (f := (Acts_kept v)) hx hb hK hP hD hS 1 1 rfl rfl (mIn_ok h3) dX0_begins_28 (fun H locs hP hD hS => ?_)
      have hP : va_P E.1 vwCl (Acts_c E a (Acts_kept_s v (upd (Acts_kept v) ((Acts_ran v)).toNatClampNeg x0))) H := hP
      have hD : va_D A (Acts_c E a (Acts_kept_s v (upd (Acts_kept v) ((Acts_ran v)).toNatClampNeg x0))) := hD
      exact hj29 (Acts_kept_s v (upd (Acts_kept v) ((Acts_ran v)).toNatClampNeg x0)) H locs ls hF hP hD hS (lv_sub hl [0] rfl)

def fn_X1_workMore (v : ForecastV) : Option Int32 :=
  some ((Group_work (Forecast_trial v)) - (Group_work (Forecast_start v)))
abbrev rmX1_workMore : Room := { frames := 0, cells := 0, slots := 0, locals := 0 }
set_option maxRecDepth 100000 in
set_option maxHeartbeats 400000 in
theorem c_X1_workMore (l : Launch) (E : mE) (a : ForecastA) (v : ForecastV) (t : Int32) (hF : fn_X1_workMore v = some t) : Met l yX1_workMore wsX1_workMore rmX1_workMore (mPp E [.ref (Forecasta_self a)] (Forecast_c E a v)) (mSp (some (.int t))) 0 0 (fun _ => False) := by
  refine mOfP (cc := cX1_workMore) (maxL := 1) (ret := (some .int)) (by decide) rfl (Nat.le_of_ble_eq_true rfl) ?_
  intro p e_ s m args below meth c Q hQ CC hr hlocks hP hKN hGl ls hl
  have hS : va_S (fun _ => False) s.heap s.heap [] := va_S.rf
  have hK := hKN.1
  have hx := CC.1
  have hb := CC.2.1
  have hml := CC.2.2.1
  have hown : s.vm.findClass RX1 = some m.cls := CC.2.2.2.1
  have hts := CC.2.2.2.2
  have hl : lv_has ls 1 [(0, .ref (Forecasta_self a))] := hl
  have k0 := hts (.fieldLink RX1 12 "OneDidAll$Forecast" "trial" "LOneDidAll$Group;") (by decide +kernel)
  have k1 := (show ∀ w ∈ u_ws RX1 TX1 3, w ∈ wsX1_workMore by decide +kernel)
  have k2 := (va_Nw.use rfl (hKN.2.1 ("OneDidAll$Forecast", 52, "OneDidAll$Group", "work", "I", "OneDidAll") (by decide +kernel)) : (Cond.fieldLinkNest "OneDidAll$Forecast" 52 "OneDidAll$Group" "work" "I" "OneDidAll").before args s = true)
  have k3 := (show ∀ w ∈ u_ws RX2 TX2 11, w ∈ wsX1_workMore by decide +kernel)
  have k4 := hts (.fieldLink RX1 18 "OneDidAll$Forecast" "start" "LOneDidAll$Group;") (by decide +kernel)
  unfold fn_X1_workMore at hF
  refine lv_aload_n hx hb dX1_workMore_0 rfl (lv_at hl 0 rfl) ?_
  refine va_get (D := E.1) (ci := 1) (v := .ref (Groupa_self (Forecasta_trial a))) (C := RX1) (T := TX1) (N := 3) hx hb hts k1 hown hK hP 0 rfl rfl 0 (by decide) k0 (fun _ h9 => h9) rfl dX1_workMore_1 ?_
  refine va_getN (D := E.1) (ci := 2) (v := .int (Group_work (Forecast_trial v))) (C := RX2) (T := TX2) (N := 11) hx hb hts k3 hown hK hP 1 rfl rfl 2 (by decide) k2 (fun _ h9 => h9) rfl dX1_workMore_4 ?_
  refine lv_aload_n hx hb dX1_workMore_7 rfl (lv_at hl 0 rfl) ?_
  refine va_get (D := E.1) (ci := 1) (v := .ref (Groupa_self (Forecasta_start a))) (C := RX1) (T := TX1) (N := 3) hx hb hts k1 hown hK hP 0 rfl rfl 1 (by decide) k4 (fun _ h9 => h9) rfl dX1_workMore_8 ?_
  refine va_getN (D := E.1) (ci := 2) (v := .int (Group_work (Forecast_start v))) (C := RX2) (T := TX2) (N := 11) hx hb hts k3 hown hK hP 10 rfl rfl 2 (by decide) k2 (fun _ h9 => h9) rfl dX1_workMore_11 ?_
  refine lv_isub hx hb dX1_workMore_14 ?_
  have hF := Option.some.inj hF
  subst hF
  rw [hQ]
  exact W.iret hx hb hr (fun t ht _ => ⟨rfl, ht⟩) (fun _ h => by cases h) dX1_workMore_15

def fn_X1_hoursMoreOf (v : ForecastV) (x0 : Int32) : Option Int32 :=
  (if mIn x0 6 = true then (if mIn x0 6 = true then some (((Group_hours (Forecast_trial v)) (x0).toNatClampNeg) - ((Group_hours (Forecast_start v)) (x0).toNatClampNeg)) else none) else none)
abbrev rmX1_hoursMoreOf : Room := { frames := 0, cells := 0, slots := 0, locals := 0 }
set_option maxRecDepth 100000 in
set_option maxHeartbeats 400000 in
theorem c_X1_hoursMoreOf (l : Launch) (E : mE) (a : ForecastA) (v : ForecastV) (x0 : Int32) (t : Int32) (hF : fn_X1_hoursMoreOf v x0 = some t) : Met l yX1_hoursMoreOf wsX1_hoursMoreOf rmX1_hoursMoreOf (mPp E [.ref (Forecasta_self a), .int x0] (Forecast_c E a v)) (mSp (some (.int t))) 0 0 (fun _ => False) := by
  refine mOfP (cc := cX1_hoursMoreOf) (maxL := 2) (ret := (some .int)) (by decide) rfl (Nat.le_of_ble_eq_true rfl) ?_
  intro p e_ s m args below meth c Q hQ CC hr hlocks hP hKN hGl ls hl
  have hS : va_S (fun _ => False) s.heap s.heap [] := va_S.rf
  have hK := hKN.1
  have hx := CC.1
  have hb := CC.2.1
  have hml := CC.2.2.1
  have hown : s.vm.findClass RX1 = some m.cls := CC.2.2.2.1
  have hts := CC.2.2.2.2
  have hl : lv_has ls 2 [(0, .ref (Forecasta_self a)), (1, .int x0)] := hl
  have k0 := hts (.fieldLink RX1 12 "OneDidAll$Forecast" "trial" "LOneDidAll$Group;") (by decide +kernel)
  have k1 := (show ∀ w ∈ u_ws RX1 TX1 3, w ∈ wsX1_hoursMoreOf by decide +kernel)
  have k2 := (va_Nw.use rfl (hKN.2.1 ("OneDidAll$Forecast", 60, "OneDidAll$Group", "hours", "[I", "OneDidAll") (by decide +kernel)) : (Cond.fieldLinkNest "OneDidAll$Forecast" 60 "OneDidAll$Group" "hours" "[I" "OneDidAll").before args s = true)
  have k3 := (show ∀ w ∈ u_ws RX2 TX2 11, w ∈ wsX1_hoursMoreOf by decide +kernel)
  have k4 := hts (.fieldLink RX1 18 "OneDidAll$Forecast" "start" "LOneDidAll$Group;") (by decide +kernel)
  unfold fn_X1_hoursMoreOf at hF
  refine lv_aload_n hx hb dX1_hoursMoreOf_0 rfl (lv_at hl 0 rfl) ?_
  refine va_get (D := E.1) (ci := 1) (v := .ref (Groupa_self (Forecasta_trial a))) (C := RX1) (T := TX1) (N := 3) hx hb hts k1 hown hK hP 0 rfl rfl 0 (by decide) k0 (fun _ h9 => h9) rfl dX1_hoursMoreOf_1 ?_
  refine va_getN (D := E.1) (ci := 2) (v := .ref (Groupa_hours (Forecasta_trial a))) (C := RX2) (T := TX2) (N := 11) hx hb hts k3 hown hK hP 1 rfl rfl 7 (by decide) k2 (fun _ h9 => h9) rfl dX1_hoursMoreOf_4 ?_
  refine lv_iload_n hx hb dX1_hoursMoreOf_7 rfl (lv_at hl 1 rfl) ?_
  obtain ⟨h1, hF⟩ := m_chk hF
  refine va_iald (f := (Group_hours (Forecast_trial v))) hx hb hK hP 6 1 rfl rfl (mIn_ok h1) dX1_hoursMoreOf_8 ?_
  refine W.eq (g2 := F0 m 9 ls [.int ((Group_hours (Forecast_trial v)) (x0).toNatClampNeg)]) rfl ?_
  refine lv_aload_n hx hb dX1_hoursMoreOf_9 rfl (lv_at hl 0 rfl) ?_
  refine va_get (D := E.1) (ci := 1) (v := .ref (Groupa_self (Forecasta_start a))) (C := RX1) (T := TX1) (N := 3) hx hb hts k1 hown hK hP 0 rfl rfl 1 (by decide) k4 (fun _ h9 => h9) rfl dX1_hoursMoreOf_10 ?_
  refine va_getN (D := E.1) (ci := 2) (v := .ref (Groupa_hours (Forecasta_start a))) (C := RX2) (T := TX2) (N := 11) hx hb hts k3 hown hK hP 10 rfl rfl 7 (by decide) k2 (fun _ h9 => h9) rfl dX1_hoursMoreOf_13 ?_
  refine lv_iload_n hx hb dX1_hoursMoreOf_16 rfl (lv_at hl 1 rfl) ?_
  obtain ⟨h2, hF⟩ := m_chk hF
  refine va_iald (f := (Group_hours (Forecast_start v))) hx hb hK hP 15 1 rfl rfl (mIn_ok h2) dX1_hoursMoreOf_17 ?_
  refine W.eq (g2 := F0 m 18 ls [.int ((Group_hours (Forecast_start v)) (x0).toNatClampNeg), .int ((Group_hours (Forecast_trial v)) (x0).toNatClampNeg)]) rfl ?_
  refine lv_isub hx hb dX1_hoursMoreOf_18 ?_
  have hF := Option.some.inj hF
  subst hF
  rw [hQ]
  exact W.iret hx hb hr (fun t ht _ => ⟨rfl, ht⟩) (fun _ h => by cases h) dX1_hoursMoreOf_19

def st_X2_add_76 (j103 : GroupV → Option (Int32 × GroupV)) (rec76 : Int32 → GroupV → Option (Int32 × GroupV)) (y5_76 : Int32) (wy_76 : GroupV) : Option (Int32 × GroupV) :=
  (if 4 ≤ y5_76 then j103 wy_76 else (if mIn (((Group_size wy_76) * 4) + y5_76) 24 = true then rec76 (y5_76 + 1) (Group_rows_s wy_76 (upd (Group_rows wy_76) ((((Group_size wy_76) * 4) + y5_76)).toNatClampNeg 0)) else none))
def lp_X2_add_76 (j103 : GroupV → Option (Int32 × GroupV)) : Nat → Int32 → GroupV → Option (Int32 × GroupV)
  | 0 => fun _ _ => none
  | n + 1 => st_X2_add_76 j103 (lp_X2_add_76 j103 n)
def fn_X2_add (v : GroupV) (x0 : Int32) (x1 : Int32) (x2 : Int32) (x3 : Int32) : Option (Int32 × GroupV) :=
  (if (Group_size v) < 6 then (if mIn (Group_size v) 6 = true then (if mIn (Group_size v) 6 = true then (if mIn (Group_size v) 6 = true then (if mIn (Group_size v) 6 = true then (if mIn (Group_size v) 6 = true then (if mIn (Group_size v) 6 = true then jp (fun (wx_103 : GroupV) => some ((((Group_size wx_103) + 1) - 1), (Group_size_s wx_103 ((Group_size wx_103) + 1)))) (fun j103 => lp_X2_add_76 j103 m_N 0 (Group_outs_s (Group_hours_s (Group_wills_s (Group_skills_s (Group_vs_s (Group_kinds_s v (upd (Group_kinds v) ((Group_size v)).toNatClampNeg x0)) (upd (Group_vs v) ((Group_size v)).toNatClampNeg x1)) (upd (Group_skills v) ((Group_size v)).toNatClampNeg x2)) (upd (Group_wills v) ((Group_size v)).toNatClampNeg x3)) (upd (Group_hours v) ((Group_size v)).toNatClampNeg 0)) (upd (Group_outs v) ((Group_size v)).toNatClampNeg (vp_nar .boolean 0)))) else none) else none) else none) else none) else none) else none) else some ((-4), v))
abbrev rmX2_add : Room := { frames := 0, cells := 0, slots := 0, locals := 0 }
set_option maxRecDepth 100000 in
set_option maxHeartbeats 400000 in
theorem c_X2_add (l : Launch) (E : mE) (a : GroupA) (v : GroupV) (x0 : Int32) (x1 : Int32) (x2 : Int32) (x3 : Int32) (t : (Int32 × GroupV)) (hF : fn_X2_add v x0 x1 x2 x3 = some t) (sz : Nat) : Met l yX2_add wsX2_add rmX2_add (mPm E [.ref (Groupa_self a), .int x0, .int x1, .int x2, .int x3] sz ((Group_c E a v)) (([] : va_W))) (mSm E (some (.int t.1)) ((Group_c E a t.2)) (va_A ((Group_c E a v)) sz)) 0 0 (va_A ((Group_c E a v)) sz) := by
  refine mOfM (cc := cX2_add) (maxL := 6) (ret := (some .int)) (by decide) rfl (Nat.le_of_ble_eq_true rfl) ?_
  intro p e_ s m args below meth c Q A hQ CC hr hlocks hin hA hP hD hKN hGl hR0 hRA ls hl
  have hS : va_S A s.heap s.heap [] := va_S.rf
  have hK := hKN.1
  have hx := CC.1
  have hb := CC.2.1
  have hml := CC.2.2.1
  have hown : s.vm.findClass RX2 = some m.cls := CC.2.2.2.1
  have hts := CC.2.2.2.2
  have hl : lv_has ls 6 [(0, .ref (Groupa_self a)), (1, .int x0), (2, .int x1), (3, .int x2), (4, .int x3)] := hl
  have k0 := hts (.fieldLink RX2 9 "OneDidAll$Group" "size" "I") (by decide +kernel)
  have k1 := (show ∀ w ∈ u_ws RX2 TX2 11, w ∈ wsX2_add by decide +kernel)
  have k2 := hts (.fieldLink RX2 21 "OneDidAll$Group" "kinds" "[I") (by decide +kernel)
  have k3 := hts (.fieldLink RX2 25 "OneDidAll$Group" "vs" "[I") (by decide +kernel)
  have k4 := hts (.fieldLink RX2 28 "OneDidAll$Group" "skills" "[I") (by decide +kernel)
  have k5 := hts (.fieldLink RX2 31 "OneDidAll$Group" "wills" "[I") (by decide +kernel)
  have k6 := hts (.fieldLink RX2 34 "OneDidAll$Group" "hours" "[I") (by decide +kernel)
  have k7 := hts (.fieldLink RX2 37 "OneDidAll$Group" "outs" "[Z") (by decide +kernel)
  have k8 := hts (.fieldLink RX2 41 "OneDidAll$Group" "rows" "[I") (by decide +kernel)
  have hP : va_P E.1 vwCl (Group_c E a v) s.heap := hP
  obtain ⟨H, hH⟩ : ∃ H, H = s.heap := ⟨_, rfl⟩
  obtain ⟨locs, hlc⟩ : ∃ z : List Loc, z = [] := ⟨_, rfl⟩
  rw [← hH] at hP
  rw [← hlc] at hS
  have hS : va_S A s.heap H locs := by rw [hH]; exact hS
  rw [← hH, ← hlc]
  unfold fn_X2_add at hF
  refine lv_aload_n hx hb dX2_add_0 rfl (lv_at hl 0 rfl) ?_
  refine va_get (D := E.1) (ci := 2) (v := .int (Group_size v)) (C := RX2) (T := TX2) (N := 11) hx hb hts k1 hown hK hP 0 rfl rfl 0 (by decide) k0 (fun _ h9 => h9) rfl dX2_add_1 ?_
  refine lv_bipush (v := 6) hx hb dX2_add_4 (by decide) ?_
  refine lv_icmp_lt (tgt := 12) hx hb dX2_add_6 (by decide) (fun c1 => ?_) (fun c1 => ?_)
  · have hF := m_pos c1 hF
    refine lv_aload_n hx hb dX2_add_12 rfl (lv_at hl 0 rfl) ?_
    refine va_get (D := E.1) (ci := 2) (v := .ref (Groupa_kinds a)) (C := RX2) (T := TX2) (N := 11) hx hb hts k1 hown hK hP 0 rfl rfl 3 (by decide) k2 (fun _ h9 => h9) rfl dX2_add_13 ?_
    refine lv_aload_n hx hb dX2_add_16 rfl (lv_at hl 0 rfl) ?_
    refine va_get (D := E.1) (ci := 2) (v := .int (Group_size v)) (C := RX2) (T := TX2) (N := 11) hx hb hts k1 hown hK hP 0 rfl rfl 0 (by decide) k0 (fun _ h9 => h9) rfl dX2_add_17 ?_
    refine lv_iload_n hx hb dX2_add_20 rfl (lv_at hl 1 rfl) ?_
    obtain ⟨h2, hF⟩ := m_chk hF
    refine va_iast (f := (Group_kinds v)) hx hb hK hP hD hS 1 1 rfl rfl (mIn_ok h2) dX2_add_21 (fun H locs hP hD hS => ?_)
    have hP : va_P E.1 vwCl (Group_c E a (Group_kinds_s v (upd (Group_kinds v) ((Group_size v)).toNatClampNeg x0))) H := hP
    have hD : va_D A (Group_c E a (Group_kinds_s v (upd (Group_kinds v) ((Group_size v)).toNatClampNeg x0))) := hD
    refine lv_aload_n hx hb dX2_add_22 rfl (lv_at hl 0 rfl) ?_
    refine va_get (D := E.1) (ci := 2) (v := .ref (Groupa_vs a)) (C := RX2) (T := TX2) (N := 11) hx hb hts k1 hown hK hP 0 rfl rfl 4 (by decide) k3 (fun _ h9 => h9) rfl dX2_add_23 ?_
    refine lv_aload_n hx hb dX2_add_26 rfl (lv_at hl 0 rfl) ?_
    refine va_get (D := E.1) (ci := 2) (v := .int (Group_size v)) (C := RX2) (T := TX2) (N := 11) hx hb hts k1 hown hK hP 0 rfl rfl 0 (by decide) k0 (fun _ h9 => h9) rfl dX2_add_27 ?_
    refine lv_iload_n hx hb dX2_add_30 rfl (lv_at hl 2 rfl) ?_
    obtain ⟨h3, hF⟩ := m_chk hF
    refine va_iast (f := (Group_vs v)) hx hb hK hP hD hS 2 1 rfl rfl (mIn_ok h3) dX2_add_31 (fun H locs hP hD hS => ?_)
    have hP : va_P E.1 vwCl (Group_c E a (Group_vs_s (Group_kinds_s v (upd (Group_kinds v) ((Group_size v)).toNatClampNeg x0)) (upd (Group_vs v) ((Group_size v)).toNatClampNeg x1))) H := hP
    have hD : va_D A (Group_c E a (Group_vs_s (Group_kinds_s v (upd (Group_kinds v) ((Group_size v)).toNatClampNeg x0)) (upd (Group_vs v) ((Group_size v)).toNatClampNeg x1))) := hD
    refine lv_aload_n hx hb dX2_add_32 rfl (lv_at hl 0 rfl) ?_
    refine va_get (D := E.1) (ci := 2) (v := .ref (Groupa_skills a)) (C := RX2) (T := TX2) (N := 11) hx hb hts k1 hown hK hP 0 rfl rfl 5 (by decide) k4 (fun _ h9 => h9) rfl dX2_add_33 ?_
    refine lv_aload_n hx hb dX2_add_36 rfl (lv_at hl 0 rfl) ?_
    refine va_get (D := E.1) (ci := 2) (v := .int (Group_size v)) (C := RX2) (T := TX2) (N := 11) hx hb hts k1 hown hK hP 0 rfl rfl 0 (by decide) k0 (fun _ h9 => h9) rfl dX2_add_37 ?_
    refine lv_iload_n hx hb dX2_add_40 rfl (lv_at hl 3 rfl) ?_
    obtain ⟨h4, hF⟩ := m_chk hF
    refine va_iast (f := (Group_skills v)) hx hb hK hP hD hS 3 1 rfl rfl (mIn_ok h4) dX2_add_41 (fun H locs hP hD hS => ?_)
    have hP : va_P E.1 vwCl (Group_c E a (Group_skills_s (Group_vs_s (Group_kinds_s v (upd (Group_kinds v) ((Group_size v)).toNatClampNeg x0)) (upd (Group_vs v) ((Group_size v)).toNatClampNeg x1)) (upd (Group_skills v) ((Group_size v)).toNatClampNeg x2))) H := hP
    have hD : va_D A (Group_c E a (Group_skills_s (Group_vs_s (Group_kinds_s v (upd (Group_kinds v) ((Group_size v)).toNatClampNeg x0)) (upd (Group_vs v) ((Group_size v)).toNatClampNeg x1)) (upd (Group_skills v) ((Group_size v)).toNatClampNeg x2))) := hD
    refine lv_aload_n hx hb dX2_add_42 rfl (lv_at hl 0 rfl) ?_
    refine va_get (D := E.1) (ci := 2) (v := .ref (Groupa_wills a)) (C := RX2) (T := TX2) (N := 11) hx hb hts k1 hown hK hP 0 rfl rfl 6 (by decide) k5 (fun _ h9 => h9) rfl dX2_add_43 ?_
    refine lv_aload_n hx hb dX2_add_46 rfl (lv_at hl 0 rfl) ?_
    refine va_get (D := E.1) (ci := 2) (v := .int (Group_size v)) (C := RX2) (T := TX2) (N := 11) hx hb hts k1 hown hK hP 0 rfl rfl 0 (by decide) k0 (fun _ h9 => h9) rfl dX2_add_47 ?_
    refine lv_iload hx hb dX2_add_50 (lv_at hl 4 rfl) ?_
    obtain ⟨h5, hF⟩ := m_chk hF
    refine va_iast (f := (Group_wills v)) hx hb hK hP hD hS 4 1 rfl rfl (mIn_ok h5) dX2_add_52 (fun H locs hP hD hS => ?_)
    have hP : va_P E.1 vwCl (Group_c E a (Group_wills_s (Group_skills_s (Group_vs_s (Group_kinds_s v (upd (Group_kinds v) ((Group_size v)).toNatClampNeg x0)) (upd (Group_vs v) ((Group_size v)).toNatClampNeg x1)) (upd (Group_skills v) ((Group_size v)).toNatClampNeg x2)) (upd (Group_wills v) ((Group_size v)).toNatClampNeg x3))) H := hP
    have hD : va_D A (Group_c E a (Group_wills_s (Group_skills_s (Group_vs_s (Group_kinds_s v (upd (Group_kinds v) ((Group_size v)).toNatClampNeg x0)) (upd (Group_vs v) ((Group_size v)).toNatClampNeg x1)) (upd (Group_skills v) ((Group_size v)).toNatClampNeg x2)) (upd (Group_wills v) ((Group_size v)).toNatClampNeg x3))) := hD
    refine lv_aload_n hx hb dX2_add_53 rfl (lv_at hl 0 rfl) ?_
    refine va_get (D := E.1) (ci := 2) (v := .ref (Groupa_hours a)) (C := RX2) (T := TX2) (N := 11) hx hb hts k1 hown hK hP 0 rfl rfl 7 (by decide) k6 (fun _ h9 => h9) rfl dX2_add_54 ?_
    refine lv_aload_n hx hb dX2_add_57 rfl (lv_at hl 0 rfl) ?_
    refine va_get (D := E.1) (ci := 2) (v := .int (Group_size v)) (C := RX2) (T := TX2) (N := 11) hx hb hts k1 hown hK hP 0 rfl rfl 0 (by decide) k0 (fun _ h9 => h9) rfl dX2_add_58 ?_
    refine lv_iconst (v := 0) hx hb dX2_add_61 (by decide) ?_
    obtain ⟨h6, hF⟩ := m_chk hF
    refine va_iast (f := (Group_hours v)) hx hb hK hP hD hS 5 1 rfl rfl (mIn_ok h6) dX2_add_62 (fun H locs hP hD hS => ?_)
    have hP : va_P E.1 vwCl (Group_c E a (Group_hours_s (Group_wills_s (Group_skills_s (Group_vs_s (Group_kinds_s v (upd (Group_kinds v) ((Group_size v)).toNatClampNeg x0)) (upd (Group_vs v) ((Group_size v)).toNatClampNeg x1)) (upd (Group_skills v) ((Group_size v)).toNatClampNeg x2)) (upd (Group_wills v) ((Group_size v)).toNatClampNeg x3)) (upd (Group_hours v) ((Group_size v)).toNatClampNeg 0))) H := hP
    have hD : va_D A (Group_c E a (Group_hours_s (Group_wills_s (Group_skills_s (Group_vs_s (Group_kinds_s v (upd (Group_kinds v) ((Group_size v)).toNatClampNeg x0)) (upd (Group_vs v) ((Group_size v)).toNatClampNeg x1)) (upd (Group_skills v) ((Group_size v)).toNatClampNeg x2)) (upd (Group_wills v) ((Group_size v)).toNatClampNeg x3)) (upd (Group_hours v) ((Group_size v)).toNatClampNeg 0))) := hD
    refine lv_aload_n hx hb dX2_add_63 rfl (lv_at hl 0 rfl) ?_
    refine va_get (D := E.1) (ci := 2) (v := .ref (Groupa_outs a)) (C := RX2) (T := TX2) (N := 11) hx hb hts k1 hown hK hP 0 rfl rfl 8 (by decide) k7 (fun _ h9 => h9) rfl dX2_add_64 ?_
    refine lv_aload_n hx hb dX2_add_67 rfl (lv_at hl 0 rfl) ?_
    refine va_get (D := E.1) (ci := 2) (v := .int (Group_size v)) (C := RX2) (T := TX2) (N := 11) hx hb hts k1 hown hK hP 0 rfl rfl 0 (by decide) k0 (fun _ h9 => h9) rfl dX2_add_68 ?_
    refine lv_iconst (v := 0) hx hb dX2_add_71 (by decide) ?_
    obtain ⟨h7, hF⟩ := m_chk hF
    refine va_zast (f := (Group_outs v)) hx hb hK hP hD hS 6 2 rfl rfl (mIn_ok h7) dX2_add_72 (fun H locs hP hD hS => ?_)
    have hP : va_P E.1 vwCl (Group_c E a (Group_outs_s (Group_hours_s (Group_wills_s (Group_skills_s (Group_vs_s (Group_kinds_s v (upd (Group_kinds v) ((Group_size v)).toNatClampNeg x0)) (upd (Group_vs v) ((Group_size v)).toNatClampNeg x1)) (upd (Group_skills v) ((Group_size v)).toNatClampNeg x2)) (upd (Group_wills v) ((Group_size v)).toNatClampNeg x3)) (upd (Group_hours v) ((Group_size v)).toNatClampNeg 0)) (upd (Group_outs v) ((Group_size v)).toNatClampNeg (vp_nar .boolean 0)))) H := hP
    have hD : va_D A (Group_c E a (Group_outs_s (Group_hours_s (Group_wills_s (Group_skills_s (Group_vs_s (Group_kinds_s v (upd (Group_kinds v) ((Group_size v)).toNatClampNeg x0)) (upd (Group_vs v) ((Group_size v)).toNatClampNeg x1)) (upd (Group_skills v) ((Group_size v)).toNatClampNeg x2)) (upd (Group_wills v) ((Group_size v)).toNatClampNeg x3)) (upd (Group_hours v) ((Group_size v)).toNatClampNeg 0)) (upd (Group_outs v) ((Group_size v)).toNatClampNeg (vp_nar .boolean 0)))) := hD
    refine lv_iconst (v := 0) hx hb dX2_add_73 (by decide) ?_
    refine lv_istore (lv' := [(5, .int 0), (0, .ref (Groupa_self a)), (1, .int x0), (2, .int x1), (3, .int x2), (4, .int x3)]) hx hb dX2_add_74 hl (by decide) rfl (fun ls hl => ?_)
    obtain ⟨j103, hjd103, hF⟩ := m_jp hF
    have hj103 : ∀ (wx_103 : GroupV) (H : Heap) (locs : List Loc) (ls : Array Slot), j103 wx_103 = some t → va_P E.1 vwCl (Group_c E a wx_103) H → va_D A (Group_c E a wx_103) → va_S A s.heap H locs → lv_has ls 6 [(0, .ref (Groupa_self a))] → W p l e_ rmX2_add s m args below meth c H locs 0 0 Q (F0 m 103 ls []) := by
      intro wx_103 H locs ls hF hP hD hS hl
      rw [hjd103] at hF
      refine lv_aload_n hx hb dX2_add_103 rfl (lv_at hl 0 rfl) ?_
      refine lv_dup hx hb dX2_add_104 rfl ?_
      refine va_get (D := E.1) (ci := 2) (v := .int (Group_size wx_103)) (C := RX2) (T := TX2) (N := 11) hx hb hts k1 hown hK hP 0 rfl rfl 0 (by decide) k0 (fun _ h9 => h9) rfl dX2_add_105 ?_
      refine lv_iconst (v := 1) hx hb dX2_add_108 (by decide) ?_
      refine lv_iadd hx hb dX2_add_109 ?_
      refine va_put (D := E.1) (ci := 2) (v := .int ((Group_size wx_103) + 1)) (ty := .int) (C := RX2) (T := TX2) (N := 11) hx hb hts k1 tyX2 tyX2_ok nmX2 hown hK hP hD hS 0 rfl rfl 0 (by decide) k0 (fun _ h9 => h9) rfl (by decide +kernel) rfl rfl (Nat.le_of_ble_eq_true rfl) dX2_add_110 (fun H locs hP hD hS => ?_)
      have hP : va_P E.1 vwCl (Group_c E a (Group_size_s wx_103 ((Group_size wx_103) + 1))) H := hP
      have hD : va_D A (Group_c E a (Group_size_s wx_103 ((Group_size wx_103) + 1))) := hD
      refine lv_aload_n hx hb dX2_add_113 rfl (lv_at hl 0 rfl) ?_
      refine va_get (D := E.1) (ci := 2) (v := .int ((Group_size wx_103) + 1)) (C := RX2) (T := TX2) (N := 11) hx hb hts k1 hown hK hP 0 rfl rfl 0 (by decide) k0 (fun _ h9 => h9) rfl dX2_add_114 ?_
      refine lv_iconst (v := 1) hx hb dX2_add_117 (by decide) ?_
      refine lv_isub hx hb dX2_add_118 ?_
      have hF := Option.some.inj hF
      subst hF
      rw [hQ]
      exact W.iret hx hb hr (fun t ht _ => ⟨⟨rfl, by rw [ht]; exact hP, hD⟩, hS.F ht⟩) hS.2.2 dX2_add_119
    clear hjd103
    have hL76 : ∀ (n : Nat) (y5_76 : Int32) (wy_76 : GroupV) (H : Heap) (locs : List Loc) (ls : Array Slot), lp_X2_add_76 j103 n y5_76 wy_76 = some t → va_P E.1 vwCl (Group_c E a wy_76) H → va_D A (Group_c E a wy_76) → va_S A s.heap H locs → lv_has ls 6 [(0, .ref (Groupa_self a)), (5, .int y5_76)] → W p l e_ rmX2_add s m args below meth c H locs 0 0 Q (F0 m 76 ls []) := by
      intro n
      induction n with
      | zero =>
        intro y5_76 wy_76 H locs ls hF
        exact nomatch (show (none : Option (Int32 × GroupV)) = some t from hF)
      | succ n ih76 =>
        intro y5_76 wy_76 H locs ls hF hP hD hS hl
        have hF : st_X2_add_76 j103 (lp_X2_add_76 j103 n) y5_76 wy_76 = some t := hF
        unfold st_X2_add_76 at hF
        refine lv_iload hx hb dX2_add_76 (lv_at hl 1 rfl) ?_
        refine lv_iconst (v := 4) hx hb dX2_add_78 (by decide) ?_
        refine lv_icmp_ge (tgt := 103) hx hb dX2_add_79 (by decide) (fun c8 => ?_) (fun c8 => ?_)
        · have hF := m_pos c8 hF
          exact hj103 wy_76 H locs ls hF hP hD hS (lv_sub hl [0] rfl)
        · have hF := m_neg c8 hF
          refine lv_aload_n hx hb dX2_add_82 rfl (lv_at hl 0 rfl) ?_
          refine va_get (D := E.1) (ci := 2) (v := .ref (Groupa_rows a)) (C := RX2) (T := TX2) (N := 11) hx hb hts k1 hown hK hP 0 rfl rfl 9 (by decide) k8 (fun _ h9 => h9) rfl dX2_add_83 ?_
          refine lv_aload_n hx hb dX2_add_86 rfl (lv_at hl 0 rfl) ?_
          refine va_get (D := E.1) (ci := 2) (v := .int (Group_size wy_76)) (C := RX2) (T := TX2) (N := 11) hx hb hts k1 hown hK hP 0 rfl rfl 0 (by decide) k0 (fun _ h9 => h9) rfl dX2_add_87 ?_
          refine lv_iconst (v := 4) hx hb dX2_add_90 (by decide) ?_
          refine lv_imul hx hb dX2_add_91 ?_
          refine lv_iload hx hb dX2_add_92 (lv_at hl 1 rfl) ?_
          refine lv_iadd hx hb dX2_add_94 ?_
          refine lv_iconst (v := 0) hx hb dX2_add_95 (by decide) ?_
          obtain ⟨h9, hF⟩ := m_chk hF
          refine va_iast (f := (Group_rows wy_76)) hx hb hK hP hD hS 7 1 rfl rfl (mIn_ok h9) dX2_add_96 (fun H locs hP hD hS => ?_)
          have hP : va_P E.1 vwCl (Group_c E a (Group_rows_s wy_76 (upd (Group_rows wy_76) ((((Group_size wy_76) * 4) + y5_76)).toNatClampNeg 0))) H := hP
          have hD : va_D A (Group_c E a (Group_rows_s wy_76 (upd (Group_rows wy_76) ((((Group_size wy_76) * 4) + y5_76)).toNatClampNeg 0))) := hD
          refine lv_iinc (v := (y5_76 + 1)) (lv' := [(5, .int (y5_76 + 1)), (0, .ref (Groupa_self a))]) hx hb dX2_add_97 hl (k := 1) rfl rfl (by decide) rfl (fun ls hl => ?_)
          refine lv_goto (tgt := 76) hx hb dX2_add_100 (by decide) ?_
          exact ih76 (y5_76 + 1) (Group_rows_s wy_76 (upd (Group_rows wy_76) ((((Group_size wy_76) * 4) + y5_76)).toNatClampNeg 0)) H locs ls hF hP hD hS (lv_sub hl [1, 0] rfl)
    exact hL76 m_N 0 (Group_outs_s (Group_hours_s (Group_wills_s (Group_skills_s (Group_vs_s (Group_kinds_s v (upd (Group_kinds v) ((Group_size v)).toNatClampNeg x0)) (upd (Group_vs v) ((Group_size v)).toNatClampNeg x1)) (upd (Group_skills v) ((Group_size v)).toNatClampNeg x2)) (upd (Group_wills v) ((Group_size v)).toNatClampNeg x3)) (upd (Group_hours v) ((Group_size v)).toNatClampNeg 0)) (upd (Group_outs v) ((Group_size v)).toNatClampNeg (vp_nar .boolean 0))) H locs ls hF hP hD hS (lv_sub hl [1, 0] rfl)
  · have hF := m_neg c1 hF
    refine lv_bipush (v := (-4)) hx hb dX2_add_9 (by decide) ?_
    have hF := Option.some.inj hF
    subst hF
    rw [hQ]
    exact W.iret hx hb hr (fun t ht _ => ⟨⟨rfl, by rw [ht]; exact hP, hD⟩, hS.F ht⟩) hS.2.2 dX2_add_11

def st_X2_copyFrom_26 (v0 : GroupV) (j112 : GroupV → Option GroupV) (rec26 : Int32 → GroupV → Option GroupV) (y2_26 : Int32) (wy_26 : GroupV) : Option GroupV :=
  (if (Group_size wy_26) ≤ y2_26 then j112 wy_26 else (if mIn y2_26 6 = true then (if mIn y2_26 6 = true then (if mIn y2_26 6 = true then (if mIn y2_26 6 = true then (if mIn y2_26 6 = true then (if mIn y2_26 6 = true then (if mIn y2_26 6 = true then (if mIn y2_26 6 = true then (if mIn y2_26 6 = true then (if mIn y2_26 6 = true then (if mIn y2_26 6 = true then (if mIn y2_26 6 = true then rec26 (y2_26 + 1) (Group_outs_s (Group_hours_s (Group_wills_s (Group_skills_s (Group_vs_s (Group_kinds_s wy_26 (upd (Group_kinds wy_26) (y2_26).toNatClampNeg ((Group_kinds v0) (y2_26).toNatClampNeg))) (upd (Group_vs wy_26) (y2_26).toNatClampNeg ((Group_vs v0) (y2_26).toNatClampNeg))) (upd (Group_skills wy_26) (y2_26).toNatClampNeg ((Group_skills v0) (y2_26).toNatClampNeg))) (upd (Group_wills wy_26) (y2_26).toNatClampNeg ((Group_wills v0) (y2_26).toNatClampNeg))) (upd (Group_hours wy_26) (y2_26).toNatClampNeg ((Group_hours v0) (y2_26).toNatClampNeg))) (upd (Group_outs wy_26) (y2_26).toNatClampNeg (vp_nar .boolean ((Group_outs v0) (y2_26).toNatClampNeg)))) else none) else none) else none) else none) else none) else none) else none) else none) else none) else none) else none) else none))
def lp_X2_copyFrom_26 (v0 : GroupV) (j112 : GroupV → Option GroupV) : Nat → Int32 → GroupV → Option GroupV
  | 0 => fun _ _ => none
  | n + 1 => st_X2_copyFrom_26 v0 j112 (lp_X2_copyFrom_26 v0 j112 n)
def fn_X2_copyFrom (v : GroupV) (v0 : GroupV) : Option GroupV :=
  jp (fun (wx_112 : GroupV) => (if ¬ ((Group_size wx_112) * 4) < 0 then (if (0 : Int32).toNatClampNeg + (((Group_size wx_112) * 4)).toNatClampNeg ≤ 24 then some (Group_rows_s wx_112 (va_cpy (Group_rows v0) (Group_rows wx_112) (0 : Int32).toNatClampNeg (0 : Int32).toNatClampNeg (((Group_size wx_112) * 4)).toNatClampNeg)) else none) else none)) (fun j112 => lp_X2_copyFrom_26 v0 j112 m_N 0 (Group_work_s (Group_week_s (Group_size_s v (Group_size v0)) (Group_week v0)) (Group_work v0)))
abbrev rmX2_copyFrom : Room := { frames := 1, cells := 0, slots := 0, locals := 40 }
set_option maxRecDepth 100000 in
set_option maxHeartbeats 400000 in
theorem c_X2_copyFrom (l : Launch) (E : mE) (a : GroupA) (v : GroupV) (a0 : GroupA) (v0 : GroupV) (t : GroupV) (hF : fn_X2_copyFrom v v0 = some t) (sz : Nat) : Met l yX2_copyFrom wsX2_copyFrom rmX2_copyFrom (mPm E [.ref (Groupa_self a), .ref (Groupa_self a0)] sz (((Group_c E a v) ++ (Group_c E a0 v0))) (([] : va_W))) (mSm E (none) (((Group_c E a t) ++ (Group_c E a0 v0))) (va_A (((Group_c E a v) ++ (Group_c E a0 v0))) sz)) 0 0 (va_A (((Group_c E a v) ++ (Group_c E a0 v0))) sz) := by
  refine mOfM (cc := cX2_copyFrom) (maxL := 3) (ret := none) (by decide) rfl (Nat.le_of_ble_eq_true rfl) ?_
  intro p e_ s m args below meth c Q A hQ CC hr hlocks hin hA hP hD hKN hGl hR0 hRA ls hl
  have hS : va_S A s.heap s.heap [] := va_S.rf
  have hK := hKN.1
  have hx := CC.1
  have hb := CC.2.1
  have hml := CC.2.2.1
  have hown : s.vm.findClass RX2 = some m.cls := CC.2.2.2.1
  have hts := CC.2.2.2.2
  have hl : lv_has ls 3 [(0, .ref (Groupa_self a)), (1, .ref (Groupa_self a0))] := hl
  have k0 := hts (.fieldLink RX2 9 "OneDidAll$Group" "size" "I") (by decide +kernel)
  have k1 := (show ∀ w ∈ u_ws RX2 TX2 11, w ∈ wsX2_copyFrom by decide +kernel)
  have k2 := hts (.fieldLink RX2 15 "OneDidAll$Group" "week" "I") (by decide +kernel)
  have k3 := hts (.fieldLink RX2 18 "OneDidAll$Group" "work" "I") (by decide +kernel)
  have k4 := hts (.fieldLink RX2 41 "OneDidAll$Group" "rows" "[I") (by decide +kernel)
  have k5 := hts (.methodLink RX2 47 arraycopyName) (by decide +kernel)
  have k6 := hts (.native arraycopyName) (by decide +kernel)
  have k7 := hts (.static arraycopyName) (by decide +kernel)
  have k8 := hts (.initialized "java/lang/System") (by decide +kernel)
  have k9 := hts (.fieldLink RX2 21 "OneDidAll$Group" "kinds" "[I") (by decide +kernel)
  have k10 := hts (.fieldLink RX2 25 "OneDidAll$Group" "vs" "[I") (by decide +kernel)
  have k11 := hts (.fieldLink RX2 28 "OneDidAll$Group" "skills" "[I") (by decide +kernel)
  have k12 := hts (.fieldLink RX2 31 "OneDidAll$Group" "wills" "[I") (by decide +kernel)
  have k13 := hts (.fieldLink RX2 34 "OneDidAll$Group" "hours" "[I") (by decide +kernel)
  have k14 := hts (.fieldLink RX2 37 "OneDidAll$Group" "outs" "[Z") (by decide +kernel)
  have hP : va_P E.1 vwCl ((Group_c E a v) ++ (Group_c E a0 v0)) s.heap := hP
  obtain ⟨H, hH⟩ : ∃ H, H = s.heap := ⟨_, rfl⟩
  obtain ⟨locs, hlc⟩ : ∃ z : List Loc, z = [] := ⟨_, rfl⟩
  rw [← hH] at hP
  rw [← hlc] at hS
  have hS : va_S A s.heap H locs := by rw [hH]; exact hS
  rw [← hH, ← hlc]
  unfold fn_X2_copyFrom at hF
  refine lv_aload_n hx hb dX2_copyFrom_0 rfl (lv_at hl 0 rfl) ?_
  refine lv_aload_n hx hb dX2_copyFrom_1 rfl (lv_at hl 1 rfl) ?_
  refine va_get (D := E.1) (ci := 2) (v := .int (Group_size v0)) (C := RX2) (T := TX2) (N := 11) hx hb hts k1 hown hK hP 9 rfl rfl 0 (by decide) k0 (fun _ h9 => h9) rfl dX2_copyFrom_2 ?_
  refine va_put (D := E.1) (ci := 2) (v := .int (Group_size v0)) (ty := .int) (C := RX2) (T := TX2) (N := 11) hx hb hts k1 tyX2 tyX2_ok nmX2 hown hK hP hD hS 0 rfl rfl 0 (by decide) k0 (fun _ h9 => h9) rfl (by decide +kernel) rfl rfl (Nat.le_of_ble_eq_true rfl) dX2_copyFrom_5 (fun H locs hP hD hS => ?_)
  have hP : va_P E.1 vwCl ((Group_c E a (Group_size_s v (Group_size v0))) ++ (Group_c E a0 v0)) H := hP
  have hD : va_D A ((Group_c E a (Group_size_s v (Group_size v0))) ++ (Group_c E a0 v0)) := hD
  refine lv_aload_n hx hb dX2_copyFrom_8 rfl (lv_at hl 0 rfl) ?_
  refine lv_aload_n hx hb dX2_copyFrom_9 rfl (lv_at hl 1 rfl) ?_
  refine va_get (D := E.1) (ci := 2) (v := .int (Group_week v0)) (C := RX2) (T := TX2) (N := 11) hx hb hts k1 hown hK hP 9 rfl rfl 1 (by decide) k2 (fun _ h9 => h9) rfl dX2_copyFrom_10 ?_
  refine va_put (D := E.1) (ci := 2) (v := .int (Group_week v0)) (ty := .int) (C := RX2) (T := TX2) (N := 11) hx hb hts k1 tyX2 tyX2_ok nmX2 hown hK hP hD hS 0 rfl rfl 1 (by decide) k2 (fun _ h9 => h9) rfl (by decide +kernel) rfl rfl (Nat.le_of_ble_eq_true rfl) dX2_copyFrom_13 (fun H locs hP hD hS => ?_)
  have hP : va_P E.1 vwCl ((Group_c E a (Group_week_s (Group_size_s v (Group_size v0)) (Group_week v0))) ++ (Group_c E a0 v0)) H := hP
  have hD : va_D A ((Group_c E a (Group_week_s (Group_size_s v (Group_size v0)) (Group_week v0))) ++ (Group_c E a0 v0)) := hD
  refine lv_aload_n hx hb dX2_copyFrom_16 rfl (lv_at hl 0 rfl) ?_
  refine lv_aload_n hx hb dX2_copyFrom_17 rfl (lv_at hl 1 rfl) ?_
  refine va_get (D := E.1) (ci := 2) (v := .int (Group_work v0)) (C := RX2) (T := TX2) (N := 11) hx hb hts k1 hown hK hP 9 rfl rfl 2 (by decide) k3 (fun _ h9 => h9) rfl dX2_copyFrom_18 ?_
  refine va_put (D := E.1) (ci := 2) (v := .int (Group_work v0)) (ty := .int) (C := RX2) (T := TX2) (N := 11) hx hb hts k1 tyX2 tyX2_ok nmX2 hown hK hP hD hS 0 rfl rfl 2 (by decide) k3 (fun _ h9 => h9) rfl (by decide +kernel) rfl rfl (Nat.le_of_ble_eq_true rfl) dX2_copyFrom_21 (fun H locs hP hD hS => ?_)
  have hP : va_P E.1 vwCl ((Group_c E a (Group_work_s (Group_week_s (Group_size_s v (Group_size v0)) (Group_week v0)) (Group_work v0))) ++ (Group_c E a0 v0)) H := hP
  have hD : va_D A ((Group_c E a (Group_work_s (Group_week_s (Group_size_s v (Group_size v0)) (Group_week v0)) (Group_work v0))) ++ (Group_c E a0 v0)) := hD
  refine lv_iconst (v := 0) hx hb dX2_copyFrom_24 (by decide) ?_
  refine lv_istore_n (lv' := [(2, .int 0), (0, .ref (Groupa_self a)), (1, .ref (Groupa_self a0))]) hx hb dX2_copyFrom_25 rfl hl (by decide) rfl (fun ls hl => ?_)
  obtain ⟨j112, hjd112, hF⟩ := m_jp hF
  have hj112 : ∀ (wx_112 : GroupV) (H : Heap) (locs : List Loc) (ls : Array Slot), j112 wx_112 = some t → va_P E.1 vwCl ((Group_c E a wx_112) ++ (Group_c E a0 v0)) H → va_D A ((Group_c E a wx_112) ++ (Group_c E a0 v0)) → va_S A s.heap H locs → lv_has ls 3 [(0, .ref (Groupa_self a)), (1, .ref (Groupa_self a0))] → W p l e_ rmX2_copyFrom s m args below meth c H locs 0 0 Q (F0 m 112 ls []) := by
    intro wx_112 H locs ls hF hP hD hS hl
    rw [hjd112] at hF
    refine lv_aload_n hx hb dX2_copyFrom_112 rfl (lv_at hl 1 rfl) ?_
    refine va_get (D := E.1) (ci := 2) (v := .ref (Groupa_rows a0)) (C := RX2) (T := TX2) (N := 11) hx hb hts k1 hown hK hP 9 rfl rfl 9 (by decide) k4 (fun _ h9 => h9) rfl dX2_copyFrom_113 ?_
    refine lv_iconst (v := 0) hx hb dX2_copyFrom_116 (by decide) ?_
    refine lv_aload_n hx hb dX2_copyFrom_117 rfl (lv_at hl 0 rfl) ?_
    refine va_get (D := E.1) (ci := 2) (v := .ref (Groupa_rows a)) (C := RX2) (T := TX2) (N := 11) hx hb hts k1 hown hK hP 0 rfl rfl 9 (by decide) k4 (fun _ h9 => h9) rfl dX2_copyFrom_118 ?_
    refine lv_iconst (v := 0) hx hb dX2_copyFrom_121 (by decide) ?_
    refine lv_aload_n hx hb dX2_copyFrom_122 rfl (lv_at hl 0 rfl) ?_
    refine va_get (D := E.1) (ci := 2) (v := .int (Group_size wx_112)) (C := RX2) (T := TX2) (N := 11) hx hb hts k1 hown hK hP 0 rfl rfl 0 (by decide) k0 (fun _ h9 => h9) rfl dX2_copyFrom_123 ?_
    refine lv_iconst (v := 4) hx hb dX2_copyFrom_126 (by decide) ?_
    refine lv_imul hx hb dX2_copyFrom_127 ?_
    obtain ⟨h1, hF⟩ := m_chk hF
    obtain ⟨h2, hF⟩ := m_chk hF
    refine va_copyi (f := (Group_rows v0)) (g := (Group_rows wx_112)) hx hb (hml.trans hl.1.symm) hown k5 k6 k7 k8 hK hP hD hS 16 7 1 1 rfl rfl rfl rfl rfl (by decide) (by decide) h1 h2 h2 (fun _ _ => rfl) (Nat.le_of_ble_eq_true rfl) (Nat.le_of_ble_eq_true rfl) dX2_copyFrom_128 (fun H locs hP hD hS => ?_)
    have hP : va_P E.1 vwCl ((Group_c E a (Group_rows_s wx_112 (va_cpy (Group_rows v0) (Group_rows wx_112) (0 : Int32).toNatClampNeg (0 : Int32).toNatClampNeg (((Group_size wx_112) * 4)).toNatClampNeg))) ++ (Group_c E a0 v0)) H := hP
    have hD : va_D A ((Group_c E a (Group_rows_s wx_112 (va_cpy (Group_rows v0) (Group_rows wx_112) (0 : Int32).toNatClampNeg (0 : Int32).toNatClampNeg (((Group_size wx_112) * 4)).toNatClampNeg))) ++ (Group_c E a0 v0)) := hD
    refine W.eq (g2 := F0 m 131 ls []) rfl ?_
    have hF := Option.some.inj hF
    subst hF
    rw [hQ]
    exact W.vret hx hb hr (fun t ht _ => ⟨⟨rfl, by rw [ht]; exact hP, hD⟩, hS.F ht⟩) hS.2.2 dX2_copyFrom_131
  clear hjd112
  have hL26 : ∀ (n : Nat) (y2_26 : Int32) (wy_26 : GroupV) (H : Heap) (locs : List Loc) (ls : Array Slot), lp_X2_copyFrom_26 v0 j112 n y2_26 wy_26 = some t → va_P E.1 vwCl ((Group_c E a wy_26) ++ (Group_c E a0 v0)) H → va_D A ((Group_c E a wy_26) ++ (Group_c E a0 v0)) → va_S A s.heap H locs → lv_has ls 3 [(0, .ref (Groupa_self a)), (1, .ref (Groupa_self a0)), (2, .int y2_26)] → W p l e_ rmX2_copyFrom s m args below meth c H locs 0 0 Q (F0 m 26 ls []) := by
    intro n
    induction n with
    | zero =>
      intro y2_26 wy_26 H locs ls hF
      exact nomatch (show (none : Option GroupV) = some t from hF)
    | succ n ih26 =>
      intro y2_26 wy_26 H locs ls hF hP hD hS hl
      have hF : st_X2_copyFrom_26 v0 j112 (lp_X2_copyFrom_26 v0 j112 n) y2_26 wy_26 = some t := hF
      unfold st_X2_copyFrom_26 at hF
      refine lv_iload_n hx hb dX2_copyFrom_26 rfl (lv_at hl 2 rfl) ?_
      refine lv_aload_n hx hb dX2_copyFrom_27 rfl (lv_at hl 0 rfl) ?_
      refine va_get (D := E.1) (ci := 2) (v := .int (Group_size wy_26)) (C := RX2) (T := TX2) (N := 11) hx hb hts k1 hown hK hP 0 rfl rfl 0 (by decide) k0 (fun _ h9 => h9) rfl dX2_copyFrom_28 ?_
      refine lv_icmp_ge (tgt := 112) hx hb dX2_copyFrom_31 (by decide) (fun c3 => ?_) (fun c3 => ?_)
      · have hF := m_pos c3 hF
        exact hj112 wy_26 H locs ls hF hP hD hS (lv_sub hl [0, 1] rfl)
      · have hF := m_neg c3 hF
        refine lv_aload_n hx hb dX2_copyFrom_34 rfl (lv_at hl 0 rfl) ?_
        refine va_get (D := E.1) (ci := 2) (v := .ref (Groupa_kinds a)) (C := RX2) (T := TX2) (N := 11) hx hb hts k1 hown hK hP 0 rfl rfl 3 (by decide) k9 (fun _ h9 => h9) rfl dX2_copyFrom_35 ?_
        refine lv_iload_n hx hb dX2_copyFrom_38 rfl (lv_at hl 2 rfl) ?_
        refine lv_aload_n hx hb dX2_copyFrom_39 rfl (lv_at hl 1 rfl) ?_
        refine va_get (D := E.1) (ci := 2) (v := .ref (Groupa_kinds a0)) (C := RX2) (T := TX2) (N := 11) hx hb hts k1 hown hK hP 9 rfl rfl 3 (by decide) k9 (fun _ h9 => h9) rfl dX2_copyFrom_40 ?_
        refine lv_iload_n hx hb dX2_copyFrom_43 rfl (lv_at hl 2 rfl) ?_
        obtain ⟨h4, hF⟩ := m_chk hF
        refine va_iald (f := (Group_kinds v0)) hx hb hK hP 10 1 rfl rfl (mIn_ok h4) dX2_copyFrom_44 ?_
        refine W.eq (g2 := F0 m 45 ls [.int ((Group_kinds v0) (y2_26).toNatClampNeg), .int y2_26, .ref (Groupa_kinds a)]) rfl ?_
        obtain ⟨h5, hF⟩ := m_chk hF
        refine va_iast (f := (Group_kinds wy_26)) hx hb hK hP hD hS 1 1 rfl rfl (mIn_ok h5) dX2_copyFrom_45 (fun H locs hP hD hS => ?_)
        have hP : va_P E.1 vwCl ((Group_c E a (Group_kinds_s wy_26 (upd (Group_kinds wy_26) (y2_26).toNatClampNeg ((Group_kinds v0) (y2_26).toNatClampNeg)))) ++ (Group_c E a0 v0)) H := hP
        have hD : va_D A ((Group_c E a (Group_kinds_s wy_26 (upd (Group_kinds wy_26) (y2_26).toNatClampNeg ((Group_kinds v0) (y2_26).toNatClampNeg)))) ++ (Group_c E a0 v0)) := hD
        refine lv_aload_n hx hb dX2_copyFrom_46 rfl (lv_at hl 0 rfl) ?_
        refine va_get (D := E.1) (ci := 2) (v := .ref (Groupa_vs a)) (C := RX2) (T := TX2) (N := 11) hx hb hts k1 hown hK hP 0 rfl rfl 4 (by decide) k10 (fun _ h9 => h9) rfl dX2_copyFrom_47 ?_
        refine lv_iload_n hx hb dX2_copyFrom_50 rfl (lv_at hl 2 rfl) ?_
        refine lv_aload_n hx hb dX2_copyFrom_51 rfl (lv_at hl 1 rfl) ?_
        refine va_get (D := E.1) (ci := 2) (v := .ref (Groupa_vs a0)) (C := RX2) (T := TX2) (N := 11) hx hb hts k1 hown hK hP 9 rfl rfl 4 (by decide) k10 (fun _ h9 => h9) rfl dX2_copyFrom_52 ?_
        refine lv_iload_n hx hb dX2_copyFrom_55 rfl (lv_at hl 2 rfl) ?_
        obtain ⟨h6, hF⟩ := m_chk hF
        refine va_iald (f := (Group_vs v0)) hx hb hK hP 11 1 rfl rfl (mIn_ok h6) dX2_copyFrom_56 ?_
        refine W.eq (g2 := F0 m 57 ls [.int ((Group_vs v0) (y2_26).toNatClampNeg), .int y2_26, .ref (Groupa_vs a)]) rfl ?_
        obtain ⟨h7, hF⟩ := m_chk hF
        refine va_iast (f := (Group_vs wy_26)) hx hb hK hP hD hS 2 1 rfl rfl (mIn_ok h7) dX2_copyFrom_57 (fun H locs hP hD hS => ?_)
        have hP : va_P E.1 vwCl ((Group_c E a (Group_vs_s (Group_kinds_s wy_26 (upd (Group_kinds wy_26) (y2_26).toNatClampNeg ((Group_kinds v0) (y2_26).toNatClampNeg))) (upd (Group_vs wy_26) (y2_26).toNatClampNeg ((Group_vs v0) (y2_26).toNatClampNeg)))) ++ (Group_c E a0 v0)) H := hP
        have hD : va_D A ((Group_c E a (Group_vs_s (Group_kinds_s wy_26 (upd (Group_kinds wy_26) (y2_26).toNatClampNeg ((Group_kinds v0) (y2_26).toNatClampNeg))) (upd (Group_vs wy_26) (y2_26).toNatClampNeg ((Group_vs v0) (y2_26).toNatClampNeg)))) ++ (Group_c E a0 v0)) := hD
        refine lv_aload_n hx hb dX2_copyFrom_58 rfl (lv_at hl 0 rfl) ?_
        refine va_get (D := E.1) (ci := 2) (v := .ref (Groupa_skills a)) (C := RX2) (T := TX2) (N := 11) hx hb hts k1 hown hK hP 0 rfl rfl 5 (by decide) k11 (fun _ h9 => h9) rfl dX2_copyFrom_59 ?_
        refine lv_iload_n hx hb dX2_copyFrom_62 rfl (lv_at hl 2 rfl) ?_
        refine lv_aload_n hx hb dX2_copyFrom_63 rfl (lv_at hl 1 rfl) ?_
        refine va_get (D := E.1) (ci := 2) (v := .ref (Groupa_skills a0)) (C := RX2) (T := TX2) (N := 11) hx hb hts k1 hown hK hP 9 rfl rfl 5 (by decide) k11 (fun _ h9 => h9) rfl dX2_copyFrom_64 ?_
        refine lv_iload_n hx hb dX2_copyFrom_67 rfl (lv_at hl 2 rfl) ?_
        obtain ⟨h8, hF⟩ := m_chk hF
        refine va_iald (f := (Group_skills v0)) hx hb hK hP 12 1 rfl rfl (mIn_ok h8) dX2_copyFrom_68 ?_
        refine W.eq (g2 := F0 m 69 ls [.int ((Group_skills v0) (y2_26).toNatClampNeg), .int y2_26, .ref (Groupa_skills a)]) rfl ?_
        obtain ⟨h9, hF⟩ := m_chk hF
        refine va_iast (f := (Group_skills wy_26)) hx hb hK hP hD hS 3 1 rfl rfl (mIn_ok h9) dX2_copyFrom_69 (fun H locs hP hD hS => ?_)
        have hP : va_P E.1 vwCl ((Group_c E a (Group_skills_s (Group_vs_s (Group_kinds_s wy_26 (upd (Group_kinds wy_26) (y2_26).toNatClampNeg ((Group_kinds v0) (y2_26).toNatClampNeg))) (upd (Group_vs wy_26) (y2_26).toNatClampNeg ((Group_vs v0) (y2_26).toNatClampNeg))) (upd (Group_skills wy_26) (y2_26).toNatClampNeg ((Group_skills v0) (y2_26).toNatClampNeg)))) ++ (Group_c E a0 v0)) H := hP
        have hD : va_D A ((Group_c E a (Group_skills_s (Group_vs_s (Group_kinds_s wy_26 (upd (Group_kinds wy_26) (y2_26).toNatClampNeg ((Group_kinds v0) (y2_26).toNatClampNeg))) (upd (Group_vs wy_26) (y2_26).toNatClampNeg ((Group_vs v0) (y2_26).toNatClampNeg))) (upd (Group_skills wy_26) (y2_26).toNatClampNeg ((Group_skills v0) (y2_26).toNatClampNeg)))) ++ (Group_c E a0 v0)) := hD
        refine lv_aload_n hx hb dX2_copyFrom_70 rfl (lv_at hl 0 rfl) ?_
        refine va_get (D := E.1) (ci := 2) (v := .ref (Groupa_wills a)) (C := RX2) (T := TX2) (N := 11) hx hb hts k1 hown hK hP 0 rfl rfl 6 (by decide) k12 (fun _ h9 => h9) rfl dX2_copyFrom_71 ?_
        refine lv_iload_n hx hb dX2_copyFrom_74 rfl (lv_at hl 2 rfl) ?_
        refine lv_aload_n hx hb dX2_copyFrom_75 rfl (lv_at hl 1 rfl) ?_
        refine va_get (D := E.1) (ci := 2) (v := .ref (Groupa_wills a0)) (C := RX2) (T := TX2) (N := 11) hx hb hts k1 hown hK hP 9 rfl rfl 6 (by decide) k12 (fun _ h9 => h9) rfl dX2_copyFrom_76 ?_
        refine lv_iload_n hx hb dX2_copyFrom_79 rfl (lv_at hl 2 rfl) ?_
        obtain ⟨h10, hF⟩ := m_chk hF
        refine va_iald (f := (Group_wills v0)) hx hb hK hP 13 1 rfl rfl (mIn_ok h10) dX2_copyFrom_80 ?_
        refine W.eq (g2 := F0 m 81 ls [.int ((Group_wills v0) (y2_26).toNatClampNeg), .int y2_26, .ref (Groupa_wills a)]) rfl ?_
        obtain ⟨h11, hF⟩ := m_chk hF
        refine va_iast (f := (Group_wills wy_26)) hx hb hK hP hD hS 4 1 rfl rfl (mIn_ok h11) dX2_copyFrom_81 (fun H locs hP hD hS => ?_)
        have hP : va_P E.1 vwCl ((Group_c E a (Group_wills_s (Group_skills_s (Group_vs_s (Group_kinds_s wy_26 (upd (Group_kinds wy_26) (y2_26).toNatClampNeg ((Group_kinds v0) (y2_26).toNatClampNeg))) (upd (Group_vs wy_26) (y2_26).toNatClampNeg ((Group_vs v0) (y2_26).toNatClampNeg))) (upd (Group_skills wy_26) (y2_26).toNatClampNeg ((Group_skills v0) (y2_26).toNatClampNeg))) (upd (Group_wills wy_26) (y2_26).toNatClampNeg ((Group_wills v0) (y2_26).toNatClampNeg)))) ++ (Group_c E a0 v0)) H := hP
        have hD : va_D A ((Group_c E a (Group_wills_s (Group_skills_s (Group_vs_s (Group_kinds_s wy_26 (upd (Group_kinds wy_26) (y2_26).toNatClampNeg ((Group_kinds v0) (y2_26).toNatClampNeg))) (upd (Group_vs wy_26) (y2_26).toNatClampNeg ((Group_vs v0) (y2_26).toNatClampNeg))) (upd (Group_skills wy_26) (y2_26).toNatClampNeg ((Group_skills v0) (y2_26).toNatClampNeg))) (upd (Group_wills wy_26) (y2_26).toNatClampNeg ((Group_wills v0) (y2_26).toNatClampNeg)))) ++ (Group_c E a0 v0)) := hD
        refine lv_aload_n hx hb dX2_copyFrom_82 rfl (lv_at hl 0 rfl) ?_
        refine va_get (D := E.1) (ci := 2) (v := .ref (Groupa_hours a)) (C := RX2) (T := TX2) (N := 11) hx hb hts k1 hown hK hP 0 rfl rfl 7 (by decide) k13 (fun _ h9 => h9) rfl dX2_copyFrom_83 ?_
        refine lv_iload_n hx hb dX2_copyFrom_86 rfl (lv_at hl 2 rfl) ?_
        refine lv_aload_n hx hb dX2_copyFrom_87 rfl (lv_at hl 1 rfl) ?_
        refine va_get (D := E.1) (ci := 2) (v := .ref (Groupa_hours a0)) (C := RX2) (T := TX2) (N := 11) hx hb hts k1 hown hK hP 9 rfl rfl 7 (by decide) k13 (fun _ h9 => h9) rfl dX2_copyFrom_88 ?_
        refine lv_iload_n hx hb dX2_copyFrom_91 rfl (lv_at hl 2 rfl) ?_
        obtain ⟨h12, hF⟩ := m_chk hF
        refine va_iald (f := (Group_hours v0)) hx hb hK hP 14 1 rfl rfl (mIn_ok h12) dX2_copyFrom_92 ?_
        refine W.eq (g2 := F0 m 93 ls [.int ((Group_hours v0) (y2_26).toNatClampNeg), .int y2_26, .ref (Groupa_hours a)]) rfl ?_
        obtain ⟨h13, hF⟩ := m_chk hF
        refine va_iast (f := (Group_hours wy_26)) hx hb hK hP hD hS 5 1 rfl rfl (mIn_ok h13) dX2_copyFrom_93 (fun H locs hP hD hS => ?_)
        have hP : va_P E.1 vwCl ((Group_c E a (Group_hours_s (Group_wills_s (Group_skills_s (Group_vs_s (Group_kinds_s wy_26 (upd (Group_kinds wy_26) (y2_26).toNatClampNeg ((Group_kinds v0) (y2_26).toNatClampNeg))) (upd (Group_vs wy_26) (y2_26).toNatClampNeg ((Group_vs v0) (y2_26).toNatClampNeg))) (upd (Group_skills wy_26) (y2_26).toNatClampNeg ((Group_skills v0) (y2_26).toNatClampNeg))) (upd (Group_wills wy_26) (y2_26).toNatClampNeg ((Group_wills v0) (y2_26).toNatClampNeg))) (upd (Group_hours wy_26) (y2_26).toNatClampNeg ((Group_hours v0) (y2_26).toNatClampNeg)))) ++ (Group_c E a0 v0)) H := hP
        have hD : va_D A ((Group_c E a (Group_hours_s (Group_wills_s (Group_skills_s (Group_vs_s (Group_kinds_s wy_26 (upd (Group_kinds wy_26) (y2_26).toNatClampNeg ((Group_kinds v0) (y2_26).toNatClampNeg))) (upd (Group_vs wy_26) (y2_26).toNatClampNeg ((Group_vs v0) (y2_26).toNatClampNeg))) (upd (Group_skills wy_26) (y2_26).toNatClampNeg ((Group_skills v0) (y2_26).toNatClampNeg))) (upd (Group_wills wy_26) (y2_26).toNatClampNeg ((Group_wills v0) (y2_26).toNatClampNeg))) (upd (Group_hours wy_26) (y2_26).toNatClampNeg ((Group_hours v0) (y2_26).toNatClampNeg)))) ++ (Group_c E a0 v0)) := hD
        refine lv_aload_n hx hb dX2_copyFrom_94 rfl (lv_at hl 0 rfl) ?_
        refine va_get (D := E.1) (ci := 2) (v := .ref (Groupa_outs a)) (C := RX2) (T := TX2) (N := 11) hx hb hts k1 hown hK hP 0 rfl rfl 8 (by decide) k14 (fun _ h9 => h9) rfl dX2_copyFrom_95 ?_
        refine lv_iload_n hx hb dX2_copyFrom_98 rfl (lv_at hl 2 rfl) ?_
        refine lv_aload_n hx hb dX2_copyFrom_99 rfl (lv_at hl 1 rfl) ?_
        refine va_get (D := E.1) (ci := 2) (v := .ref (Groupa_outs a0)) (C := RX2) (T := TX2) (N := 11) hx hb hts k1 hown hK hP 9 rfl rfl 8 (by decide) k14 (fun _ h9 => h9) rfl dX2_copyFrom_100 ?_
        refine lv_iload_n hx hb dX2_copyFrom_103 rfl (lv_at hl 2 rfl) ?_
        obtain ⟨h14, hF⟩ := m_chk hF
        refine va_zald (f := (Group_outs v0)) hx hb hK hP 15 2 rfl rfl (mIn_ok h14) dX2_copyFrom_104 ?_
        refine W.eq (g2 := F0 m 105 ls [.int ((Group_outs v0) (y2_26).toNatClampNeg), .int y2_26, .ref (Groupa_outs a)]) rfl ?_
        obtain ⟨h15, hF⟩ := m_chk hF
        refine va_zast (f := (Group_outs wy_26)) hx hb hK hP hD hS 6 2 rfl rfl (mIn_ok h15) dX2_copyFrom_105 (fun H locs hP hD hS => ?_)
        have hP : va_P E.1 vwCl ((Group_c E a (Group_outs_s (Group_hours_s (Group_wills_s (Group_skills_s (Group_vs_s (Group_kinds_s wy_26 (upd (Group_kinds wy_26) (y2_26).toNatClampNeg ((Group_kinds v0) (y2_26).toNatClampNeg))) (upd (Group_vs wy_26) (y2_26).toNatClampNeg ((Group_vs v0) (y2_26).toNatClampNeg))) (upd (Group_skills wy_26) (y2_26).toNatClampNeg ((Group_skills v0) (y2_26).toNatClampNeg))) (upd (Group_wills wy_26) (y2_26).toNatClampNeg ((Group_wills v0) (y2_26).toNatClampNeg))) (upd (Group_hours wy_26) (y2_26).toNatClampNeg ((Group_hours v0) (y2_26).toNatClampNeg))) (upd (Group_outs wy_26) (y2_26).toNatClampNeg (vp_nar .boolean ((Group_outs v0) (y2_26).toNatClampNeg))))) ++ (Group_c E a0 v0)) H := hP
        have hD : va_D A ((Group_c E a (Group_outs_s (Group_hours_s (Group_wills_s (Group_skills_s (Group_vs_s (Group_kinds_s wy_26 (upd (Group_kinds wy_26) (y2_26).toNatClampNeg ((Group_kinds v0) (y2_26).toNatClampNeg))) (upd (Group_vs wy_26) (y2_26).toNatClampNeg ((Group_vs v0) (y2_26).toNatClampNeg))) (upd (Group_skills wy_26) (y2_26).toNatClampNeg ((Group_skills v0) (y2_26).toNatClampNeg))) (upd (Group_wills wy_26) (y2_26).toNatClampNeg ((Group_wills v0) (y2_26).toNatClampNeg))) (upd (Group_hours wy_26) (y2_26).toNatClampNeg ((Group_hours v0) (y2_26).toNatClampNeg))) (upd (Group_outs wy_26) (y2_26).toNatClampNeg (vp_nar .boolean ((Group_outs v0) (y2_26).toNatClampNeg))))) ++ (Group_c E a0 v0)) := hD
        refine lv_iinc (v := (y2_26 + 1)) (lv' := [(2, .int (y2_26 + 1)), (0, .ref (Groupa_self a)), (1, .ref (Groupa_self a0))]) hx hb dX2_copyFrom_106 hl (k := 2) rfl rfl (by decide) rfl (fun ls hl => ?_)
        refine lv_goto (tgt := 26) hx hb dX2_copyFrom_109 (by decide) ?_
        exact ih26 (y2_26 + 1) (Group_outs_s (Group_hours_s (Group_wills_s (Group_skills_s (Group_vs_s (Group_kinds_s wy_26 (upd (Group_kinds wy_26) (y2_26).toNatClampNeg ((Group_kinds v0) (y2_26).toNatClampNeg))) (upd (Group_vs wy_26) (y2_26).toNatClampNeg ((Group_vs v0) (y2_26).toNatClampNeg))) (upd (Group_skills wy_26) (y2_26).toNatClampNeg ((Group_skills v0) (y2_26).toNatClampNeg))) (upd (Group_wills wy_26) (y2_26).toNatClampNeg ((Group_wills v0) (y2_26).toNatClampNeg))) (upd (Group_hours wy_26) (y2_26).toNatClampNeg ((Group_hours v0) (y2_26).toNatClampNeg))) (upd (Group_outs wy_26) (y2_26).toNatClampNeg (vp_nar .boolean ((Group_outs v0) (y2_26).toNatClampNeg)))) H locs ls hF hP hD hS (lv_sub hl [1, 2, 0] rfl)
  exact hL26 m_N 0 (Group_work_s (Group_week_s (Group_size_s v (Group_size v0)) (Group_week v0)) (Group_work v0)) H locs ls hF hP hD hS (lv_sub hl [1, 2, 0] rfl)

def fn_X2_subjectOf (v : GroupV) (x0 : Int32) (x1 : Int32) : Option Int32 :=
  (if x1 = 0 then some x0 else (if x1 = 1 then (if mIn x0 6 = true then some ((Group_kinds v) (x0).toNatClampNeg) else none) else (if x1 = 2 then (if mIn x0 6 = true then some ((Group_vs v) (x0).toNatClampNeg) else none) else (if x1 = 3 then (if mIn x0 6 = true then some ((Group_skills v) (x0).toNatClampNeg) else none) else (if x1 = 4 then (if mIn x0 6 = true then some (((Group_hours v) (x0).toNatClampNeg) / 10) else none) else some (mRem (Group_week v) 10))))))
abbrev rmX2_subjectOf : Room := { frames := 0, cells := 0, slots := 0, locals := 0 }
set_option maxRecDepth 100000 in
set_option maxHeartbeats 400000 in
theorem c_X2_subjectOf (l : Launch) (E : mE) (a : GroupA) (v : GroupV) (x0 : Int32) (x1 : Int32) (t : Int32) (hF : fn_X2_subjectOf v x0 x1 = some t) : Met l yX2_subjectOf wsX2_subjectOf rmX2_subjectOf (mPp E [.ref (Groupa_self a), .int x0, .int x1] (Group_c E a v)) (mSp (some (.int t))) 0 0 (fun _ => False) := by
  refine mOfP (cc := cX2_subjectOf) (maxL := 3) (ret := (some .int)) (by decide) rfl (Nat.le_of_ble_eq_true rfl) ?_
  intro p e_ s m args below meth c Q hQ CC hr hlocks hP hKN hGl ls hl
  have hS : va_S (fun _ => False) s.heap s.heap [] := va_S.rf
  have hK := hKN.1
  have hx := CC.1
  have hb := CC.2.1
  have hml := CC.2.2.1
  have hown : s.vm.findClass RX2 = some m.cls := CC.2.2.2.1
  have hts := CC.2.2.2.2
  have hl : lv_has ls 3 [(0, .ref (Groupa_self a)), (1, .int x0), (2, .int x1)] := hl
  have k0 := hts (.fieldLink RX2 21 "OneDidAll$Group" "kinds" "[I") (by decide +kernel)
  have k1 := (show ∀ w ∈ u_ws RX2 TX2 11, w ∈ wsX2_subjectOf by decide +kernel)
  have k2 := hts (.fieldLink RX2 25 "OneDidAll$Group" "vs" "[I") (by decide +kernel)
  have k3 := hts (.fieldLink RX2 28 "OneDidAll$Group" "skills" "[I") (by decide +kernel)
  have k4 := hts (.fieldLink RX2 34 "OneDidAll$Group" "hours" "[I") (by decide +kernel)
  have k5 := hts (.fieldLink RX2 15 "OneDidAll$Group" "week" "I") (by decide +kernel)
  unfold fn_X2_subjectOf at hF
  refine lv_iload_n hx hb dX2_subjectOf_0 rfl (lv_at hl 2 rfl) ?_
  by_cases c1 : x1 = 0
  · have hF := m_pos c1 hF
    refine lv_tableIn (off := 35) (tgt := 36) hx hb dX2_subjectOf_1 (by rw [c1]; decide) (by rw [c1]; decide) (by rw [c1]; rfl) (by decide) ?_
    refine lv_iload_n hx hb dX2_subjectOf_36 rfl (lv_at hl 1 rfl) ?_
    have hF := Option.some.inj hF
    subst hF
    rw [hQ]
    exact W.iret hx hb hr (fun t ht _ => ⟨rfl, ht⟩) (fun _ h => by cases h) dX2_subjectOf_37
  · have hF := m_neg c1 hF
    by_cases c2 : x1 = 1
    · have hF := m_pos c2 hF
      refine lv_tableIn (off := 37) (tgt := 38) hx hb dX2_subjectOf_1 (by rw [c2]; decide) (by rw [c2]; decide) (by rw [c2]; rfl) (by decide) ?_
      refine lv_aload_n hx hb dX2_subjectOf_38 rfl (lv_at hl 0 rfl) ?_
      refine va_get (D := E.1) (ci := 2) (v := .ref (Groupa_kinds a)) (C := RX2) (T := TX2) (N := 11) hx hb hts k1 hown hK hP 0 rfl rfl 3 (by decide) k0 (fun _ h9 => h9) rfl dX2_subjectOf_39 ?_
      refine lv_iload_n hx hb dX2_subjectOf_42 rfl (lv_at hl 1 rfl) ?_
      obtain ⟨h3, hF⟩ := m_chk hF
      refine va_iald (f := (Group_kinds v)) hx hb hK hP 1 1 rfl rfl (mIn_ok h3) dX2_subjectOf_43 ?_
      refine W.eq (g2 := F0 m 44 ls [.int ((Group_kinds v) (x0).toNatClampNeg)]) rfl ?_
      have hF := Option.some.inj hF
      subst hF
      rw [hQ]
      exact W.iret hx hb hr (fun t ht _ => ⟨rfl, ht⟩) (fun _ h => by cases h) dX2_subjectOf_44
    · have hF := m_neg c2 hF
      by_cases c4 : x1 = 2
      · have hF := m_pos c4 hF
        refine lv_tableIn (off := 44) (tgt := 45) hx hb dX2_subjectOf_1 (by rw [c4]; decide) (by rw [c4]; decide) (by rw [c4]; rfl) (by decide) ?_
        refine lv_aload_n hx hb dX2_subjectOf_45 rfl (lv_at hl 0 rfl) ?_
        refine va_get (D := E.1) (ci := 2) (v := .ref (Groupa_vs a)) (C := RX2) (T := TX2) (N := 11) hx hb hts k1 hown hK hP 0 rfl rfl 4 (by decide) k2 (fun _ h9 => h9) rfl dX2_subjectOf_46 ?_
        refine lv_iload_n hx hb dX2_subjectOf_49 rfl (lv_at hl 1 rfl) ?_
        obtain ⟨h5, hF⟩ := m_chk hF
        refine va_iald (f := (Group_vs v)) hx hb hK hP 2 1 rfl rfl (mIn_ok h5) dX2_subjectOf_50 ?_
        refine W.eq (g2 := F0 m 51 ls [.int ((Group_vs v) (x0).toNatClampNeg)]) rfl ?_
        have hF := Option.some.inj hF
        subst hF
        rw [hQ]
        exact W.iret hx hb hr (fun t ht _ => ⟨rfl, ht⟩) (fun _ h => by cases h) dX2_subjectOf_51
      · have hF := m_neg c4 hF
        by_cases c6 : x1 = 3
        · have hF := m_pos c6 hF
          refine lv_tableIn (off := 51) (tgt := 52) hx hb dX2_subjectOf_1 (by rw [c6]; decide) (by rw [c6]; decide) (by rw [c6]; rfl) (by decide) ?_
          refine lv_aload_n hx hb dX2_subjectOf_52 rfl (lv_at hl 0 rfl) ?_
          refine va_get (D := E.1) (ci := 2) (v := .ref (Groupa_skills a)) (C := RX2) (T := TX2) (N := 11) hx hb hts k1 hown hK hP 0 rfl rfl 5 (by decide) k3 (fun _ h9 => h9) rfl dX2_subjectOf_53 ?_
          refine lv_iload_n hx hb dX2_subjectOf_56 rfl (lv_at hl 1 rfl) ?_
          obtain ⟨h7, hF⟩ := m_chk hF
          refine va_iald (f := (Group_skills v)) hx hb hK hP 3 1 rfl rfl (mIn_ok h7) dX2_subjectOf_57 ?_
          refine W.eq (g2 := F0 m 58 ls [.int ((Group_skills v) (x0).toNatClampNeg)]) rfl ?_
          have hF := Option.some.inj hF
          subst hF
          rw [hQ]
          exact W.iret hx hb hr (fun t ht _ => ⟨rfl, ht⟩) (fun _ h => by cases h) dX2_subjectOf_58
        · have hF := m_neg c6 hF
          by_cases c8 : x1 = 4
          · have hF := m_pos c8 hF
            refine lv_tableIn (off := 58) (tgt := 59) hx hb dX2_subjectOf_1 (by rw [c8]; decide) (by rw [c8]; decide) (by rw [c8]; rfl) (by decide) ?_
            refine lv_aload_n hx hb dX2_subjectOf_59 rfl (lv_at hl 0 rfl) ?_
            refine va_get (D := E.1) (ci := 2) (v := .ref (Groupa_hours a)) (C := RX2) (T := TX2) (N := 11) hx hb hts k1 hown hK hP 0 rfl rfl 7 (by decide) k4 (fun _ h9 => h9) rfl dX2_subjectOf_60 ?_
            refine lv_iload_n hx hb dX2_subjectOf_63 rfl (lv_at hl 1 rfl) ?_
            obtain ⟨h9, hF⟩ := m_chk hF
            refine va_iald (f := (Group_hours v)) hx hb hK hP 5 1 rfl rfl (mIn_ok h9) dX2_subjectOf_64 ?_
            refine W.eq (g2 := F0 m 65 ls [.int ((Group_hours v) (x0).toNatClampNeg)]) rfl ?_
            refine lv_bipush (v := 10) hx hb dX2_subjectOf_65 (by decide) ?_
            refine lv_idiv hx hb dX2_subjectOf_67 (by decide) ?_
            have hF := Option.some.inj hF
            subst hF
            rw [hQ]
            exact W.iret hx hb hr (fun t ht _ => ⟨rfl, ht⟩) (fun _ h => by cases h) dX2_subjectOf_68
          · have hF := m_neg c8 hF
            have qc1 := lv_neT (a := 0) c1 rfl
            have qc2 := lv_neT (a := 1) c2 rfl
            have qc4 := lv_neT (a := 2) c4 rfl
            have qc6 := lv_neT (a := 3) c6 rfl
            have qc8 := lv_neT (a := 4) c8 rfl
            refine lv_tableOut (tgt := 69) hx hb dX2_subjectOf_1 (by omega) (by decide) ?_
            refine lv_aload_n hx hb dX2_subjectOf_69 rfl (lv_at hl 0 rfl) ?_
            refine va_get (D := E.1) (ci := 2) (v := .int (Group_week v)) (C := RX2) (T := TX2) (N := 11) hx hb hts k1 hown hK hP 0 rfl rfl 1 (by decide) k5 (fun _ h9 => h9) rfl dX2_subjectOf_70 ?_
            refine lv_bipush (v := 10) hx hb dX2_subjectOf_73 (by decide) ?_
            refine lv_irem hx hb dX2_subjectOf_75 (by decide) ?_
            refine W.eq (g2 := F0 m 76 ls [.int (mRem (Group_week v) 10)]) rfl ?_
            have hF := Option.some.inj hF
            subst hF
            rw [hQ]
            exact W.iret hx hb hr (fun t ht _ => ⟨rfl, ht⟩) (fun _ h => by cases h) dX2_subjectOf_76

def fn_X2_rowNow (v : GroupV) (x0 : Int32) : Option Int32 :=
  (if mIn ((x0 * 4) + (mRem (Group_week v) 4)) 24 = true then some ((Group_rows v) (((x0 * 4) + (mRem (Group_week v) 4))).toNatClampNeg) else none)
abbrev rmX2_rowNow : Room := { frames := 0, cells := 0, slots := 0, locals := 0 }
set_option maxRecDepth 100000 in
set_option maxHeartbeats 400000 in
theorem c_X2_rowNow (l : Launch) (E : mE) (a : GroupA) (v : GroupV) (x0 : Int32) (t : Int32) (hF : fn_X2_rowNow v x0 = some t) : Met l yX2_rowNow wsX2_rowNow rmX2_rowNow (mPp E [.ref (Groupa_self a), .int x0] (Group_c E a v)) (mSp (some (.int t))) 0 0 (fun _ => False) := by
  refine mOfP (cc := cX2_rowNow) (maxL := 2) (ret := (some .int)) (by decide) rfl (Nat.le_of_ble_eq_true rfl) ?_
  intro p e_ s m args below meth c Q hQ CC hr hlocks hP hKN hGl ls hl
  have hS : va_S (fun _ => False) s.heap s.heap [] := va_S.rf
  have hK := hKN.1
  have hx := CC.1
  have hb := CC.2.1
  have hml := CC.2.2.1
  have hown : s.vm.findClass RX2 = some m.cls := CC.2.2.2.1
  have hts := CC.2.2.2.2
  have hl : lv_has ls 2 [(0, .ref (Groupa_self a)), (1, .int x0)] := hl
  have k0 := hts (.fieldLink RX2 41 "OneDidAll$Group" "rows" "[I") (by decide +kernel)
  have k1 := (show ∀ w ∈ u_ws RX2 TX2 11, w ∈ wsX2_rowNow by decide +kernel)
  have k2 := hts (.fieldLink RX2 15 "OneDidAll$Group" "week" "I") (by decide +kernel)
  unfold fn_X2_rowNow at hF
  refine lv_aload_n hx hb dX2_rowNow_0 rfl (lv_at hl 0 rfl) ?_
  refine va_get (D := E.1) (ci := 2) (v := .ref (Groupa_rows a)) (C := RX2) (T := TX2) (N := 11) hx hb hts k1 hown hK hP 0 rfl rfl 9 (by decide) k0 (fun _ h9 => h9) rfl dX2_rowNow_1 ?_
  refine lv_iload_n hx hb dX2_rowNow_4 rfl (lv_at hl 1 rfl) ?_
  refine lv_iconst (v := 4) hx hb dX2_rowNow_5 (by decide) ?_
  refine lv_imul hx hb dX2_rowNow_6 ?_
  refine lv_aload_n hx hb dX2_rowNow_7 rfl (lv_at hl 0 rfl) ?_
  refine va_get (D := E.1) (ci := 2) (v := .int (Group_week v)) (C := RX2) (T := TX2) (N := 11) hx hb hts k1 hown hK hP 0 rfl rfl 1 (by decide) k2 (fun _ h9 => h9) rfl dX2_rowNow_8 ?_
  refine lv_iconst (v := 4) hx hb dX2_rowNow_11 (by decide) ?_
  refine lv_irem hx hb dX2_rowNow_12 (by decide) ?_
  refine W.eq (g2 := F0 m 13 ls [.int (mRem (Group_week v) 4), .int (x0 * 4), .ref (Groupa_rows a)]) rfl ?_
  refine lv_iadd hx hb dX2_rowNow_13 ?_
  obtain ⟨h1, hF⟩ := m_chk hF
  refine va_iald (f := (Group_rows v)) hx hb hK hP 7 1 rfl rfl (mIn_ok h1) dX2_rowNow_14 ?_
  refine W.eq (g2 := F0 m 15 ls [.int ((Group_rows v) (((x0 * 4) + (mRem (Group_week v) 4))).toNatClampNeg)]) rfl ?_
  have hF := Option.some.inj hF
  subst hF
  rw [hQ]
  exact W.iret hx hb hr (fun t ht _ => ⟨rfl, ht⟩) (fun _ h => by cases h) dX2_rowNow_15

def st_X2_countIn_4 (v : GroupV) (rec4 : Int32 → Int32 → Option Int32) (y1_4 : Int32) (y2_4 : Int32) : Option Int32 :=
  (if (Group_size v) ≤ y2_4 then some y1_4 else (if mIn y2_4 6 = true then jp (fun (x1_24 : Int32) => rec4 x1_24 (y2_4 + 1)) (fun j24 => (if ¬ ((Group_outs v) (y2_4).toNatClampNeg) = 0 then j24 y1_4 else j24 (y1_4 + 1))) else none))
def lp_X2_countIn_4 (v : GroupV) : Nat → Int32 → Int32 → Option Int32
  | 0 => fun _ _ => none
  | n + 1 => st_X2_countIn_4 v (lp_X2_countIn_4 v n)
def fn_X2_countIn (v : GroupV) : Option Int32 :=
  lp_X2_countIn_4 v m_N 0 0
abbrev rmX2_countIn : Room := { frames := 0, cells := 0, slots := 0, locals := 0 }
set_option maxRecDepth 100000 in
set_option maxHeartbeats 400000 in
theorem c_X2_countIn (l : Launch) (E : mE) (a : GroupA) (v : GroupV) (t : Int32) (hF : fn_X2_countIn v = some t) : Met l yX2_countIn wsX2_countIn rmX2_countIn (mPp E [.ref (Groupa_self a)] (Group_c E a v)) (mSp (some (.int t))) 0 0 (fun _ => False) := by
  refine mOfP (cc := cX2_countIn) (maxL := 3) (ret := (some .int)) (by decide) rfl (Nat.le_of_ble_eq_true rfl) ?_
  intro p e_ s m args below meth c Q hQ CC hr hlocks hP hKN hGl ls hl
  have hS : va_S (fun _ => False) s.heap s.heap [] := va_S.rf
  have hK := hKN.1
  have hx := CC.1
  have hb := CC.2.1
  have hml := CC.2.2.1
  have hown : s.vm.findClass RX2 = some m.cls := CC.2.2.2.1
  have hts := CC.2.2.2.2
  have hl : lv_has ls 3 [(0, .ref (Groupa_self a))] := hl
  have k0 := hts (.fieldLink RX2 9 "OneDidAll$Group" "size" "I") (by decide +kernel)
  have k1 := (show ∀ w ∈ u_ws RX2 TX2 11, w ∈ wsX2_countIn by decide +kernel)
  have k2 := hts (.fieldLink RX2 37 "OneDidAll$Group" "outs" "[Z") (by decide +kernel)
  unfold fn_X2_countIn at hF
  refine lv_iconst (v := 0) hx hb dX2_countIn_0 (by decide) ?_
  refine lv_istore_n (lv' := [(1, .int 0), (0, .ref (Groupa_self a))]) hx hb dX2_countIn_1 rfl hl (by decide) rfl (fun ls hl => ?_)
  refine lv_iconst (v := 0) hx hb dX2_countIn_2 (by decide) ?_
  refine lv_istore_n (lv' := [(2, .int 0), (1, .int 0), (0, .ref (Groupa_self a))]) hx hb dX2_countIn_3 rfl hl (by decide) rfl (fun ls hl => ?_)
  have hL4 : ∀ (n : Nat) (y1_4 : Int32) (y2_4 : Int32) (ls : Array Slot), lp_X2_countIn_4 v n y1_4 y2_4 = some t → lv_has ls 3 [(0, .ref (Groupa_self a)), (1, .int y1_4), (2, .int y2_4)] → W p l e_ rmX2_countIn s m args below meth c s.heap [] 0 0 Q (F0 m 4 ls []) := by
    intro n
    induction n with
    | zero =>
      intro y1_4 y2_4 ls hF
      exact nomatch (show (none : Option Int32) = some t from hF)
    | succ n ih4 =>
      intro y1_4 y2_4 ls hF hl
      have hF : st_X2_countIn_4 v (lp_X2_countIn_4 v n) y1_4 y2_4 = some t := hF
      unfold st_X2_countIn_4 at hF
      refine lv_iload_n hx hb dX2_countIn_4 rfl (lv_at hl 2 rfl) ?_
      refine lv_aload_n hx hb dX2_countIn_5 rfl (lv_at hl 0 rfl) ?_
      refine va_get (D := E.1) (ci := 2) (v := .int (Group_size v)) (C := RX2) (T := TX2) (N := 11) hx hb hts k1 hown hK hP 0 rfl rfl 0 (by decide) k0 (fun _ h9 => h9) rfl dX2_countIn_6 ?_
      refine lv_icmp_ge (tgt := 30) hx hb dX2_countIn_9 (by decide) (fun c1 => ?_) (fun c1 => ?_)
      · have hF := m_pos c1 hF
        refine lv_iload_n hx hb dX2_countIn_30 rfl (lv_at hl 1 rfl) ?_
        have hF := Option.some.inj hF
        subst hF
        rw [hQ]
        exact W.iret hx hb hr (fun t ht _ => ⟨rfl, ht⟩) (fun _ h => by cases h) dX2_countIn_31
      · have hF := m_neg c1 hF
        refine lv_aload_n hx hb dX2_countIn_12 rfl (lv_at hl 0 rfl) ?_
        refine va_get (D := E.1) (ci := 2) (v := .ref (Groupa_outs a)) (C := RX2) (T := TX2) (N := 11) hx hb hts k1 hown hK hP 0 rfl rfl 8 (by decide) k2 (fun _ h9 => h9) rfl dX2_countIn_13 ?_
        refine lv_iload_n hx hb dX2_countIn_16 rfl (lv_at hl 2 rfl) ?_
        obtain ⟨h2, hF⟩ := m_chk hF
        refine va_zald (f := (Group_outs v)) hx hb hK hP 6 2 rfl rfl (mIn_ok h2) dX2_countIn_17 ?_
        refine W.eq (g2 := F0 m 18 ls [.int ((Group_outs v) (y2_4).toNatClampNeg)]) rfl ?_
        obtain ⟨j24, hjd24, hF⟩ := m_jp hF
        have hj24 : ∀ (x1_24 : Int32) (ls : Array Slot), j24 x1_24 = some t → lv_has ls 3 [(0, .ref (Groupa_self a)), (1, .int x1_24), (2, .int y2_4)] → W p l e_ rmX2_countIn s m args below meth c s.heap [] 0 0 Q (F0 m 24 ls []) := by
          intro x1_24 ls hF hl
          rw [hjd24] at hF
          refine lv_iinc (v := (y2_4 + 1)) (lv' := [(2, .int (y2_4 + 1)), (0, .ref (Groupa_self a)), (1, .int x1_24)]) hx hb dX2_countIn_24 hl (k := 2) rfl rfl (by decide) rfl (fun ls hl => ?_)
          refine lv_goto (tgt := 4) hx hb dX2_countIn_27 (by decide) ?_
          exact ih4 x1_24 (y2_4 + 1) ls hF (lv_sub hl [1, 2, 0] rfl)
        clear hjd24
        refine lv_if_ne (tgt := 24) hx hb dX2_countIn_18 (by decide) (fun c3 => ?_) (fun c3 => ?_)
        · have hF := m_pos c3 hF
          exact hj24 y1_4 ls hF (lv_sub hl [0, 1, 2] rfl)
        · have hF := m_neg (fun n9 => n9 c3) hF
          refine lv_iinc (v := (y1_4 + 1)) (lv' := [(1, .int (y1_4 + 1)), (0, .ref (Groupa_self a)), (2, .int y2_4)]) hx hb dX2_countIn_21 hl (k := 1) rfl rfl (by decide) rfl (fun ls hl => ?_)
          exact hj24 (y1_4 + 1) ls hF (lv_sub hl [1, 0, 2] rfl)
  exact hL4 m_N 0 0 ls hF (lv_sub hl [2, 1, 0] rfl)

def st_X2_countBetter_4 (v : GroupV) (x0 : Int32) (rec4 : Int32 → Int32 → Option Int32) (y2_4 : Int32) (y3_4 : Int32) : Option Int32 :=
  (if (Group_size v) ≤ y3_4 then some y2_4 else (if mIn y3_4 6 = true then jp (fun (x2_39 : Int32) => rec4 x2_39 (y3_4 + 1)) (fun j39 => (if ¬ ((Group_outs v) (y3_4).toNatClampNeg) = 0 then j39 y2_4 else (if mIn y3_4 6 = true then (if mIn x0 6 = true then (if ((Group_skills v) (y3_4).toNatClampNeg) ≤ ((Group_skills v) (x0).toNatClampNeg) then j39 y2_4 else j39 (y2_4 + 1)) else none) else none))) else none))
def lp_X2_countBetter_4 (v : GroupV) (x0 : Int32) : Nat → Int32 → Int32 → Option Int32
  | 0 => fun _ _ => none
  | n + 1 => st_X2_countBetter_4 v x0 (lp_X2_countBetter_4 v x0 n)
def fn_X2_countBetter (v : GroupV) (x0 : Int32) : Option Int32 :=
  lp_X2_countBetter_4 v x0 m_N 0 0
abbrev rmX2_countBetter : Room := { frames := 0, cells := 0, slots := 0, locals := 0 }
set_option maxRecDepth 100000 in
set_option maxHeartbeats 400000 in
theorem c_X2_countBetter (l : Launch) (E : mE) (a : GroupA) (v : GroupV) (x0 : Int32) (t : Int32) (hF : fn_X2_countBetter v x0 = some t) : Met l yX2_countBetter wsX2_countBetter rmX2_countBetter (mPp E [.ref (Groupa_self a), .int x0] (Group_c E a v)) (mSp (some (.int t))) 0 0 (fun _ => False) := by
  refine mOfP (cc := cX2_countBetter) (maxL := 4) (ret := (some .int)) (by decide) rfl (Nat.le_of_ble_eq_true rfl) ?_
  intro p e_ s m args below meth c Q hQ CC hr hlocks hP hKN hGl ls hl
  have hS : va_S (fun _ => False) s.heap s.heap [] := va_S.rf
  have hK := hKN.1
  have hx := CC.1
  have hb := CC.2.1
  have hml := CC.2.2.1
  have hown : s.vm.findClass RX2 = some m.cls := CC.2.2.2.1
  have hts := CC.2.2.2.2
  have hl : lv_has ls 4 [(0, .ref (Groupa_self a)), (1, .int x0)] := hl
  have k0 := hts (.fieldLink RX2 9 "OneDidAll$Group" "size" "I") (by decide +kernel)
  have k1 := (show ∀ w ∈ u_ws RX2 TX2 11, w ∈ wsX2_countBetter by decide +kernel)
  have k2 := hts (.fieldLink RX2 37 "OneDidAll$Group" "outs" "[Z") (by decide +kernel)
  have k3 := hts (.fieldLink RX2 28 "OneDidAll$Group" "skills" "[I") (by decide +kernel)
  unfold fn_X2_countBetter at hF
  refine lv_iconst (v := 0) hx hb dX2_countBetter_0 (by decide) ?_
  refine lv_istore_n (lv' := [(2, .int 0), (0, .ref (Groupa_self a)), (1, .int x0)]) hx hb dX2_countBetter_1 rfl hl (by decide) rfl (fun ls hl => ?_)
  refine lv_iconst (v := 0) hx hb dX2_countBetter_2 (by decide) ?_
  refine lv_istore_n (lv' := [(3, .int 0), (2, .int 0), (0, .ref (Groupa_self a)), (1, .int x0)]) hx hb dX2_countBetter_3 rfl hl (by decide) rfl (fun ls hl => ?_)
  have hL4 : ∀ (n : Nat) (y2_4 : Int32) (y3_4 : Int32) (ls : Array Slot), lp_X2_countBetter_4 v x0 n y2_4 y3_4 = some t → lv_has ls 4 [(0, .ref (Groupa_self a)), (1, .int x0), (2, .int y2_4), (3, .int y3_4)] → W p l e_ rmX2_countBetter s m args below meth c s.heap [] 0 0 Q (F0 m 4 ls []) := by
    intro n
    induction n with
    | zero =>
      intro y2_4 y3_4 ls hF
      exact nomatch (show (none : Option Int32) = some t from hF)
    | succ n ih4 =>
      intro y2_4 y3_4 ls hF hl
      have hF : st_X2_countBetter_4 v x0 (lp_X2_countBetter_4 v x0 n) y2_4 y3_4 = some t := hF
      unfold st_X2_countBetter_4 at hF
      refine lv_iload_n hx hb dX2_countBetter_4 rfl (lv_at hl 3 rfl) ?_
      refine lv_aload_n hx hb dX2_countBetter_5 rfl (lv_at hl 0 rfl) ?_
      refine va_get (D := E.1) (ci := 2) (v := .int (Group_size v)) (C := RX2) (T := TX2) (N := 11) hx hb hts k1 hown hK hP 0 rfl rfl 0 (by decide) k0 (fun _ h9 => h9) rfl dX2_countBetter_6 ?_
      refine lv_icmp_ge (tgt := 45) hx hb dX2_countBetter_9 (by decide) (fun c1 => ?_) (fun c1 => ?_)
      · have hF := m_pos c1 hF
        refine lv_iload_n hx hb dX2_countBetter_45 rfl (lv_at hl 2 rfl) ?_
        have hF := Option.some.inj hF
        subst hF
        rw [hQ]
        exact W.iret hx hb hr (fun t ht _ => ⟨rfl, ht⟩) (fun _ h => by cases h) dX2_countBetter_46
      · have hF := m_neg c1 hF
        refine lv_aload_n hx hb dX2_countBetter_12 rfl (lv_at hl 0 rfl) ?_
        refine va_get (D := E.1) (ci := 2) (v := .ref (Groupa_outs a)) (C := RX2) (T := TX2) (N := 11) hx hb hts k1 hown hK hP 0 rfl rfl 8 (by decide) k2 (fun _ h9 => h9) rfl dX2_countBetter_13 ?_
        refine lv_iload_n hx hb dX2_countBetter_16 rfl (lv_at hl 3 rfl) ?_
        obtain ⟨h2, hF⟩ := m_chk hF
        refine va_zald (f := (Group_outs v)) hx hb hK hP 6 2 rfl rfl (mIn_ok h2) dX2_countBetter_17 ?_
        refine W.eq (g2 := F0 m 18 ls [.int ((Group_outs v) (y3_4).toNatClampNeg)]) rfl ?_
        obtain ⟨j39, hjd39, hF⟩ := m_jp hF
        have hj39 : ∀ (x2_39 : Int32) (ls : Array Slot), j39 x2_39 = some t → lv_has ls 4 [(0, .ref (Groupa_self a)), (1, .int x0), (2, .int x2_39), (3, .int y3_4)] → W p l e_ rmX2_countBetter s m args below meth c s.heap [] 0 0 Q (F0 m 39 ls []) := by
          intro x2_39 ls hF hl
          rw [hjd39] at hF
          refine lv_iinc (v := (y3_4 + 1)) (lv' := [(3, .int (y3_4 + 1)), (0, .ref (Groupa_self a)), (1, .int x0), (2, .int x2_39)]) hx hb dX2_countBetter_39 hl (k := 3) rfl rfl (by decide) rfl (fun ls hl => ?_)
          refine lv_goto (tgt := 4) hx hb dX2_countBetter_42 (by decide) ?_
          exact ih4 x2_39 (y3_4 + 1) ls hF (lv_sub hl [1, 2, 3, 0] rfl)
        clear hjd39
        refine lv_if_ne (tgt := 39) hx hb dX2_countBetter_18 (by decide) (fun c3 => ?_) (fun c3 => ?_)
        · have hF := m_pos c3 hF
          exact hj39 y2_4 ls hF (lv_sub hl [0, 1, 2, 3] rfl)
        · have hF := m_neg (fun n9 => n9 c3) hF
          refine lv_aload_n hx hb dX2_countBetter_21 rfl (lv_at hl 0 rfl) ?_
          refine va_get (D := E.1) (ci := 2) (v := .ref (Groupa_skills a)) (C := RX2) (T := TX2) (N := 11) hx hb hts k1 hown hK hP 0 rfl rfl 5 (by decide) k3 (fun _ h9 => h9) rfl dX2_countBetter_22 ?_
          refine lv_iload_n hx hb dX2_countBetter_25 rfl (lv_at hl 3 rfl) ?_
          obtain ⟨h4, hF⟩ := m_chk hF
          refine va_iald (f := (Group_skills v)) hx hb hK hP 3 1 rfl rfl (mIn_ok h4) dX2_countBetter_26 ?_
          refine W.eq (g2 := F0 m 27 ls [.int ((Group_skills v) (y3_4).toNatClampNeg)]) rfl ?_
          refine lv_aload_n hx hb dX2_countBetter_27 rfl (lv_at hl 0 rfl) ?_
          refine va_get (D := E.1) (ci := 2) (v := .ref (Groupa_skills a)) (C := RX2) (T := TX2) (N := 11) hx hb hts k1 hown hK hP 0 rfl rfl 5 (by decide) k3 (fun _ h9 => h9) rfl dX2_countBetter_28 ?_
          refine lv_iload_n hx hb dX2_countBetter_31 rfl (lv_at hl 1 rfl) ?_
          obtain ⟨h5, hF⟩ := m_chk hF
          refine va_iald (f := (Group_skills v)) hx hb hK hP 3 1 rfl rfl (mIn_ok h5) dX2_countBetter_32 ?_
          refine W.eq (g2 := F0 m 33 ls [.int ((Group_skills v) (x0).toNatClampNeg), .int ((Group_skills v) (y3_4).toNatClampNeg)]) rfl ?_
          refine lv_icmp_le (tgt := 39) hx hb dX2_countBetter_33 (by decide) (fun c6 => ?_) (fun c6 => ?_)
          · have hF := m_pos c6 hF
            exact hj39 y2_4 ls hF (lv_sub hl [0, 1, 2, 3] rfl)
          · have hF := m_neg c6 hF
            refine lv_iinc (v := (y2_4 + 1)) (lv' := [(2, .int (y2_4 + 1)), (0, .ref (Groupa_self a)), (1, .int x0), (3, .int y3_4)]) hx hb dX2_countBetter_36 hl (k := 2) rfl rfl (by decide) rfl (fun ls hl => ?_)
            exact hj39 (y2_4 + 1) ls hF (lv_sub hl [1, 2, 0, 3] rfl)
  exact hL4 m_N 0 0 ls hF (lv_sub hl [2, 3, 1, 0] rfl)

def st_X2_hoursOfAll_4 (v : GroupV) (rec4 : Int32 → Int32 → Option Int32) (y1_4 : Int32) (y2_4 : Int32) : Option Int32 :=
  (if (Group_size v) ≤ y2_4 then some y1_4 else (if mIn y2_4 6 = true then rec4 (y1_4 + ((Group_hours v) (y2_4).toNatClampNeg)) (y2_4 + 1) else none))
def lp_X2_hoursOfAll_4 (v : GroupV) : Nat → Int32 → Int32 → Option Int32
  | 0 => fun _ _ => none
  | n + 1 => st_X2_hoursOfAll_4 v (lp_X2_hoursOfAll_4 v n)
def fn_X2_hoursOfAll (v : GroupV) : Option Int32 :=
  lp_X2_hoursOfAll_4 v m_N 0 0
abbrev rmX2_hoursOfAll : Room := { frames := 0, cells := 0, slots := 0, locals := 0 }
set_option maxRecDepth 100000 in
set_option maxHeartbeats 400000 in
theorem c_X2_hoursOfAll (l : Launch) (E : mE) (a : GroupA) (v : GroupV) (t : Int32) (hF : fn_X2_hoursOfAll v = some t) : Met l yX2_hoursOfAll wsX2_hoursOfAll rmX2_hoursOfAll (mPp E [.ref (Groupa_self a)] (Group_c E a v)) (mSp (some (.int t))) 0 0 (fun _ => False) := by
  refine mOfP (cc := cX2_hoursOfAll) (maxL := 3) (ret := (some .int)) (by decide) rfl (Nat.le_of_ble_eq_true rfl) ?_
  intro p e_ s m args below meth c Q hQ CC hr hlocks hP hKN hGl ls hl
  have hS : va_S (fun _ => False) s.heap s.heap [] := va_S.rf
  have hK := hKN.1
  have hx := CC.1
  have hb := CC.2.1
  have hml := CC.2.2.1
  have hown : s.vm.findClass RX2 = some m.cls := CC.2.2.2.1
  have hts := CC.2.2.2.2
  have hl : lv_has ls 3 [(0, .ref (Groupa_self a))] := hl
  have k0 := hts (.fieldLink RX2 9 "OneDidAll$Group" "size" "I") (by decide +kernel)
  have k1 := (show ∀ w ∈ u_ws RX2 TX2 11, w ∈ wsX2_hoursOfAll by decide +kernel)
  have k2 := hts (.fieldLink RX2 34 "OneDidAll$Group" "hours" "[I") (by decide +kernel)
  unfold fn_X2_hoursOfAll at hF
  refine lv_iconst (v := 0) hx hb dX2_hoursOfAll_0 (by decide) ?_
  refine lv_istore_n (lv' := [(1, .int 0), (0, .ref (Groupa_self a))]) hx hb dX2_hoursOfAll_1 rfl hl (by decide) rfl (fun ls hl => ?_)
  refine lv_iconst (v := 0) hx hb dX2_hoursOfAll_2 (by decide) ?_
  refine lv_istore_n (lv' := [(2, .int 0), (1, .int 0), (0, .ref (Groupa_self a))]) hx hb dX2_hoursOfAll_3 rfl hl (by decide) rfl (fun ls hl => ?_)
  have hL4 : ∀ (n : Nat) (y1_4 : Int32) (y2_4 : Int32) (ls : Array Slot), lp_X2_hoursOfAll_4 v n y1_4 y2_4 = some t → lv_has ls 3 [(0, .ref (Groupa_self a)), (1, .int y1_4), (2, .int y2_4)] → W p l e_ rmX2_hoursOfAll s m args below meth c s.heap [] 0 0 Q (F0 m 4 ls []) := by
    intro n
    induction n with
    | zero =>
      intro y1_4 y2_4 ls hF
      exact nomatch (show (none : Option Int32) = some t from hF)
    | succ n ih4 =>
      intro y1_4 y2_4 ls hF hl
      have hF : st_X2_hoursOfAll_4 v (lp_X2_hoursOfAll_4 v n) y1_4 y2_4 = some t := hF
      unfold st_X2_hoursOfAll_4 at hF
      refine lv_iload_n hx hb dX2_hoursOfAll_4 rfl (lv_at hl 2 rfl) ?_
      refine lv_aload_n hx hb dX2_hoursOfAll_5 rfl (lv_at hl 0 rfl) ?_
      refine va_get (D := E.1) (ci := 2) (v := .int (Group_size v)) (C := RX2) (T := TX2) (N := 11) hx hb hts k1 hown hK hP 0 rfl rfl 0 (by decide) k0 (fun _ h9 => h9) rfl dX2_hoursOfAll_6 ?_
      refine lv_icmp_ge (tgt := 27) hx hb dX2_hoursOfAll_9 (by decide) (fun c1 => ?_) (fun c1 => ?_)
      · have hF := m_pos c1 hF
        refine lv_iload_n hx hb dX2_hoursOfAll_27 rfl (lv_at hl 1 rfl) ?_
        have hF := Option.some.inj hF
        subst hF
        rw [hQ]
        exact W.iret hx hb hr (fun t ht _ => ⟨rfl, ht⟩) (fun _ h => by cases h) dX2_hoursOfAll_28
      · have hF := m_neg c1 hF
        refine lv_iload_n hx hb dX2_hoursOfAll_12 rfl (lv_at hl 1 rfl) ?_
        refine lv_aload_n hx hb dX2_hoursOfAll_13 rfl (lv_at hl 0 rfl) ?_
        refine va_get (D := E.1) (ci := 2) (v := .ref (Groupa_hours a)) (C := RX2) (T := TX2) (N := 11) hx hb hts k1 hown hK hP 0 rfl rfl 7 (by decide) k2 (fun _ h9 => h9) rfl dX2_hoursOfAll_14 ?_
        refine lv_iload_n hx hb dX2_hoursOfAll_17 rfl (lv_at hl 2 rfl) ?_
        obtain ⟨h2, hF⟩ := m_chk hF
        refine va_iald (f := (Group_hours v)) hx hb hK hP 5 1 rfl rfl (mIn_ok h2) dX2_hoursOfAll_18 ?_
        refine W.eq (g2 := F0 m 19 ls [.int ((Group_hours v) (y2_4).toNatClampNeg), .int y1_4]) rfl ?_
        refine lv_iadd hx hb dX2_hoursOfAll_19 ?_
        refine lv_istore_n (lv' := [(1, .int (y1_4 + ((Group_hours v) (y2_4).toNatClampNeg))), (0, .ref (Groupa_self a)), (2, .int y2_4)]) hx hb dX2_hoursOfAll_20 rfl hl (by decide) rfl (fun ls hl => ?_)
        refine lv_iinc (v := (y2_4 + 1)) (lv' := [(2, .int (y2_4 + 1)), (1, .int (y1_4 + ((Group_hours v) (y2_4).toNatClampNeg))), (0, .ref (Groupa_self a))]) hx hb dX2_hoursOfAll_21 hl (k := 2) rfl rfl (by decide) rfl (fun ls hl => ?_)
        refine lv_goto (tgt := 4) hx hb dX2_hoursOfAll_24 (by decide) ?_
        exact ih4 (y1_4 + ((Group_hours v) (y2_4).toNatClampNeg)) (y2_4 + 1) ls hF (lv_sub hl [2, 1, 0] rfl)
  exact hL4 m_N 0 0 ls hF (lv_sub hl [2, 1, 0] rfl)

def fn_X2_shareOf (v : GroupV) (x0 : Int32) : Option Int32 :=
  (Option.bind (fn_X2_hoursOfAll v) (fun t1 => (if ¬ t1 = 0 then (if mIn x0 6 = true then (if ¬ t1 = 0 then some ((100 * ((Group_hours v) (x0).toNatClampNeg)) / t1) else none) else none) else some 0)))
abbrev rmX2_shareOf : Room := { frames := 1, cells := 0, slots := 0, locals := 22 }
set_option maxRecDepth 100000 in
set_option maxHeartbeats 400000 in
theorem c_X2_shareOf (l : Launch) (E : mE) (a : GroupA) (v : GroupV) (x0 : Int32) (t : Int32) (hF : fn_X2_shareOf v x0 = some t) : Met l yX2_shareOf wsX2_shareOf rmX2_shareOf (mPp E [.ref (Groupa_self a), .int x0] (Group_c E a v)) (mSp (some (.int t))) 0 0 (fun _ => False) := by
  refine mOfP (cc := cX2_shareOf) (maxL := 3) (ret := (some .int)) (by decide) rfl (Nat.le_of_ble_eq_true rfl) ?_
  intro p e_ s m args below meth c Q hQ CC hr hlocks hP hKN hGl ls hl
  have hS : va_S (fun _ => False) s.heap s.heap [] := va_S.rf
  have hK := hKN.1
  have hx := CC.1
  have hb := CC.2.1
  have hml := CC.2.2.1
  have hown : s.vm.findClass RX2 = some m.cls := CC.2.2.2.1
  have hts := CC.2.2.2.2
  have hl : lv_has ls 3 [(0, .ref (Groupa_self a)), (1, .int x0)] := hl
  have k0 := hts (.fieldLink RX2 34 "OneDidAll$Group" "hours" "[I") (by decide +kernel)
  have k1 := (show ∀ w ∈ u_ws RX2 TX2 11, w ∈ wsX2_shareOf by decide +kernel)
  unfold fn_X2_shareOf at hF
  refine lv_aload_n hx hb dX2_shareOf_0 rfl (lv_at hl 0 rfl) ?_
  obtain ⟨t1, ht1, hF⟩ := m_bnd hF
  refine mVP (ci := 2) (n := 0) (rest := []) (As := []) CC hKN hGl hS (c_X2_hoursOfAll l E a v t1 ht1) gX2_shareOf_X2_hoursOfAll rfl ⟨rfl, rfl⟩ (by decide +kernel) ⟨Nat.le_of_ble_eq_true rfl, Nat.le_of_ble_eq_true rfl⟩ hP rfl rfl rfl rfl hl.1 rfl (Nat.le_of_ble_eq_true rfl) ⟨Nat.zero_le _, Nat.zero_le _⟩ dX2_shareOf_1 ?_
  refine W.eq (g2 := F0 m 4 ls [.int t1]) rfl ?_
  refine lv_istore_n (lv' := [(2, .int t1), (0, .ref (Groupa_self a)), (1, .int x0)]) hx hb dX2_shareOf_4 rfl hl (by decide) rfl (fun ls hl => ?_)
  refine lv_iload_n hx hb dX2_shareOf_5 rfl (lv_at hl 0 rfl) ?_
  refine lv_if_ne (tgt := 13) hx hb dX2_shareOf_6 (by decide) (fun c2 => ?_) (fun c2 => ?_)
  · have hF := m_pos c2 hF
    refine lv_bipush (v := 100) hx hb dX2_shareOf_13 (by decide) ?_
    refine lv_aload_n hx hb dX2_shareOf_15 rfl (lv_at hl 1 rfl) ?_
    refine va_get (D := E.1) (ci := 2) (v := .ref (Groupa_hours a)) (C := RX2) (T := TX2) (N := 11) hx hb hts k1 hown hK hP 0 rfl rfl 7 (by decide) k0 (fun _ h9 => h9) rfl dX2_shareOf_16 ?_
    refine lv_iload_n hx hb dX2_shareOf_19 rfl (lv_at hl 2 rfl) ?_
    obtain ⟨h3, hF⟩ := m_chk hF
    refine va_iald (f := (Group_hours v)) hx hb hK hP 5 1 rfl rfl (mIn_ok h3) dX2_shareOf_20 ?_
    refine W.eq (g2 := F0 m 21 ls [.int ((Group_hours v) (x0).toNatClampNeg), .int 100]) rfl ?_
    refine lv_imul hx hb dX2_shareOf_21 ?_
    refine lv_iload_n hx hb dX2_shareOf_22 rfl (lv_at hl 0 rfl) ?_
    obtain ⟨h4, hF⟩ := m_chk hF
    refine lv_idiv hx hb dX2_shareOf_23 h4 ?_
    have hF := Option.some.inj hF
    subst hF
    rw [hQ]
    exact W.iret hx hb hr (fun t ht _ => ⟨rfl, ht⟩) (fun _ h => by cases h) dX2_shareOf_24
  · have hF := m_neg (fun n9 => n9 c2) hF
    refine lv_iconst (v := 0) hx hb dX2_shareOf_9 (by decide) ?_
    refine lv_goto (tgt := 24) hx hb dX2_shareOf_10 (by decide) ?_
    have hF := Option.some.inj hF
    subst hF
    rw [hQ]
    exact W.iret hx hb hr (fun t ht _ => ⟨rfl, ht⟩) (fun _ h => by cases h) dX2_shareOf_24

def fn_X2_toHundred (x0 : Int32) : Option Int32 :=
  some (mMax 0 (mMin 100 x0))
abbrev rmX2_toHundred : Room := { frames := 1, cells := 0, slots := 0, locals := 21 }
set_option maxRecDepth 100000 in
set_option maxHeartbeats 400000 in
theorem c_X2_toHundred (l : Launch) (E : mE) (x0 : Int32) (t : Int32) (hF : fn_X2_toHundred x0 = some t) : Met l yX2_toHundred wsX2_toHundred rmX2_toHundred (mPp E [.int x0] ([] : va_W)) (mSp (some (.int t))) 0 0 (fun _ => False) := by
  refine mOfP (cc := cX2_toHundred) (maxL := 1) (ret := (some .int)) (by decide) rfl (Nat.le_of_ble_eq_true rfl) ?_
  intro p e_ s m args below meth c Q hQ CC hr hlocks hP hKN hGl ls hl
  have hS : va_S (fun _ => False) s.heap s.heap [] := va_S.rf
  have hK := hKN.1
  have hx := CC.1
  have hb := CC.2.1
  have hml := CC.2.2.1
  have hown : s.vm.findClass RX2 = some m.cls := CC.2.2.2.1
  have hts := CC.2.2.2.2
  have hl : lv_has ls 1 [(0, .int x0)] := hl
  have k0 := hts (.methodLink RX2 70 Lib.Math.min.name) (by decide +kernel)
  have k1 := hts (.static Lib.Math.min.name) (by decide +kernel)
  have k2 := hts (.initialized "java/lang/Math") (by decide +kernel)
  have k3 := hts (.code Lib.Math.min.name Lib.Math.min.code 2 (some .int)) (by decide +kernel)
  have k4 := hts (.methodLink RX2 76 Lib.Math.max.name) (by decide +kernel)
  have k5 := hts (.static Lib.Math.max.name) (by decide +kernel)
  have k6 := hts (.code Lib.Math.max.name Lib.Math.max.code 2 (some .int)) (by decide +kernel)
  unfold fn_X2_toHundred at hF
  refine lv_iconst (v := 0) hx hb dX2_toHundred_0 (by decide) ?_
  refine lv_bipush (v := 100) hx hb dX2_toHundred_1 (by decide) ?_
  refine lv_iload_n hx hb dX2_toHundred_3 rfl (lv_at hl 0 rfl) ?_
  refine va_mmin hx hb (hml.trans hl.1.symm) hown k0 k1 k2 k3 (Nat.le_of_ble_eq_true rfl) (Nat.le_of_ble_eq_true rfl) (Nat.zero_le _) (Nat.zero_le _) dX2_toHundred_4 ?_
  refine W.eq (g2 := F0 m 7 ls [.int (mMin 100 x0), .int 0]) rfl ?_
  refine va_mmax hx hb (hml.trans hl.1.symm) hown k4 k5 k2 k6 (Nat.le_of_ble_eq_true rfl) (Nat.le_of_ble_eq_true rfl) (Nat.zero_le _) (Nat.zero_le _) dX2_toHundred_7 ?_
  refine W.eq (g2 := F0 m 10 ls [.int (mMax 0 (mMin 100 x0))]) rfl ?_
  have hF := Option.some.inj hF
  subst hF
  rw [hQ]
  exact W.iret hx hb hr (fun t ht _ => ⟨rfl, ht⟩) (fun _ h => by cases h) dX2_toHundred_10

def fn_X2_base (v : GroupV) (x0 : Int32) : Option Int32 :=
  (if 1 ≤ x0 then (if ¬ x0 = 0 then some (mMin 100 ((100 * (Group_work v)) / x0)) else none) else some 100)
abbrev rmX2_base : Room := { frames := 1, cells := 0, slots := 0, locals := 21 }
set_option maxRecDepth 100000 in
set_option maxHeartbeats 400000 in
theorem c_X2_base (l : Launch) (E : mE) (a : GroupA) (v : GroupV) (x0 : Int32) (t : Int32) (hF : fn_X2_base v x0 = some t) : Met l yX2_base wsX2_base rmX2_base (mPp E [.ref (Groupa_self a), .int x0] (Group_c E a v)) (mSp (some (.int t))) 0 0 (fun _ => False) := by
  refine mOfP (cc := cX2_base) (maxL := 2) (ret := (some .int)) (by decide) rfl (Nat.le_of_ble_eq_true rfl) ?_
  intro p e_ s m args below meth c Q hQ CC hr hlocks hP hKN hGl ls hl
  have hS : va_S (fun _ => False) s.heap s.heap [] := va_S.rf
  have hK := hKN.1
  have hx := CC.1
  have hb := CC.2.1
  have hml := CC.2.2.1
  have hown : s.vm.findClass RX2 = some m.cls := CC.2.2.2.1
  have hts := CC.2.2.2.2
  have hl : lv_has ls 2 [(0, .ref (Groupa_self a)), (1, .int x0)] := hl
  have k0 := hts (.fieldLink RX2 18 "OneDidAll$Group" "work" "I") (by decide +kernel)
  have k1 := (show ∀ w ∈ u_ws RX2 TX2 11, w ∈ wsX2_base by decide +kernel)
  have k2 := hts (.methodLink RX2 70 Lib.Math.min.name) (by decide +kernel)
  have k3 := hts (.static Lib.Math.min.name) (by decide +kernel)
  have k4 := hts (.initialized "java/lang/Math") (by decide +kernel)
  have k5 := hts (.code Lib.Math.min.name Lib.Math.min.code 2 (some .int)) (by decide +kernel)
  unfold fn_X2_base at hF
  refine lv_iload_n hx hb dX2_base_0 rfl (lv_at hl 1 rfl) ?_
  refine lv_iconst (v := 1) hx hb dX2_base_1 (by decide) ?_
  refine lv_icmp_ge (tgt := 10) hx hb dX2_base_2 (by decide) (fun c1 => ?_) (fun c1 => ?_)
  · have hF := m_pos c1 hF
    refine lv_bipush (v := 100) hx hb dX2_base_10 (by decide) ?_
    refine lv_bipush (v := 100) hx hb dX2_base_12 (by decide) ?_
    refine lv_aload_n hx hb dX2_base_14 rfl (lv_at hl 0 rfl) ?_
    refine va_get (D := E.1) (ci := 2) (v := .int (Group_work v)) (C := RX2) (T := TX2) (N := 11) hx hb hts k1 hown hK hP 0 rfl rfl 2 (by decide) k0 (fun _ h9 => h9) rfl dX2_base_15 ?_
    refine lv_imul hx hb dX2_base_18 ?_
    refine lv_iload_n hx hb dX2_base_19 rfl (lv_at hl 1 rfl) ?_
    obtain ⟨h2, hF⟩ := m_chk hF
    refine lv_idiv hx hb dX2_base_20 h2 ?_
    refine va_mmin hx hb (hml.trans hl.1.symm) hown k2 k3 k4 k5 (Nat.le_of_ble_eq_true rfl) (Nat.le_of_ble_eq_true rfl) (Nat.zero_le _) (Nat.zero_le _) dX2_base_21 ?_
    refine W.eq (g2 := F0 m 24 ls [.int (mMin 100 ((100 * (Group_work v)) / x0))]) rfl ?_
    have hF := Option.some.inj hF
    subst hF
    rw [hQ]
    exact W.iret hx hb hr (fun t ht _ => ⟨rfl, ht⟩) (fun _ h => by cases h) dX2_base_24
  · have hF := m_neg c1 hF
    refine lv_bipush (v := 100) hx hb dX2_base_5 (by decide) ?_
    refine lv_goto (tgt := 24) hx hb dX2_base_7 (by decide) ?_
    have hF := Option.some.inj hF
    subst hF
    rw [hQ]
    exact W.iret hx hb hr (fun t ht _ => ⟨rfl, ht⟩) (fun _ h => by cases h) dX2_base_24

def st_X2_leastSkillIn_5 (v : GroupV) (rec5 : Int32 → Int32 → Option Int32) (y1_5 : Int32) (y2_5 : Int32) : Option Int32 :=
  (if (Group_size v) ≤ y2_5 then some y1_5 else (if mIn y2_5 6 = true then jp (fun (x1_33 : Int32) => rec5 x1_33 (y2_5 + 1)) (fun j33 => (if ¬ ((Group_outs v) (y2_5).toNatClampNeg) = 0 then j33 y1_5 else (if mIn y2_5 6 = true then j33 (mMin y1_5 ((Group_skills v) (y2_5).toNatClampNeg)) else none))) else none))
def lp_X2_leastSkillIn_5 (v : GroupV) : Nat → Int32 → Int32 → Option Int32
  | 0 => fun _ _ => none
  | n + 1 => st_X2_leastSkillIn_5 v (lp_X2_leastSkillIn_5 v n)
def fn_X2_leastSkillIn (v : GroupV) : Option Int32 :=
  lp_X2_leastSkillIn_5 v m_N 9 0
abbrev rmX2_leastSkillIn : Room := { frames := 1, cells := 0, slots := 0, locals := 21 }
set_option maxRecDepth 100000 in
set_option maxHeartbeats 400000 in
theorem c_X2_leastSkillIn (l : Launch) (E : mE) (a : GroupA) (v : GroupV) (t : Int32) (hF : fn_X2_leastSkillIn v = some t) : Met l yX2_leastSkillIn wsX2_leastSkillIn rmX2_leastSkillIn (mPp E [.ref (Groupa_self a)] (Group_c E a v)) (mSp (some (.int t))) 0 0 (fun _ => False) := by
  refine mOfP (cc := cX2_leastSkillIn) (maxL := 3) (ret := (some .int)) (by decide) rfl (Nat.le_of_ble_eq_true rfl) ?_
  intro p e_ s m args below meth c Q hQ CC hr hlocks hP hKN hGl ls hl
  have hS : va_S (fun _ => False) s.heap s.heap [] := va_S.rf
  have hK := hKN.1
  have hx := CC.1
  have hb := CC.2.1
  have hml := CC.2.2.1
  have hown : s.vm.findClass RX2 = some m.cls := CC.2.2.2.1
  have hts := CC.2.2.2.2
  have hl : lv_has ls 3 [(0, .ref (Groupa_self a))] := hl
  have k0 := hts (.fieldLink RX2 9 "OneDidAll$Group" "size" "I") (by decide +kernel)
  have k1 := (show ∀ w ∈ u_ws RX2 TX2 11, w ∈ wsX2_leastSkillIn by decide +kernel)
  have k2 := hts (.fieldLink RX2 37 "OneDidAll$Group" "outs" "[Z") (by decide +kernel)
  have k3 := hts (.fieldLink RX2 28 "OneDidAll$Group" "skills" "[I") (by decide +kernel)
  have k4 := hts (.methodLink RX2 70 Lib.Math.min.name) (by decide +kernel)
  have k5 := hts (.static Lib.Math.min.name) (by decide +kernel)
  have k6 := hts (.initialized "java/lang/Math") (by decide +kernel)
  have k7 := hts (.code Lib.Math.min.name Lib.Math.min.code 2 (some .int)) (by decide +kernel)
  unfold fn_X2_leastSkillIn at hF
  refine lv_bipush (v := 9) hx hb dX2_leastSkillIn_0 (by decide) ?_
  refine lv_istore_n (lv' := [(1, .int 9), (0, .ref (Groupa_self a))]) hx hb dX2_leastSkillIn_2 rfl hl (by decide) rfl (fun ls hl => ?_)
  refine lv_iconst (v := 0) hx hb dX2_leastSkillIn_3 (by decide) ?_
  refine lv_istore_n (lv' := [(2, .int 0), (1, .int 9), (0, .ref (Groupa_self a))]) hx hb dX2_leastSkillIn_4 rfl hl (by decide) rfl (fun ls hl => ?_)
  have hL5 : ∀ (n : Nat) (y1_5 : Int32) (y2_5 : Int32) (ls : Array Slot), lp_X2_leastSkillIn_5 v n y1_5 y2_5 = some t → lv_has ls 3 [(0, .ref (Groupa_self a)), (1, .int y1_5), (2, .int y2_5)] → W p l e_ rmX2_leastSkillIn s m args below meth c s.heap [] 0 0 Q (F0 m 5 ls []) := by
    intro n
    induction n with
    | zero =>
      intro y1_5 y2_5 ls hF
      exact nomatch (show (none : Option Int32) = some t from hF)
    | succ n ih5 =>
      intro y1_5 y2_5 ls hF hl
      have hF : st_X2_leastSkillIn_5 v (lp_X2_leastSkillIn_5 v n) y1_5 y2_5 = some t := hF
      unfold st_X2_leastSkillIn_5 at hF
      refine lv_iload_n hx hb dX2_leastSkillIn_5 rfl (lv_at hl 2 rfl) ?_
      refine lv_aload_n hx hb dX2_leastSkillIn_6 rfl (lv_at hl 0 rfl) ?_
      refine va_get (D := E.1) (ci := 2) (v := .int (Group_size v)) (C := RX2) (T := TX2) (N := 11) hx hb hts k1 hown hK hP 0 rfl rfl 0 (by decide) k0 (fun _ h9 => h9) rfl dX2_leastSkillIn_7 ?_
      refine lv_icmp_ge (tgt := 39) hx hb dX2_leastSkillIn_10 (by decide) (fun c1 => ?_) (fun c1 => ?_)
      · have hF := m_pos c1 hF
        refine lv_iload_n hx hb dX2_leastSkillIn_39 rfl (lv_at hl 1 rfl) ?_
        have hF := Option.some.inj hF
        subst hF
        rw [hQ]
        exact W.iret hx hb hr (fun t ht _ => ⟨rfl, ht⟩) (fun _ h => by cases h) dX2_leastSkillIn_40
      · have hF := m_neg c1 hF
        refine lv_aload_n hx hb dX2_leastSkillIn_13 rfl (lv_at hl 0 rfl) ?_
        refine va_get (D := E.1) (ci := 2) (v := .ref (Groupa_outs a)) (C := RX2) (T := TX2) (N := 11) hx hb hts k1 hown hK hP 0 rfl rfl 8 (by decide) k2 (fun _ h9 => h9) rfl dX2_leastSkillIn_14 ?_
        refine lv_iload_n hx hb dX2_leastSkillIn_17 rfl (lv_at hl 2 rfl) ?_
        obtain ⟨h2, hF⟩ := m_chk hF
        refine va_zald (f := (Group_outs v)) hx hb hK hP 6 2 rfl rfl (mIn_ok h2) dX2_leastSkillIn_18 ?_
        refine W.eq (g2 := F0 m 19 ls [.int ((Group_outs v) (y2_5).toNatClampNeg)]) rfl ?_
        obtain ⟨j33, hjd33, hF⟩ := m_jp hF
        have hj33 : ∀ (x1_33 : Int32) (ls : Array Slot), j33 x1_33 = some t → lv_has ls 3 [(0, .ref (Groupa_self a)), (1, .int x1_33), (2, .int y2_5)] → W p l e_ rmX2_leastSkillIn s m args below meth c s.heap [] 0 0 Q (F0 m 33 ls []) := by
          intro x1_33 ls hF hl
          rw [hjd33] at hF
          refine lv_iinc (v := (y2_5 + 1)) (lv' := [(2, .int (y2_5 + 1)), (0, .ref (Groupa_self a)), (1, .int x1_33)]) hx hb dX2_leastSkillIn_33 hl (k := 2) rfl rfl (by decide) rfl (fun ls hl => ?_)
          refine lv_goto (tgt := 5) hx hb dX2_leastSkillIn_36 (by decide) ?_
          exact ih5 x1_33 (y2_5 + 1) ls hF (lv_sub hl [1, 2, 0] rfl)
        clear hjd33
        refine lv_if_ne (tgt := 33) hx hb dX2_leastSkillIn_19 (by decide) (fun c3 => ?_) (fun c3 => ?_)
        · have hF := m_pos c3 hF
          exact hj33 y1_5 ls hF (lv_sub hl [0, 1, 2] rfl)
        · have hF := m_neg (fun n9 => n9 c3) hF
          refine lv_iload_n hx hb dX2_leastSkillIn_22 rfl (lv_at hl 1 rfl) ?_
          refine lv_aload_n hx hb dX2_leastSkillIn_23 rfl (lv_at hl 0 rfl) ?_
          refine va_get (D := E.1) (ci := 2) (v := .ref (Groupa_skills a)) (C := RX2) (T := TX2) (N := 11) hx hb hts k1 hown hK hP 0 rfl rfl 5 (by decide) k3 (fun _ h9 => h9) rfl dX2_leastSkillIn_24 ?_
          refine lv_iload_n hx hb dX2_leastSkillIn_27 rfl (lv_at hl 2 rfl) ?_
          obtain ⟨h4, hF⟩ := m_chk hF
          refine va_iald (f := (Group_skills v)) hx hb hK hP 3 1 rfl rfl (mIn_ok h4) dX2_leastSkillIn_28 ?_
          refine W.eq (g2 := F0 m 29 ls [.int ((Group_skills v) (y2_5).toNatClampNeg), .int y1_5]) rfl ?_
          refine va_mmin hx hb (hml.trans hl.1.symm) hown k4 k5 k6 k7 (Nat.le_of_ble_eq_true rfl) (Nat.le_of_ble_eq_true rfl) (Nat.zero_le _) (Nat.zero_le _) dX2_leastSkillIn_29 ?_
          refine W.eq (g2 := F0 m 32 ls [.int (mMin y1_5 ((Group_skills v) (y2_5).toNatClampNeg))]) rfl ?_
          refine lv_istore_n (lv' := [(1, .int (mMin y1_5 ((Group_skills v) (y2_5).toNatClampNeg))), (0, .ref (Groupa_self a)), (2, .int y2_5)]) hx hb dX2_leastSkillIn_32 rfl hl (by decide) rfl (fun ls hl => ?_)
          exact hj33 (mMin y1_5 ((Group_skills v) (y2_5).toNatClampNeg)) ls hF (lv_sub hl [1, 0, 2] rfl)
  exact hL5 m_N 9 0 ls hF (lv_sub hl [2, 1, 0] rfl)

def fn_X3_goal (v : LessonV) : Option Int32 :=
  some (mMax 1 (Lesson_toldGoal v))
abbrev rmX3_goal : Room := { frames := 1, cells := 0, slots := 0, locals := 21 }
set_option maxRecDepth 100000 in
set_option maxHeartbeats 400000 in
theorem c_X3_goal (l : Launch) (E : mE) (a : LessonA) (v : LessonV) (t : Int32) (hF : fn_X3_goal v = some t) : Met l yX3_goal wsX3_goal rmX3_goal (mPp E [.ref (Lessona_self a)] (Lesson_c E a v)) (mSp (some (.int t))) 0 0 (fun _ => False) := by
  refine mOfP (cc := cX3_goal) (maxL := 1) (ret := (some .int)) (by decide) rfl (Nat.le_of_ble_eq_true rfl) ?_
  intro p e_ s m args below meth c Q hQ CC hr hlocks hP hKN hGl ls hl
  have hS : va_S (fun _ => False) s.heap s.heap [] := va_S.rf
  have hK := hKN.1
  have hx := CC.1
  have hb := CC.2.1
  have hml := CC.2.2.1
  have hown : s.vm.findClass RX3 = some m.cls := CC.2.2.2.1
  have hts := CC.2.2.2.2
  have hl : lv_has ls 1 [(0, .ref (Lessona_self a))] := hl
  have k0 := hts (.fieldLink RX3 28 "OneDidAll$Lesson" "toldGoal" "I") (by decide +kernel)
  have k1 := (show ∀ w ∈ u_ws RX3 TX3 7, w ∈ wsX3_goal by decide +kernel)
  have k2 := hts (.methodLink RX3 34 Lib.Math.max.name) (by decide +kernel)
  have k3 := hts (.static Lib.Math.max.name) (by decide +kernel)
  have k4 := hts (.initialized "java/lang/Math") (by decide +kernel)
  have k5 := hts (.code Lib.Math.max.name Lib.Math.max.code 2 (some .int)) (by decide +kernel)
  unfold fn_X3_goal at hF
  refine lv_iconst (v := 1) hx hb dX3_goal_0 (by decide) ?_
  refine lv_aload_n hx hb dX3_goal_1 rfl (lv_at hl 0 rfl) ?_
  refine va_get (D := E.1) (ci := 3) (v := .int (Lesson_toldGoal v)) (C := RX3) (T := TX3) (N := 7) hx hb hts k1 hown hK hP 0 rfl rfl 5 (by decide) k0 (fun _ h9 => h9) rfl dX3_goal_2 ?_
  refine va_mmax hx hb (hml.trans hl.1.symm) hown k2 k3 k4 k5 (Nat.le_of_ble_eq_true rfl) (Nat.le_of_ble_eq_true rfl) (Nat.zero_le _) (Nat.zero_le _) dX3_goal_5 ?_
  refine W.eq (g2 := F0 m 8 ls [.int (mMax 1 (Lesson_toldGoal v))]) rfl ?_
  have hF := Option.some.inj hF
  subst hF
  rw [hQ]
  exact W.iret hx hb hr (fun t ht _ => ⟨rfl, ht⟩) (fun _ h => by cases h) dX3_goal_8

def fn_X3_addCode (v : LessonV) (x0 : Int32) : Option LessonV :=
  (if (Lesson_codes v) < (Int32.ofNat 100) then (if mIn (Lesson_codes v) 100 = true then some (Lesson_codes_s (Lesson_code_s v (upd (Lesson_code v) ((Lesson_codes v)).toNatClampNeg x0)) ((Lesson_codes v) + 1)) else none) else some v)
abbrev rmX3_addCode : Room := { frames := 0, cells := 0, slots := 0, locals := 0 }
set_option maxRecDepth 100000 in
set_option maxHeartbeats 400000 in
theorem c_X3_addCode (l : Launch) (E : mE) (a : LessonA) (v : LessonV) (x0 : Int32) (t : LessonV) (hF : fn_X3_addCode v x0 = some t) (sz : Nat) : Met l yX3_addCode wsX3_addCode rmX3_addCode (mPm E [.ref (Lessona_self a), .int x0] sz ((Lesson_c E a v)) (([] : va_W))) (mSm E (none) ((Lesson_c E a t)) (va_A ((Lesson_c E a v)) sz)) 0 0 (va_A ((Lesson_c E a v)) sz) := by
  refine mOfM (cc := cX3_addCode) (maxL := 2) (ret := none) (by decide) rfl (Nat.le_of_ble_eq_true rfl) ?_
  intro p e_ s m args below meth c Q A hQ CC hr hlocks hin hA hP hD hKN hGl hR0 hRA ls hl
  have hS : va_S A s.heap s.heap [] := va_S.rf
  have hK := hKN.1
  have hx := CC.1
  have hb := CC.2.1
  have hml := CC.2.2.1
  have hown : s.vm.findClass RX3 = some m.cls := CC.2.2.2.1
  have hts := CC.2.2.2.2
  have hl : lv_has ls 2 [(0, .ref (Lessona_self a)), (1, .int x0)] := hl
  have k0 := hts (.fieldLink RX3 15 "OneDidAll$Lesson" "codes" "I") (by decide +kernel)
  have k1 := (show ∀ w ∈ u_ws RX3 TX3 7, w ∈ wsX3_addCode by decide +kernel)
  have k2 := hts (.fieldLink RX3 9 "OneDidAll$Lesson" "code" "[I") (by decide +kernel)
  have hP : va_P E.1 vwCl (Lesson_c E a v) s.heap := hP
  obtain ⟨H, hH⟩ : ∃ H, H = s.heap := ⟨_, rfl⟩
  obtain ⟨locs, hlc⟩ : ∃ z : List Loc, z = [] := ⟨_, rfl⟩
  rw [← hH] at hP
  rw [← hlc] at hS
  have hS : va_S A s.heap H locs := by rw [hH]; exact hS
  rw [← hH, ← hlc]
  unfold fn_X3_addCode at hF
  refine lv_aload_n hx hb dX3_addCode_0 rfl (lv_at hl 0 rfl) ?_
  refine va_get (D := E.1) (ci := 3) (v := .int (Lesson_codes v)) (C := RX3) (T := TX3) (N := 7) hx hb hts k1 hown hK hP 0 rfl rfl 1 (by decide) k0 (fun _ h9 => h9) rfl dX3_addCode_1 ?_
  refine lv_aload_n hx hb dX3_addCode_4 rfl (lv_at hl 0 rfl) ?_
  refine va_get (D := E.1) (ci := 3) (v := .ref (Lessona_code a)) (C := RX3) (T := TX3) (N := 7) hx hb hts k1 hown hK hP 0 rfl rfl 0 (by decide) k2 (fun _ h9 => h9) rfl dX3_addCode_5 ?_
  refine va_alen (v := (Int32.ofNat 100)) hx hb hK hP 1 1 rfl rfl rfl dX3_addCode_8 ?_
  refine lv_icmp_lt (tgt := 13) hx hb dX3_addCode_9 (by decide) (fun c1 => ?_) (fun c1 => ?_)
  · have hF := m_pos c1 hF
    refine lv_aload_n hx hb dX3_addCode_13 rfl (lv_at hl 0 rfl) ?_
    refine va_get (D := E.1) (ci := 3) (v := .ref (Lessona_code a)) (C := RX3) (T := TX3) (N := 7) hx hb hts k1 hown hK hP 0 rfl rfl 0 (by decide) k2 (fun _ h9 => h9) rfl dX3_addCode_14 ?_
    refine lv_aload_n hx hb dX3_addCode_17 rfl (lv_at hl 0 rfl) ?_
    refine va_get (D := E.1) (ci := 3) (v := .int (Lesson_codes v)) (C := RX3) (T := TX3) (N := 7) hx hb hts k1 hown hK hP 0 rfl rfl 1 (by decide) k0 (fun _ h9 => h9) rfl dX3_addCode_18 ?_
    refine lv_iload_n hx hb dX3_addCode_21 rfl (lv_at hl 1 rfl) ?_
    obtain ⟨h2, hF⟩ := m_chk hF
    refine va_iast (f := (Lesson_code v)) hx hb hK hP hD hS 1 1 rfl rfl (mIn_ok h2) dX3_addCode_22 (fun H locs hP hD hS => ?_)
    have hP : va_P E.1 vwCl (Lesson_c E a (Lesson_code_s v (upd (Lesson_code v) ((Lesson_codes v)).toNatClampNeg x0))) H := hP
    have hD : va_D A (Lesson_c E a (Lesson_code_s v (upd (Lesson_code v) ((Lesson_codes v)).toNatClampNeg x0))) := hD
    refine lv_aload_n hx hb dX3_addCode_23 rfl (lv_at hl 0 rfl) ?_
    refine lv_dup hx hb dX3_addCode_24 rfl ?_
    refine va_get (D := E.1) (ci := 3) (v := .int (Lesson_codes v)) (C := RX3) (T := TX3) (N := 7) hx hb hts k1 hown hK hP 0 rfl rfl 1 (by decide) k0 (fun _ h9 => h9) rfl dX3_addCode_25 ?_
    refine lv_iconst (v := 1) hx hb dX3_addCode_28 (by decide) ?_
    refine lv_iadd hx hb dX3_addCode_29 ?_
    refine va_put (D := E.1) (ci := 3) (v := .int ((Lesson_codes v) + 1)) (ty := .int) (C := RX3) (T := TX3) (N := 7) hx hb hts k1 tyX3 tyX3_ok nmX3 hown hK hP hD hS 0 rfl rfl 1 (by decide) k0 (fun _ h9 => h9) rfl (by decide +kernel) rfl rfl (Nat.le_of_ble_eq_true rfl) dX3_addCode_30 (fun H locs hP hD hS => ?_)
    have hP : va_P E.1 vwCl (Lesson_c E a (Lesson_codes_s (Lesson_code_s v (upd (Lesson_code v) ((Lesson_codes v)).toNatClampNeg x0)) ((Lesson_codes v) + 1))) H := hP
    have hD : va_D A (Lesson_c E a (Lesson_codes_s (Lesson_code_s v (upd (Lesson_code v) ((Lesson_codes v)).toNatClampNeg x0)) ((Lesson_codes v) + 1))) := hD
    have hF := Option.some.inj hF
    subst hF
    rw [hQ]
    exact W.vret hx hb hr (fun t ht _ => ⟨⟨rfl, by rw [ht]; exact hP, hD⟩, hS.F ht⟩) hS.2.2 dX3_addCode_33
  · have hF := m_neg c1 hF
    have hF := Option.some.inj hF
    subst hF
    rw [hQ]
    exact W.vret hx hb hr (fun t ht _ => ⟨⟨rfl, by rw [ht]; exact hP, hD⟩, hS.F ht⟩) hS.2.2 dX3_addCode_12

def fn_X3_addTest (v : LessonV) (x0 : Int32) (x1 : Int32) (x2 : Int32) : Option LessonV :=
  (Option.bind (fn_X3_addCode v ((((x0 * 3) + x1) * 100) + x2)) (fun t1 => some t1))
abbrev rmX3_addTest : Room := { frames := 1, cells := 0, slots := 0, locals := 21 }
set_option maxRecDepth 100000 in
set_option maxHeartbeats 400000 in
theorem c_X3_addTest (l : Launch) (E : mE) (a : LessonA) (v : LessonV) (x0 : Int32) (x1 : Int32) (x2 : Int32) (t : LessonV) (hF : fn_X3_addTest v x0 x1 x2 = some t) (sz : Nat) : Met l yX3_addTest wsX3_addTest rmX3_addTest (mPm E [.ref (Lessona_self a), .int x0, .int x1, .int x2] sz ((Lesson_c E a v)) (([] : va_W))) (mSm E (none) ((Lesson_c E a t)) (va_A ((Lesson_c E a v)) sz)) 0 0 (va_A ((Lesson_c E a v)) sz) := by
  refine mOfM (cc := cX3_addTest) (maxL := 4) (ret := none) (by decide) rfl (Nat.le_of_ble_eq_true rfl) ?_
  intro p e_ s m args below meth c Q A hQ CC hr hlocks hin hA hP hD hKN hGl hR0 hRA ls hl
  have hS : va_S A s.heap s.heap [] := va_S.rf
  have hK := hKN.1
  have hx := CC.1
  have hb := CC.2.1
  have hml := CC.2.2.1
  have hown : s.vm.findClass RX3 = some m.cls := CC.2.2.2.1
  have hts := CC.2.2.2.2
  have hl : lv_has ls 4 [(0, .ref (Lessona_self a)), (1, .int x0), (2, .int x1), (3, .int x2)] := hl
  have hP : va_P E.1 vwCl (Lesson_c E a v) s.heap := hP
  obtain ⟨H, hH⟩ : ∃ H, H = s.heap := ⟨_, rfl⟩
  obtain ⟨locs, hlc⟩ : ∃ z : List Loc, z = [] := ⟨_, rfl⟩
  rw [← hH] at hP
  rw [← hlc] at hS
  have hS : va_S A s.heap H locs := by rw [hH]; exact hS
  rw [← hH, ← hlc]
  unfold fn_X3_addTest at hF
  refine lv_aload_n hx hb dX3_addTest_0 rfl (lv_at hl 0 rfl) ?_
  refine lv_iload_n hx hb dX3_addTest_1 rfl (lv_at hl 1 rfl) ?_
  refine lv_iconst (v := 3) hx hb dX3_addTest_2 (by decide) ?_
  refine lv_imul hx hb dX3_addTest_3 ?_
  refine lv_iload_n hx hb dX3_addTest_4 rfl (lv_at hl 2 rfl) ?_
  refine lv_iadd hx hb dX3_addTest_5 ?_
  refine lv_bipush (v := 100) hx hb dX3_addTest_6 (by decide) ?_
  refine lv_imul hx hb dX3_addTest_8 ?_
  refine lv_iload_n hx hb dX3_addTest_9 rfl (lv_at hl 3 rfl) ?_
  refine lv_iadd hx hb dX3_addTest_10 ?_
  obtain ⟨t1, ht1, hF⟩ := m_bnd hF
  have hPc := hP
  have hDc := hD
  have hFc := va_free (wc := (Lesson_c E a v)) hD hS hA [0, 1, 2, 3] rfl
  refine mVM (ci := 3) (n := 1) (rest := []) (As := [.int ((((x0 * 3) + x1) * 100) + x2)]) CC hKN hGl (c_X3_addCode l E a v ((((x0 * 3) + x1) * 100) + x2) t1 ht1 _) gX3_addTest_X3_addCode rfl ⟨rfl, rfl⟩ (by decide +kernel) ⟨Nat.le_of_ble_eq_true rfl, Nat.le_of_ble_eq_true rfl⟩ hPc hDc m_nil m_nilA hS hFc rfl rfl rfl rfl hl.1 rfl (Nat.le_of_ble_eq_true rfl) ⟨Nat.zero_le _, Nat.zero_le _⟩ dX3_addTest_11 (fun H1 locs hP1 hD1 hz1 hk1 hS => ?_)
  have hP : va_P E.1 vwCl (Lesson_c E a t1) H1 := hP1
  have hD : va_D A (Lesson_c E a t1) := m_back hD1 hFc
  generalize H1 = H at hP hS ⊢
  refine W.eq (g2 := F0 m 14 ls []) rfl ?_
  have hF := Option.some.inj hF
  subst hF
  rw [hQ]
  exact W.vret hx hb hr (fun t ht _ => ⟨⟨rfl, by rw [ht]; exact hP, hD⟩, hS.F ht⟩) hS.2.2 dX3_addTest_14

def fn_X3_addSpur (v : LessonV) (x0 : Int32) : Option LessonV :=
  (if (Int32.ofNat 10) ≤ (Lesson_spurs v) then some v else (if (Lesson_spurs v) < (Int32.ofNat 10) then (if mIn (Lesson_spurs v) 10 = true then (if mIn (Lesson_spurs v) 10 = true then some (Lesson_spurs_s (Lesson_ends_s (Lesson_worths_s v (upd (Lesson_worths v) ((Lesson_spurs v)).toNatClampNeg x0)) (upd (Lesson_ends v) ((Lesson_spurs v)).toNatClampNeg (Lesson_codes v))) ((Lesson_spurs v) + 1)) else none) else none) else some v))
abbrev rmX3_addSpur : Room := { frames := 0, cells := 0, slots := 0, locals := 0 }
set_option maxRecDepth 100000 in
set_option maxHeartbeats 400000 in
theorem c_X3_addSpur (l : Launch) (E : mE) (a : LessonA) (v : LessonV) (x0 : Int32) (t : LessonV) (hF : fn_X3_addSpur v x0 = some t) (sz : Nat) : Met l yX3_addSpur wsX3_addSpur rmX3_addSpur (mPm E [.ref (Lessona_self a), .int x0] sz ((Lesson_c E a v)) (([] : va_W))) (mSm E (none) ((Lesson_c E a t)) (va_A ((Lesson_c E a v)) sz)) 0 0 (va_A ((Lesson_c E a v)) sz) := by
  refine mOfM (cc := cX3_addSpur) (maxL := 2) (ret := none) (by decide) rfl (Nat.le_of_ble_eq_true rfl) ?_
  intro p e_ s m args below meth c Q A hQ CC hr hlocks hin hA hP hD hKN hGl hR0 hRA ls hl
  have hS : va_S A s.heap s.heap [] := va_S.rf
  have hK := hKN.1
  have hx := CC.1
  have hb := CC.2.1
  have hml := CC.2.2.1
  have hown : s.vm.findClass RX3 = some m.cls := CC.2.2.2.1
  have hts := CC.2.2.2.2
  have hl : lv_has ls 2 [(0, .ref (Lessona_self a)), (1, .int x0)] := hl
  have k0 := hts (.fieldLink RX3 25 "OneDidAll$Lesson" "spurs" "I") (by decide +kernel)
  have k1 := (show ∀ w ∈ u_ws RX3 TX3 7, w ∈ wsX3_addSpur by decide +kernel)
  have k2 := hts (.fieldLink RX3 19 "OneDidAll$Lesson" "worths" "[I") (by decide +kernel)
  have k3 := hts (.fieldLink RX3 22 "OneDidAll$Lesson" "ends" "[I") (by decide +kernel)
  have k4 := hts (.fieldLink RX3 15 "OneDidAll$Lesson" "codes" "I") (by decide +kernel)
  have hP : va_P E.1 vwCl (Lesson_c E a v) s.heap := hP
  obtain ⟨H, hH⟩ : ∃ H, H = s.heap := ⟨_, rfl⟩
  obtain ⟨locs, hlc⟩ : ∃ z : List Loc, z = [] := ⟨_, rfl⟩
  rw [← hH] at hP
  rw [← hlc] at hS
  have hS : va_S A s.heap H locs := by rw [hH]; exact hS
  rw [← hH, ← hlc]
  unfold fn_X3_addSpur at hF
  refine lv_aload_n hx hb dX3_addSpur_0 rfl (lv_at hl 0 rfl) ?_
  refine va_get (D := E.1) (ci := 3) (v := .int (Lesson_spurs v)) (C := RX3) (T := TX3) (N := 7) hx hb hts k1 hown hK hP 0 rfl rfl 4 (by decide) k0 (fun _ h9 => h9) rfl dX3_addSpur_1 ?_
  refine lv_aload_n hx hb dX3_addSpur_4 rfl (lv_at hl 0 rfl) ?_
  refine va_get (D := E.1) (ci := 3) (v := .ref (Lessona_worths a)) (C := RX3) (T := TX3) (N := 7) hx hb hts k1 hown hK hP 0 rfl rfl 2 (by decide) k2 (fun _ h9 => h9) rfl dX3_addSpur_5 ?_
  refine va_alen (v := (Int32.ofNat 10)) hx hb hK hP 2 1 rfl rfl rfl dX3_addSpur_8 ?_
  refine lv_icmp_ge (tgt := 24) hx hb dX3_addSpur_9 (by decide) (fun c1 => ?_) (fun c1 => ?_)
  · have hF := m_pos c1 hF
    have hF := Option.some.inj hF
    subst hF
    rw [hQ]
    exact W.vret hx hb hr (fun t ht _ => ⟨⟨rfl, by rw [ht]; exact hP, hD⟩, hS.F ht⟩) hS.2.2 dX3_addSpur_24
  · have hF := m_neg c1 hF
    refine lv_aload_n hx hb dX3_addSpur_12 rfl (lv_at hl 0 rfl) ?_
    refine va_get (D := E.1) (ci := 3) (v := .int (Lesson_spurs v)) (C := RX3) (T := TX3) (N := 7) hx hb hts k1 hown hK hP 0 rfl rfl 4 (by decide) k0 (fun _ h9 => h9) rfl dX3_addSpur_13 ?_
    refine lv_aload_n hx hb dX3_addSpur_16 rfl (lv_at hl 0 rfl) ?_
    refine va_get (D := E.1) (ci := 3) (v := .ref (Lessona_ends a)) (C := RX3) (T := TX3) (N := 7) hx hb hts k1 hown hK hP 0 rfl rfl 3 (by decide) k3 (fun _ h9 => h9) rfl dX3_addSpur_17 ?_
    refine va_alen (v := (Int32.ofNat 10)) hx hb hK hP 3 1 rfl rfl rfl dX3_addSpur_20 ?_
    refine lv_icmp_lt (tgt := 25) hx hb dX3_addSpur_21 (by decide) (fun c2 => ?_) (fun c2 => ?_)
    · have hF := m_pos c2 hF
      refine lv_aload_n hx hb dX3_addSpur_25 rfl (lv_at hl 0 rfl) ?_
      refine va_get (D := E.1) (ci := 3) (v := .ref (Lessona_worths a)) (C := RX3) (T := TX3) (N := 7) hx hb hts k1 hown hK hP 0 rfl rfl 2 (by decide) k2 (fun _ h9 => h9) rfl dX3_addSpur_26 ?_
      refine lv_aload_n hx hb dX3_addSpur_29 rfl (lv_at hl 0 rfl) ?_
      refine va_get (D := E.1) (ci := 3) (v := .int (Lesson_spurs v)) (C := RX3) (T := TX3) (N := 7) hx hb hts k1 hown hK hP 0 rfl rfl 4 (by decide) k0 (fun _ h9 => h9) rfl dX3_addSpur_30 ?_
      refine lv_iload_n hx hb dX3_addSpur_33 rfl (lv_at hl 1 rfl) ?_
      obtain ⟨h3, hF⟩ := m_chk hF
      refine va_iast (f := (Lesson_worths v)) hx hb hK hP hD hS 2 1 rfl rfl (mIn_ok h3) dX3_addSpur_34 (fun H locs hP hD hS => ?_)
      have hP : va_P E.1 vwCl (Lesson_c E a (Lesson_worths_s v (upd (Lesson_worths v) ((Lesson_spurs v)).toNatClampNeg x0))) H := hP
      have hD : va_D A (Lesson_c E a (Lesson_worths_s v (upd (Lesson_worths v) ((Lesson_spurs v)).toNatClampNeg x0))) := hD
      refine lv_aload_n hx hb dX3_addSpur_35 rfl (lv_at hl 0 rfl) ?_
      refine va_get (D := E.1) (ci := 3) (v := .ref (Lessona_ends a)) (C := RX3) (T := TX3) (N := 7) hx hb hts k1 hown hK hP 0 rfl rfl 3 (by decide) k3 (fun _ h9 => h9) rfl dX3_addSpur_36 ?_
      refine lv_aload_n hx hb dX3_addSpur_39 rfl (lv_at hl 0 rfl) ?_
      refine va_get (D := E.1) (ci := 3) (v := .int (Lesson_spurs v)) (C := RX3) (T := TX3) (N := 7) hx hb hts k1 hown hK hP 0 rfl rfl 4 (by decide) k0 (fun _ h9 => h9) rfl dX3_addSpur_40 ?_
      refine lv_aload_n hx hb dX3_addSpur_43 rfl (lv_at hl 0 rfl) ?_
      refine va_get (D := E.1) (ci := 3) (v := .int (Lesson_codes v)) (C := RX3) (T := TX3) (N := 7) hx hb hts k1 hown hK hP 0 rfl rfl 1 (by decide) k4 (fun _ h9 => h9) rfl dX3_addSpur_44 ?_
      obtain ⟨h4, hF⟩ := m_chk hF
      refine va_iast (f := (Lesson_ends v)) hx hb hK hP hD hS 3 1 rfl rfl (mIn_ok h4) dX3_addSpur_47 (fun H locs hP hD hS => ?_)
      have hP : va_P E.1 vwCl (Lesson_c E a (Lesson_ends_s (Lesson_worths_s v (upd (Lesson_worths v) ((Lesson_spurs v)).toNatClampNeg x0)) (upd (Lesson_ends v) ((Lesson_spurs v)).toNatClampNeg (Lesson_codes v)))) H := hP
      have hD : va_D A (Lesson_c E a (Lesson_ends_s (Lesson_worths_s v (upd (Lesson_worths v) ((Lesson_spurs v)).toNatClampNeg x0)) (upd (Lesson_ends v) ((Lesson_spurs v)).toNatClampNeg (Lesson_codes v)))) := hD
      refine lv_aload_n hx hb dX3_addSpur_48 rfl (lv_at hl 0 rfl) ?_
      refine lv_dup hx hb dX3_addSpur_49 rfl ?_
      refine va_get (D := E.1) (ci := 3) (v := .int (Lesson_spurs v)) (C := RX3) (T := TX3) (N := 7) hx hb hts k1 hown hK hP 0 rfl rfl 4 (by decide) k0 (fun _ h9 => h9) rfl dX3_addSpur_50 ?_
      refine lv_iconst (v := 1) hx hb dX3_addSpur_53 (by decide) ?_
      refine lv_iadd hx hb dX3_addSpur_54 ?_
      refine va_put (D := E.1) (ci := 3) (v := .int ((Lesson_spurs v) + 1)) (ty := .int) (C := RX3) (T := TX3) (N := 7) hx hb hts k1 tyX3 tyX3_ok nmX3 hown hK hP hD hS 0 rfl rfl 4 (by decide) k0 (fun _ h9 => h9) rfl (by decide +kernel) rfl rfl (Nat.le_of_ble_eq_true rfl) dX3_addSpur_55 (fun H locs hP hD hS => ?_)
      have hP : va_P E.1 vwCl (Lesson_c E a (Lesson_spurs_s (Lesson_ends_s (Lesson_worths_s v (upd (Lesson_worths v) ((Lesson_spurs v)).toNatClampNeg x0)) (upd (Lesson_ends v) ((Lesson_spurs v)).toNatClampNeg (Lesson_codes v))) ((Lesson_spurs v) + 1))) H := hP
      have hD : va_D A (Lesson_c E a (Lesson_spurs_s (Lesson_ends_s (Lesson_worths_s v (upd (Lesson_worths v) ((Lesson_spurs v)).toNatClampNeg x0)) (upd (Lesson_ends v) ((Lesson_spurs v)).toNatClampNeg (Lesson_codes v))) ((Lesson_spurs v) + 1))) := hD
      have hF := Option.some.inj hF
      subst hF
      rw [hQ]
      exact W.vret hx hb hr (fun t ht _ => ⟨⟨rfl, by rw [ht]; exact hP, hD⟩, hS.F ht⟩) hS.2.2 dX3_addSpur_58
    · have hF := m_neg c2 hF
      have hF := Option.some.inj hF
      subst hF
      rw [hQ]
      exact W.vret hx hb hr (fun t ht _ => ⟨⟨rfl, by rw [ht]; exact hP, hD⟩, hS.F ht⟩) hS.2.2 dX3_addSpur_24

def fn_X3_look (v2 : GroupV) (x0 : Int32) (x1 : Int32) (x3 : Int32) : Option Int32 :=
  (if x1 = (-3) then some ((x0 >>> ((1 : Int32) &&& 31)) ||| (x0 &&& 1)) else (if x1 = (-2) then (if ¬ (x0 &&& 1) = 1 then some ((x0 >>> ((1 : Int32) &&& 31)) &&& (-2)) else some (x0 >>> ((1 : Int32) &&& 31))) else (if x1 = (-1) then some (x0 ^^^ 1) else (Option.bind (fn_X2_subjectOf v2 x3 ((x1 / 100) / 3)) (fun t5 => jp (fun (z0_143 : Int32) => jp (fun (z0_158 : Int32) => some ((x0 <<< ((1 : Int32) &&& 31)) ||| z0_158)) (fun j158 => (if z0_143 = 0 then j158 0 else j158 1))) (fun j143 => (if ¬ (mRem (x1 / 100) 3) = 0 then (if ¬ (mRem (x1 / 100) 3) = 1 then (if t5 ≤ (mRem x1 100) then j143 0 else j143 1) else (if ¬ t5 = (mRem x1 100) then j143 0 else j143 1)) else (if (mRem x1 100) ≤ t5 then j143 0 else j143 1))))))))
abbrev rmX3_look : Room := { frames := 1, cells := 0, slots := 0, locals := 22 }
set_option maxRecDepth 100000 in
set_option maxHeartbeats 400000 in
theorem c_X3_look (l : Launch) (E : mE) (a2 : GroupA) (v2 : GroupV) (x0 : Int32) (x1 : Int32) (x3 : Int32) (t : Int32) (hF : fn_X3_look v2 x0 x1 x3 = some t) : Met l yX3_look wsX3_look rmX3_look (mPp E [.int x0, .int x1, .ref (Groupa_self a2), .int x3] (Group_c E a2 v2)) (mSp (some (.int t))) 0 0 (fun _ => False) := by
  refine mOfP (cc := cX3_look) (maxL := 10) (ret := (some .int)) (by decide) rfl (Nat.le_of_ble_eq_true rfl) ?_
  intro p e_ s m args below meth c Q hQ CC hr hlocks hP hKN hGl ls hl
  have hS : va_S (fun _ => False) s.heap s.heap [] := va_S.rf
  have hK := hKN.1
  have hx := CC.1
  have hb := CC.2.1
  have hml := CC.2.2.1
  have hown : s.vm.findClass RX3 = some m.cls := CC.2.2.2.1
  have hts := CC.2.2.2.2
  have hl : lv_has ls 10 [(0, .int x0), (1, .int x1), (2, .ref (Groupa_self a2)), (3, .int x3)] := hl
  unfold fn_X3_look at hF
  refine lv_iload_n hx hb dX3_look_0 rfl (lv_at hl 0 rfl) ?_
  refine lv_iconst (v := 1) hx hb dX3_look_1 (by decide) ?_
  refine lv_iand hx hb dX3_look_2 ?_
  refine lv_istore (lv' := [(4, .int (x0 &&& 1)), (0, .int x0), (1, .int x1), (2, .ref (Groupa_self a2)), (3, .int x3)]) hx hb dX3_look_3 hl (by decide) rfl (fun ls hl => ?_)
  refine lv_iload_n hx hb dX3_look_5 rfl (lv_at hl 1 rfl) ?_
  refine lv_iconst (v := 1) hx hb dX3_look_6 (by decide) ?_
  refine lv_ishr hx hb dX3_look_7 ?_
  refine lv_istore (lv' := [(5, .int (x0 >>> ((1 : Int32) &&& 31))), (4, .int (x0 &&& 1)), (0, .int x0), (1, .int x1), (2, .ref (Groupa_self a2)), (3, .int x3)]) hx hb dX3_look_8 hl (by decide) rfl (fun ls hl => ?_)
  refine lv_iload_n hx hb dX3_look_10 rfl (lv_at hl 3 rfl) ?_
  by_cases c1 : x1 = (-3)
  · have hF := m_pos c1 hF
    refine lv_tableIn (off := 46) (tgt := 57) hx hb dX3_look_11 (by rw [c1]; decide) (by rw [c1]; decide) (by rw [c1]; rfl) (by decide) ?_
    refine lv_iload hx hb dX3_look_57 (lv_at hl 0 rfl) ?_
    refine lv_iload hx hb dX3_look_59 (lv_at hl 1 rfl) ?_
    refine lv_ior hx hb dX3_look_61 ?_
    have hF := Option.some.inj hF
    subst hF
    rw [hQ]
    exact W.iret hx hb hr (fun t ht _ => ⟨rfl, ht⟩) (fun _ h => by cases h) dX3_look_62
  · have hF := m_neg c1 hF
    by_cases c2 : x1 = (-2)
    · have hF := m_pos c2 hF
      refine lv_tableIn (off := 29) (tgt := 40) hx hb dX3_look_11 (by rw [c2]; decide) (by rw [c2]; decide) (by rw [c2]; rfl) (by decide) ?_
      refine lv_iload hx hb dX3_look_40 (lv_at hl 1 rfl) ?_
      refine lv_iconst (v := 1) hx hb dX3_look_42 (by decide) ?_
      refine lv_icmp_ne (tgt := 51) hx hb dX3_look_43 (by decide) (fun c3 => ?_) (fun c3 => ?_)
      · have hF := m_pos c3 hF
        refine lv_iload hx hb dX3_look_51 (lv_at hl 0 rfl) ?_
        refine lv_bipush (v := (-2)) hx hb dX3_look_53 (by decide) ?_
        refine lv_iand hx hb dX3_look_55 ?_
        have hF := Option.some.inj hF
        subst hF
        rw [hQ]
        exact W.iret hx hb hr (fun t ht _ => ⟨rfl, ht⟩) (fun _ h => by cases h) dX3_look_56
      · have hF := m_neg (fun n9 => n9 c3) hF
        refine lv_iload hx hb dX3_look_46 (lv_at hl 0 rfl) ?_
        refine lv_goto (tgt := 56) hx hb dX3_look_48 (by decide) ?_
        have hF := Option.some.inj hF
        subst hF
        rw [hQ]
        exact W.iret hx hb hr (fun t ht _ => ⟨rfl, ht⟩) (fun _ h => by cases h) dX3_look_56
    · have hF := m_neg c2 hF
      by_cases c4 : x1 = (-1)
      · have hF := m_pos c4 hF
        refine lv_tableIn (off := 25) (tgt := 36) hx hb dX3_look_11 (by rw [c4]; decide) (by rw [c4]; decide) (by rw [c4]; rfl) (by decide) ?_
        refine lv_iload_n hx hb dX3_look_36 rfl (lv_at hl 2 rfl) ?_
        refine lv_iconst (v := 1) hx hb dX3_look_37 (by decide) ?_
        refine lv_ixor hx hb dX3_look_38 ?_
        have hF := Option.some.inj hF
        subst hF
        rw [hQ]
        exact W.iret hx hb hr (fun t ht _ => ⟨rfl, ht⟩) (fun _ h => by cases h) dX3_look_39
      · have hF := m_neg c4 hF
        have qc1 := lv_neT (a := -3) c1 rfl
        have qc2 := lv_neT (a := -2) c2 rfl
        have qc4 := lv_neT (a := -1) c4 rfl
        refine lv_tableOut (tgt := 63) hx hb dX3_look_11 (by omega) (by decide) ?_
        refine lv_iload_n hx hb dX3_look_63 rfl (lv_at hl 3 rfl) ?_
        refine lv_bipush (v := 100) hx hb dX3_look_64 (by decide) ?_
        refine lv_irem hx hb dX3_look_66 (by decide) ?_
        refine W.eq (g2 := F0 m 67 ls [.int (mRem x1 100)]) rfl ?_
        refine lv_istore (lv' := [(6, .int (mRem x1 100)), (5, .int (x0 >>> ((1 : Int32) &&& 31))), (4, .int (x0 &&& 1)), (0, .int x0), (1, .int x1), (2, .ref (Groupa_self a2)), (3, .int x3)]) hx hb dX3_look_67 hl (by decide) rfl (fun ls hl => ?_)
        refine lv_iload_n hx hb dX3_look_69 rfl (lv_at hl 4 rfl) ?_
        refine lv_bipush (v := 100) hx hb dX3_look_70 (by decide) ?_
        refine lv_idiv hx hb dX3_look_72 (by decide) ?_
        refine lv_iconst (v := 3) hx hb dX3_look_73 (by decide) ?_
        refine lv_irem hx hb dX3_look_74 (by decide) ?_
        refine W.eq (g2 := F0 m 75 ls [.int (mRem (x1 / 100) 3)]) rfl ?_
        refine lv_istore (lv' := [(7, .int (mRem (x1 / 100) 3)), (6, .int (mRem x1 100)), (5, .int (x0 >>> ((1 : Int32) &&& 31))), (4, .int (x0 &&& 1)), (0, .int x0), (1, .int x1), (2, .ref (Groupa_self a2)), (3, .int x3)]) hx hb dX3_look_75 hl (by decide) rfl (fun ls hl => ?_)
        refine lv_aload_n hx hb dX3_look_77 rfl (lv_at hl 6 rfl) ?_
        refine lv_iload_n hx hb dX3_look_78 rfl (lv_at hl 7 rfl) ?_
        refine lv_iload_n hx hb dX3_look_79 rfl (lv_at hl 5 rfl) ?_
        refine lv_bipush (v := 100) hx hb dX3_look_80 (by decide) ?_
        refine lv_idiv hx hb dX3_look_82 (by decide) ?_
        refine lv_iconst (v := 3) hx hb dX3_look_83 (by decide) ?_
        refine lv_idiv hx hb dX3_look_84 (by decide) ?_
        obtain ⟨t5, ht5, hF⟩ := m_bnd hF
        refine mVP (ci := 2) (n := 2) (rest := []) (As := [.int x3, .int ((x1 / 100) / 3)]) CC hKN hGl hS (c_X2_subjectOf l E a2 v2 x3 ((x1 / 100) / 3) t5 ht5) gX3_look_X2_subjectOf rfl ⟨rfl, rfl⟩ (by decide +kernel) ⟨Nat.le_of_ble_eq_true rfl, Nat.le_of_ble_eq_true rfl⟩ hP rfl rfl rfl rfl hl.1 rfl (Nat.le_of_ble_eq_true rfl) ⟨Nat.zero_le _, Nat.zero_le _⟩ dX3_look_85 ?_
        refine W.eq (g2 := F0 m 88 ls [.int t5]) rfl ?_
        refine lv_istore (lv' := [(8, .int t5), (7, .int (mRem (x1 / 100) 3)), (6, .int (mRem x1 100)), (5, .int (x0 >>> ((1 : Int32) &&& 31))), (4, .int (x0 &&& 1)), (0, .int x0), (1, .int x1), (2, .ref (Groupa_self a2)), (3, .int x3)]) hx hb dX3_look_88 hl (by decide) rfl (fun ls hl => ?_)
        refine lv_iload hx hb dX3_look_90 (lv_at hl 1 rfl) ?_
        obtain ⟨j143, hjd143, hF⟩ := m_jp hF
        have hj143 : ∀ (z0_143 : Int32) (ls : Array Slot), j143 z0_143 = some t → lv_has ls 10 [(0, .int x0)] → W p l e_ rmX3_look s m args below meth c s.heap [] 0 0 Q (F0 m 143 ls [.int z0_143]) := by
          intro z0_143 ls hF hl
          rw [hjd143] at hF
          refine lv_istore (lv' := [(9, .int z0_143), (0, .int x0)]) hx hb dX3_look_143 hl (by decide) rfl (fun ls hl => ?_)
          refine lv_iload_n hx hb dX3_look_145 rfl (lv_at hl 1 rfl) ?_
          refine lv_iconst (v := 1) hx hb dX3_look_146 (by decide) ?_
          refine lv_ishl hx hb dX3_look_147 ?_
          refine lv_iload hx hb dX3_look_148 (lv_at hl 0 rfl) ?_
          obtain ⟨j158, hjd158, hF⟩ := m_jp hF
          have hj158 : ∀ (z0_158 : Int32) (ls : Array Slot), j158 z0_158 = some t → lv_has ls 10 [] → W p l e_ rmX3_look s m args below meth c s.heap [] 0 0 Q (F0 m 158 ls [.int z0_158, .int (x0 <<< ((1 : Int32) &&& 31))]) := by
            intro z0_158 ls hF hl
            rw [hjd158] at hF
            refine lv_ior hx hb dX3_look_158 ?_
            have hF := Option.some.inj hF
            subst hF
            rw [hQ]
            exact W.iret hx hb hr (fun t ht _ => ⟨rfl, ht⟩) (fun _ h => by cases h) dX3_look_159
          clear hjd158
          refine lv_if_eq (tgt := 157) hx hb dX3_look_150 (by decide) (fun c6 => ?_) (fun c6 => ?_)
          · have hF := m_pos c6 hF
            refine lv_iconst (v := 0) hx hb dX3_look_157 (by decide) ?_
            exact hj158 0 ls hF (lv_sub hl [] rfl)
          · have hF := m_neg c6 hF
            refine lv_iconst (v := 1) hx hb dX3_look_153 (by decide) ?_
            refine lv_goto (tgt := 158) hx hb dX3_look_154 (by decide) ?_
            exact hj158 1 ls hF (lv_sub hl [] rfl)
        clear hjd143
        refine lv_if_ne (tgt := 110) hx hb dX3_look_92 (by decide) (fun c7 => ?_) (fun c7 => ?_)
        · have hF := m_pos c7 hF
          refine lv_iload hx hb dX3_look_110 (lv_at hl 1 rfl) ?_
          refine lv_iconst (v := 1) hx hb dX3_look_112 (by decide) ?_
          refine lv_icmp_ne (tgt := 131) hx hb dX3_look_113 (by decide) (fun c8 => ?_) (fun c8 => ?_)
          · have hF := m_pos c8 hF
            refine lv_iload hx hb dX3_look_131 (lv_at hl 0 rfl) ?_
            refine lv_iload hx hb dX3_look_133 (lv_at hl 2 rfl) ?_
            refine lv_icmp_le (tgt := 142) hx hb dX3_look_135 (by decide) (fun c9 => ?_) (fun c9 => ?_)
            · have hF := m_pos c9 hF
              refine lv_iconst (v := 0) hx hb dX3_look_142 (by decide) ?_
              exact hj143 0 ls hF (lv_sub hl [5] rfl)
            · have hF := m_neg c9 hF
              refine lv_iconst (v := 1) hx hb dX3_look_138 (by decide) ?_
              refine lv_goto (tgt := 143) hx hb dX3_look_139 (by decide) ?_
              exact hj143 1 ls hF (lv_sub hl [5] rfl)
          · have hF := m_neg (fun n9 => n9 c8) hF
            refine lv_iload hx hb dX3_look_116 (lv_at hl 0 rfl) ?_
            refine lv_iload hx hb dX3_look_118 (lv_at hl 2 rfl) ?_
            refine lv_icmp_ne (tgt := 127) hx hb dX3_look_120 (by decide) (fun c10 => ?_) (fun c10 => ?_)
            · have hF := m_pos c10 hF
              refine lv_iconst (v := 0) hx hb dX3_look_127 (by decide) ?_
              refine lv_goto (tgt := 143) hx hb dX3_look_128 (by decide) ?_
              exact hj143 0 ls hF (lv_sub hl [5] rfl)
            · have hF := m_neg (fun n9 => n9 c10) hF
              refine lv_iconst (v := 1) hx hb dX3_look_123 (by decide) ?_
              refine lv_goto (tgt := 143) hx hb dX3_look_124 (by decide) ?_
              exact hj143 1 ls hF (lv_sub hl [5] rfl)
        · have hF := m_neg (fun n9 => n9 c7) hF
          refine lv_iload hx hb dX3_look_95 (lv_at hl 0 rfl) ?_
          refine lv_iload hx hb dX3_look_97 (lv_at hl 2 rfl) ?_
          refine lv_icmp_ge (tgt := 106) hx hb dX3_look_99 (by decide) (fun c11 => ?_) (fun c11 => ?_)
          · have hF := m_pos c11 hF
            refine lv_iconst (v := 0) hx hb dX3_look_106 (by decide) ?_
            refine lv_goto (tgt := 143) hx hb dX3_look_107 (by decide) ?_
            exact hj143 0 ls hF (lv_sub hl [5] rfl)
          · have hF := m_neg c11 hF
            refine lv_iconst (v := 1) hx hb dX3_look_102 (by decide) ?_
            refine lv_goto (tgt := 143) hx hb dX3_look_103 (by decide) ?_
            exact hj143 1 ls hF (lv_sub hl [5] rfl)

def fn_X4_take (v : ReaderV) (x0 : Int32) : Option (Int32 × ReaderV) :=
  (if (Reader_size v) ≤ (Reader_place v) then some (0, v) else (if mIn (Reader_place v) 100 = true then (if ((Reader_tape v) ((Reader_place v)).toNatClampNeg) = x0 then some (1, (Reader_place_s v ((Reader_place v) + 1))) else some (0, v)) else none))
abbrev rmX4_take : Room := { frames := 0, cells := 0, slots := 0, locals := 0 }
set_option maxRecDepth 100000 in
set_option maxHeartbeats 400000 in
theorem c_X4_take (l : Launch) (E : mE) (a : ReaderA) (v : ReaderV) (x0 : Int32) (t : (Int32 × ReaderV)) (hF : fn_X4_take v x0 = some t) (sz : Nat) : Met l yX4_take wsX4_take rmX4_take (mPm E [.ref (Readera_self a), .int x0] sz ((Reader_c E a v)) (([] : va_W))) (mSm E (some (.int t.1)) ((Reader_c E a t.2)) (va_A ((Reader_c E a v)) sz)) 0 0 (va_A ((Reader_c E a v)) sz) := by
  refine mOfM (cc := cX4_take) (maxL := 2) (ret := (some .boolean)) (by decide) rfl (Nat.le_of_ble_eq_true rfl) ?_
  intro p e_ s m args below meth c Q A hQ CC hr hlocks hin hA hP hD hKN hGl hR0 hRA ls hl
  have hS : va_S A s.heap s.heap [] := va_S.rf
  have hK := hKN.1
  have hx := CC.1
  have hb := CC.2.1
  have hml := CC.2.2.1
  have hown : s.vm.findClass RX4 = some m.cls := CC.2.2.2.1
  have hts := CC.2.2.2.2
  have hl : lv_has ls 2 [(0, .ref (Readera_self a)), (1, .int x0)] := hl
  have k0 := hts (.fieldLink RX4 9 "OneDidAll$Reader" "place" "I") (by decide +kernel)
  have k1 := (show ∀ w ∈ u_ws RX4 TX4 5, w ∈ wsX4_take by decide +kernel)
  have k2 := hts (.fieldLink RX4 35 "OneDidAll$Reader" "size" "I") (by decide +kernel)
  have k3 := hts (.fieldLink RX4 25 "OneDidAll$Reader" "tape" "[B") (by decide +kernel)
  have hP : va_P E.1 vwCl (Reader_c E a v) s.heap := hP
  obtain ⟨H, hH⟩ : ∃ H, H = s.heap := ⟨_, rfl⟩
  obtain ⟨locs, hlc⟩ : ∃ z : List Loc, z = [] := ⟨_, rfl⟩
  rw [← hH] at hP
  rw [← hlc] at hS
  have hS : va_S A s.heap H locs := by rw [hH]; exact hS
  rw [← hH, ← hlc]
  unfold fn_X4_take at hF
  refine lv_aload_n hx hb dX4_take_0 rfl (lv_at hl 0 rfl) ?_
  refine va_get (D := E.1) (ci := 4) (v := .int (Reader_place v)) (C := RX4) (T := TX4) (N := 5) hx hb hts k1 hown hK hP 0 rfl rfl 2 (by decide) k0 (fun _ h9 => h9) rfl dX4_take_1 ?_
  refine lv_aload_n hx hb dX4_take_4 rfl (lv_at hl 0 rfl) ?_
  refine va_get (D := E.1) (ci := 4) (v := .int (Reader_size v)) (C := RX4) (T := TX4) (N := 5) hx hb hts k1 hown hK hP 0 rfl rfl 1 (by decide) k2 (fun _ h9 => h9) rfl dX4_take_5 ?_
  refine lv_icmp_ge (tgt := 24) hx hb dX4_take_8 (by decide) (fun c1 => ?_) (fun c1 => ?_)
  · have hF := m_pos c1 hF
    refine lv_iconst (v := 0) hx hb dX4_take_24 (by decide) ?_
    have hF := Option.some.inj hF
    subst hF
    rw [hQ]
    exact W.zret hx hb hr rfl (fun t ht _ => ⟨⟨rfl, by rw [ht]; exact hP, hD⟩, hS.F ht⟩) hS.2.2 dX4_take_25
  · have hF := m_neg c1 hF
    refine lv_aload_n hx hb dX4_take_11 rfl (lv_at hl 0 rfl) ?_
    refine va_get (D := E.1) (ci := 4) (v := .ref (Readera_tape a)) (C := RX4) (T := TX4) (N := 5) hx hb hts k1 hown hK hP 0 rfl rfl 0 (by decide) k3 (fun _ h9 => h9) rfl dX4_take_12 ?_
    refine lv_aload_n hx hb dX4_take_15 rfl (lv_at hl 0 rfl) ?_
    refine va_get (D := E.1) (ci := 4) (v := .int (Reader_place v)) (C := RX4) (T := TX4) (N := 5) hx hb hts k1 hown hK hP 0 rfl rfl 2 (by decide) k0 (fun _ h9 => h9) rfl dX4_take_16 ?_
    obtain ⟨h2, hF⟩ := m_chk hF
    refine va_bald (f := (Reader_tape v)) hx hb hK hP 1 0 rfl rfl (mIn_ok h2) dX4_take_19 ?_
    refine W.eq (g2 := F0 m 20 ls [.int ((Reader_tape v) ((Reader_place v)).toNatClampNeg)]) rfl ?_
    refine lv_iload_n hx hb dX4_take_20 rfl (lv_at hl 1 rfl) ?_
    refine lv_icmp_eq (tgt := 26) hx hb dX4_take_21 (by decide) (fun c3 => ?_) (fun c3 => ?_)
    · have hF := m_pos c3 hF
      refine lv_aload_n hx hb dX4_take_26 rfl (lv_at hl 0 rfl) ?_
      refine lv_dup hx hb dX4_take_27 rfl ?_
      refine va_get (D := E.1) (ci := 4) (v := .int (Reader_place v)) (C := RX4) (T := TX4) (N := 5) hx hb hts k1 hown hK hP 0 rfl rfl 2 (by decide) k0 (fun _ h9 => h9) rfl dX4_take_28 ?_
      refine lv_iconst (v := 1) hx hb dX4_take_31 (by decide) ?_
      refine lv_iadd hx hb dX4_take_32 ?_
      refine va_put (D := E.1) (ci := 4) (v := .int ((Reader_place v) + 1)) (ty := .int) (C := RX4) (T := TX4) (N := 5) hx hb hts k1 tyX4 tyX4_ok nmX4 hown hK hP hD hS 0 rfl rfl 2 (by decide) k0 (fun _ h9 => h9) rfl (by decide +kernel) rfl rfl (Nat.le_of_ble_eq_true rfl) dX4_take_33 (fun H locs hP hD hS => ?_)
      have hP : va_P E.1 vwCl (Reader_c E a (Reader_place_s v ((Reader_place v) + 1))) H := hP
      have hD : va_D A (Reader_c E a (Reader_place_s v ((Reader_place v) + 1))) := hD
      refine lv_iconst (v := 1) hx hb dX4_take_36 (by decide) ?_
      have hF := Option.some.inj hF
      subst hF
      rw [hQ]
      exact W.zret hx hb hr rfl (fun t ht _ => ⟨⟨rfl, by rw [ht]; exact hP, hD⟩, hS.F ht⟩) hS.2.2 dX4_take_37
    · have hF := m_neg c3 hF
      refine lv_iconst (v := 0) hx hb dX4_take_24 (by decide) ?_
      have hF := Option.some.inj hF
      subst hF
      rw [hQ]
      exact W.zret hx hb hr rfl (fun t ht _ => ⟨⟨rfl, by rw [ht]; exact hP, hD⟩, hS.F ht⟩) hS.2.2 dX4_take_25

def fn_X5_lesson (v : RoomV) : Option Nat :=
  jp (fun (_ : Unit) => some (Room_none v)) (fun j16 => (if (Room_lessonCount v) < 1 then j16 () else (if (Room_lessonCount v) ≤ 5 then (if mIn ((Room_lessonCount v) - 1) 5 = true then m_opt ((Room_lessons v) (((Room_lessonCount v) - 1)).toNatClampNeg) (some (Room_none v)) (fun r4 => some r4) else none) else j16 ())))
abbrev rmX5_lesson : Room := { frames := 0, cells := 0, slots := 0, locals := 0 }
set_option maxRecDepth 100000 in
set_option maxHeartbeats 400000 in
theorem c_X5_lesson (l : Launch) (E : mE) (a : RoomA) (v : RoomV) (t : Nat) (hF : fn_X5_lesson v = some t) : Met l yX5_lesson wsX5_lesson rmX5_lesson (mPp E [.ref (Rooma_self a)] (Room_c E a v)) (mSp (some (.ref t))) 0 0 (fun _ => False) := by
  refine mOfP (cc := cX5_lesson) (maxL := 2) (ret := (some (.object "OneDidAll$Lesson"))) (by decide) rfl (Nat.le_of_ble_eq_true rfl) ?_
  intro p e_ s m args below meth c Q hQ CC hr hlocks hP hKN hGl ls hl
  have hS : va_S (fun _ => False) s.heap s.heap [] := va_S.rf
  have hK := hKN.1
  have hx := CC.1
  have hb := CC.2.1
  have hml := CC.2.2.1
  have hown : s.vm.findClass RX5 = some m.cls := CC.2.2.2.1
  have hts := CC.2.2.2.2
  have hl : lv_has ls 2 [(0, .ref (Rooma_self a))] := hl
  have k0 := hts (.fieldLink RX5 32 "OneDidAll$Room" "lessonCount" "I") (by decide +kernel)
  have k1 := (show ∀ w ∈ u_ws RX5 TX5 9, w ∈ wsX5_lesson by decide +kernel)
  have k2 := hts (.fieldLink RX5 36 "OneDidAll$Room" "none" "LOneDidAll$Lesson;") (by decide +kernel)
  have k3 := hts (.fieldLink RX5 28 "OneDidAll$Room" "lessons" "[LOneDidAll$Lesson;") (by decide +kernel)
  unfold fn_X5_lesson at hF
  refine lv_aload_n hx hb dX5_lesson_0 rfl (lv_at hl 0 rfl) ?_
  refine va_get (D := E.1) (ci := 5) (v := .int (Room_lessonCount v)) (C := RX5) (T := TX5) (N := 9) hx hb hts k1 hown hK hP 0 rfl rfl 4 (by decide) k0 (fun _ h9 => h9) rfl dX5_lesson_1 ?_
  refine lv_iconst (v := 1) hx hb dX5_lesson_4 (by decide) ?_
  obtain ⟨j16, hjd16, hF⟩ := m_jp hF
  have hj16 : ∀ (ls : Array Slot), j16 () = some t → lv_has ls 2 [(0, .ref (Rooma_self a))] → W p l e_ rmX5_lesson s m args below meth c s.heap [] 0 0 Q (F0 m 16 ls []) := by
    intro ls hF hl
    rw [hjd16] at hF
    refine lv_aload_n hx hb dX5_lesson_16 rfl (lv_at hl 0 rfl) ?_
    refine va_get (D := E.1) (ci := 5) (v := .ref (Room_none v)) (C := RX5) (T := TX5) (N := 9) hx hb hts k1 hown hK hP 0 rfl rfl 5 (by decide) k2 (fun _ h9 => h9) rfl dX5_lesson_17 ?_
    have hF := Option.some.inj hF
    subst hF
    rw [hQ]
    exact W.aret hx hb hr (Or.inl ⟨_, rfl⟩) (Or.inr ⟨_, rfl⟩) (fun t ht _ => ⟨rfl, ht⟩) (fun _ h => by cases h) dX5_lesson_20
  clear hjd16
  refine lv_icmp_lt (tgt := 16) hx hb dX5_lesson_5 (by decide) (fun c1 => ?_) (fun c1 => ?_)
  · have hF := m_pos c1 hF
    exact hj16 ls hF (lv_sub hl [0] rfl)
  · have hF := m_neg c1 hF
    refine lv_aload_n hx hb dX5_lesson_8 rfl (lv_at hl 0 rfl) ?_
    refine va_get (D := E.1) (ci := 5) (v := .int (Room_lessonCount v)) (C := RX5) (T := TX5) (N := 9) hx hb hts k1 hown hK hP 0 rfl rfl 4 (by decide) k0 (fun _ h9 => h9) rfl dX5_lesson_9 ?_
    refine lv_iconst (v := 5) hx hb dX5_lesson_12 (by decide) ?_
    refine lv_icmp_le (tgt := 21) hx hb dX5_lesson_13 (by decide) (fun c2 => ?_) (fun c2 => ?_)
    · have hF := m_pos c2 hF
      refine lv_aload_n hx hb dX5_lesson_21 rfl (lv_at hl 0 rfl) ?_
      refine va_get (D := E.1) (ci := 5) (v := .ref (Rooma_lessons a)) (C := RX5) (T := TX5) (N := 9) hx hb hts k1 hown hK hP 0 rfl rfl 3 (by decide) k3 (fun _ h9 => h9) rfl dX5_lesson_22 ?_
      refine lv_aload_n hx hb dX5_lesson_25 rfl (lv_at hl 0 rfl) ?_
      refine va_get (D := E.1) (ci := 5) (v := .int (Room_lessonCount v)) (C := RX5) (T := TX5) (N := 9) hx hb hts k1 hown hK hP 0 rfl rfl 4 (by decide) k0 (fun _ h9 => h9) rfl dX5_lesson_26 ?_
      refine lv_iconst (v := 1) hx hb dX5_lesson_29 (by decide) ?_
      refine lv_isub hx hb dX5_lesson_30 ?_
      obtain ⟨h3, hF⟩ := m_chk hF
      refine va_aldq (f := (Room_lessons v)) hx hb hK hP 11 3 rfl rfl (mIn_ok h3) dX5_lesson_31 ?_
      rcases qr4 : ((Room_lessons v) (((Room_lessonCount v) - 1)).toNatClampNeg) with _ | r4
      · rw [qr4] at hF
        replace hF := m_on hF
        refine W.eq (g2 := F0 m 32 ls [.null]) (by first | rfl | (rw [qr4]; rfl)) ?_
        refine lv_astore_nN (lv' := [(1, .null), (0, .ref (Rooma_self a))]) hx hb dX5_lesson_32 rfl hl (by decide) rfl (fun ls hl => ?_)
        refine lv_aload_nN hx hb dX5_lesson_33 rfl (lv_at hl 0 rfl) ?_
        refine lv_ifnonnullN hx hb dX5_lesson_34 ?_
        refine lv_aload_n hx hb dX5_lesson_37 rfl (lv_at hl 1 rfl) ?_
        refine va_get (D := E.1) (ci := 5) (v := .ref (Room_none v)) (C := RX5) (T := TX5) (N := 9) hx hb hts k1 hown hK hP 0 rfl rfl 5 (by decide) k2 (fun _ h9 => h9) rfl dX5_lesson_38 ?_
        refine lv_goto (tgt := 45) hx hb dX5_lesson_41 (by decide) ?_
        have hF := Option.some.inj hF
        subst hF
        rw [hQ]
        exact W.aret hx hb hr (Or.inl ⟨_, rfl⟩) (Or.inr ⟨_, rfl⟩) (fun t ht _ => ⟨rfl, ht⟩) (fun _ h => by cases h) dX5_lesson_45
      · rw [qr4] at hF
        replace hF := m_os hF
        refine W.eq (g2 := F0 m 32 ls [.ref r4]) (by first | rfl | (rw [qr4]; rfl)) ?_
        refine lv_astore_n (lv' := [(1, .ref r4), (0, .ref (Rooma_self a))]) hx hb dX5_lesson_32 rfl hl (by decide) rfl (fun ls hl => ?_)
        refine lv_aload_n hx hb dX5_lesson_33 rfl (lv_at hl 0 rfl) ?_
        refine lv_ifnonnull (tgt := 44) hx hb dX5_lesson_34 (by decide) ?_
        refine lv_aload_n hx hb dX5_lesson_44 rfl (lv_at hl 0 rfl) ?_
        have hF := Option.some.inj hF
        subst hF
        rw [hQ]
        exact W.aret hx hb hr (Or.inl ⟨_, rfl⟩) (Or.inr ⟨_, rfl⟩) (fun t ht _ => ⟨rfl, ht⟩) (fun _ h => by cases h) dX5_lesson_45
    · have hF := m_neg c2 hF
      exact hj16 ls hF (lv_sub hl [0] rfl)

def fn_X6_isFull (v : RowsV) : Option Int32 :=
  jp (fun (_ : Unit) => some 1) (fun j24 => (if (Int32.ofNat (Rows_len v)) ≤ (Rows_size v) then j24 () else (if (Rows_size v) < (Int32.ofNat (Rows_len v)) then some 0 else j24 ())))
abbrev rmX6_isFull : Room := { frames := 0, cells := 0, slots := 0, locals := 0 }
set_option maxRecDepth 100000 in
set_option maxHeartbeats 400000 in
theorem c_X6_isFull (l : Launch) (E : mE) (a : RowsA) (v : RowsV) (t : Int32) (hF : fn_X6_isFull v = some t) : Met l yX6_isFull wsX6_isFull rmX6_isFull (mPp E [.ref (Rowsa_self a)] (Rows_c E a v)) (mSp (some (.int t))) 0 0 (fun _ => False) := by
  refine mOfP (cc := cX6_isFull) (maxL := 1) (ret := (some .boolean)) (by decide) rfl (Nat.le_of_ble_eq_true rfl) ?_
  intro p e_ s m args below meth c Q hQ CC hr hlocks hP hKN hGl ls hl
  have hS : va_S (fun _ => False) s.heap s.heap [] := va_S.rf
  have hK := hKN.1
  have hx := CC.1
  have hb := CC.2.1
  have hml := CC.2.2.1
  have hown : s.vm.findClass RX6 = some m.cls := CC.2.2.2.1
  have hts := CC.2.2.2.2
  have hl : lv_has ls 1 [(0, .ref (Rowsa_self a))] := hl
  have k0 := hts (.fieldLink RX6 7 "OneDidAll$Rows" "size" "I") (by decide +kernel)
  have k1 := (show ∀ w ∈ u_ws RX6 TX6 3, w ∈ wsX6_isFull by decide +kernel)
  have k2 := hts (.fieldLink RX6 19 "OneDidAll$Rows" "firsts" "[I") (by decide +kernel)
  have k3 := hts (.fieldLink RX6 23 "OneDidAll$Rows" "seconds" "[I") (by decide +kernel)
  unfold fn_X6_isFull at hF
  refine lv_aload_n hx hb dX6_isFull_0 rfl (lv_at hl 0 rfl) ?_
  refine va_get (D := E.1) (ci := 6) (v := .int (Rows_size v)) (C := RX6) (T := TX6) (N := 3) hx hb hts k1 hown hK hP 0 rfl rfl 2 (by decide) k0 (fun _ h9 => h9) rfl dX6_isFull_1 ?_
  refine lv_aload_n hx hb dX6_isFull_4 rfl (lv_at hl 0 rfl) ?_
  refine va_get (D := E.1) (ci := 6) (v := .ref (Rowsa_firsts a)) (C := RX6) (T := TX6) (N := 3) hx hb hts k1 hown hK hP 0 rfl rfl 0 (by decide) k2 (fun _ h9 => h9) rfl dX6_isFull_5 ?_
  refine va_alen (v := (Int32.ofNat (Rows_len v))) hx hb hK hP 1 1 rfl rfl rfl dX6_isFull_8 ?_
  obtain ⟨j24, hjd24, hF⟩ := m_jp hF
  have hj24 : ∀ (ls : Array Slot), j24 () = some t → lv_has ls 1 [] → W p l e_ rmX6_isFull s m args below meth c s.heap [] 0 0 Q (F0 m 24 ls []) := by
    intro ls hF hl
    rw [hjd24] at hF
    refine lv_iconst (v := 1) hx hb dX6_isFull_24 (by decide) ?_
    refine lv_goto (tgt := 29) hx hb dX6_isFull_25 (by decide) ?_
    have hF := Option.some.inj hF
    subst hF
    rw [hQ]
    exact W.zret hx hb hr rfl (fun t ht _ => ⟨rfl, ht⟩) (fun _ h => by cases h) dX6_isFull_29
  clear hjd24
  refine lv_icmp_ge (tgt := 24) hx hb dX6_isFull_9 (by decide) (fun c1 => ?_) (fun c1 => ?_)
  · have hF := m_pos c1 hF
    exact hj24 ls hF (lv_sub hl [] rfl)
  · have hF := m_neg c1 hF
    refine lv_aload_n hx hb dX6_isFull_12 rfl (lv_at hl 0 rfl) ?_
    refine va_get (D := E.1) (ci := 6) (v := .int (Rows_size v)) (C := RX6) (T := TX6) (N := 3) hx hb hts k1 hown hK hP 0 rfl rfl 2 (by decide) k0 (fun _ h9 => h9) rfl dX6_isFull_13 ?_
    refine lv_aload_n hx hb dX6_isFull_16 rfl (lv_at hl 0 rfl) ?_
    refine va_get (D := E.1) (ci := 6) (v := .ref (Rowsa_seconds a)) (C := RX6) (T := TX6) (N := 3) hx hb hts k1 hown hK hP 0 rfl rfl 1 (by decide) k3 (fun _ h9 => h9) rfl dX6_isFull_17 ?_
    refine va_alen (v := (Int32.ofNat (Rows_len v))) hx hb hK hP 2 1 rfl rfl rfl dX6_isFull_20 ?_
    refine lv_icmp_lt (tgt := 28) hx hb dX6_isFull_21 (by decide) (fun c2 => ?_) (fun c2 => ?_)
    · have hF := m_pos c2 hF
      refine lv_iconst (v := 0) hx hb dX6_isFull_28 (by decide) ?_
      have hF := Option.some.inj hF
      subst hF
      rw [hQ]
      exact W.zret hx hb hr rfl (fun t ht _ => ⟨rfl, ht⟩) (fun _ h => by cases h) dX6_isFull_29
    · have hF := m_neg c2 hF
      exact hj24 ls hF (lv_sub hl [] rfl)

def fn_X6_add (v : RowsV) (x0 : Int32) (x1 : Int32) : Option (Int32 × RowsV) :=
  (Option.bind (fn_X6_isFull v) (fun t1 => jp (fun (wx_37 : RowsV) => some ((Rows_size wx_37), wx_37)) (fun j37 => (if ¬ t1 = 0 then j37 v else (if mIn (Rows_size v) (Rows_len v) = true then (if mIn (Rows_size v) (Rows_len v) = true then j37 (Rows_size_s (Rows_seconds_s (Rows_firsts_s v (upd (Rows_firsts v) ((Rows_size v)).toNatClampNeg x0)) (upd (Rows_seconds v) ((Rows_size v)).toNatClampNeg x1)) ((Rows_size v) + 1)) else none) else none)))))
abbrev rmX6_add : Room := { frames := 1, cells := 0, slots := 0, locals := 20 }
set_option maxRecDepth 100000 in
set_option maxHeartbeats 400000 in
theorem c_X6_add (l : Launch) (E : mE) (a : RowsA) (v : RowsV) (x0 : Int32) (x1 : Int32) (t : (Int32 × RowsV)) (hF : fn_X6_add v x0 x1 = some t) (sz : Nat) : Met l yX6_add wsX6_add rmX6_add (mPm E [.ref (Rowsa_self a), .int x0, .int x1] sz ((Rows_c E a v)) (([] : va_W))) (mSm E (some (.int t.1)) ((Rows_c E a t.2)) (va_A ((Rows_c E a v)) sz)) 0 0 (va_A ((Rows_c E a v)) sz) := by
  refine mOfM (cc := cX6_add) (maxL := 3) (ret := (some .int)) (by decide) rfl (Nat.le_of_ble_eq_true rfl) ?_
  intro p e_ s m args below meth c Q A hQ CC hr hlocks hin hA hP hD hKN hGl hR0 hRA ls hl
  have hS : va_S A s.heap s.heap [] := va_S.rf
  have hK := hKN.1
  have hx := CC.1
  have hb := CC.2.1
  have hml := CC.2.2.1
  have hown : s.vm.findClass RX6 = some m.cls := CC.2.2.2.1
  have hts := CC.2.2.2.2
  have hl : lv_has ls 3 [(0, .ref (Rowsa_self a)), (1, .int x0), (2, .int x1)] := hl
  have k0 := hts (.fieldLink RX6 7 "OneDidAll$Rows" "size" "I") (by decide +kernel)
  have k1 := (show ∀ w ∈ u_ws RX6 TX6 3, w ∈ wsX6_add by decide +kernel)
  have k2 := hts (.fieldLink RX6 19 "OneDidAll$Rows" "firsts" "[I") (by decide +kernel)
  have k3 := hts (.fieldLink RX6 23 "OneDidAll$Rows" "seconds" "[I") (by decide +kernel)
  have hP : va_P E.1 vwCl (Rows_c E a v) s.heap := hP
  obtain ⟨H, hH⟩ : ∃ H, H = s.heap := ⟨_, rfl⟩
  obtain ⟨locs, hlc⟩ : ∃ z : List Loc, z = [] := ⟨_, rfl⟩
  rw [← hH] at hP
  rw [← hlc] at hS
  have hS : va_S A s.heap H locs := by rw [hH]; exact hS
  rw [← hH, ← hlc]
  unfold fn_X6_add at hF
  refine lv_aload_n hx hb dX6_add_0 rfl (lv_at hl 0 rfl) ?_
  obtain ⟨t1, ht1, hF⟩ := m_bnd hF
  refine mVP (ci := 6) (n := 0) (rest := []) (As := []) CC hKN hGl hS (c_X6_isFull l E a v t1 ht1) gX6_add_X6_isFull rfl ⟨rfl, rfl⟩ (by decide +kernel) ⟨Nat.le_of_ble_eq_true rfl, Nat.le_of_ble_eq_true rfl⟩ hP rfl rfl rfl rfl hl.1 rfl (Nat.le_of_ble_eq_true rfl) ⟨Nat.zero_le _, Nat.zero_le _⟩ dX6_add_1 ?_
  refine W.eq (g2 := F0 m 4 ls [.int t1]) rfl ?_
  obtain ⟨j37, hjd37, hF⟩ := m_jp hF
  have hj37 : ∀ (wx_37 : RowsV) (H : Heap) (locs : List Loc) (ls : Array Slot), j37 wx_37 = some t → va_P E.1 vwCl (Rows_c E a wx_37) H → va_D A (Rows_c E a wx_37) → va_S A s.heap H locs → lv_has ls 3 [(0, .ref (Rowsa_self a))] → W p l e_ rmX6_add s m args below meth c H locs 0 0 Q (F0 m 37 ls []) := by
    intro wx_37 H locs ls hF hP hD hS hl
    rw [hjd37] at hF
    refine lv_aload_n hx hb dX6_add_37 rfl (lv_at hl 0 rfl) ?_
    refine va_get (D := E.1) (ci := 6) (v := .int (Rows_size wx_37)) (C := RX6) (T := TX6) (N := 3) hx hb hts k1 hown hK hP 0 rfl rfl 2 (by decide) k0 (fun _ h9 => h9) rfl dX6_add_38 ?_
    have hF := Option.some.inj hF
    subst hF
    rw [hQ]
    exact W.iret hx hb hr (fun t ht _ => ⟨⟨rfl, by rw [ht]; exact hP, hD⟩, hS.F ht⟩) hS.2.2 dX6_add_41
  clear hjd37
  refine lv_if_ne (tgt := 37) hx hb dX6_add_4 (by decide) (fun c2 => ?_) (fun c2 => ?_)
  · have hF := m_pos c2 hF
    exact hj37 v H locs ls hF hP hD hS (lv_sub hl [0] rfl)
  · have hF := m_neg (fun n9 => n9 c2) hF
    refine lv_aload_n hx hb dX6_add_7 rfl (lv_at hl 0 rfl) ?_
    refine va_get (D := E.1) (ci := 6) (v := .ref (Rowsa_firsts a)) (C := RX6) (T := TX6) (N := 3) hx hb hts k1 hown hK hP 0 rfl rfl 0 (by decide) k2 (fun _ h9 => h9) rfl dX6_add_8 ?_
    refine lv_aload_n hx hb dX6_add_11 rfl (lv_at hl 0 rfl) ?_
    refine va_get (D := E.1) (ci := 6) (v := .int (Rows_size v)) (C := RX6) (T := TX6) (N := 3) hx hb hts k1 hown hK hP 0 rfl rfl 2 (by decide) k0 (fun _ h9 => h9) rfl dX6_add_12 ?_
    refine lv_iload_n hx hb dX6_add_15 rfl (lv_at hl 1 rfl) ?_
    obtain ⟨h3, hF⟩ := m_chk hF
    refine va_iast (f := (Rows_firsts v)) hx hb hK hP hD hS 1 1 rfl rfl (mIn_ok h3) dX6_add_16 (fun H locs hP hD hS => ?_)
    have hP : va_P E.1 vwCl (Rows_c E a (Rows_firsts_s v (upd (Rows_firsts v) ((Rows_size v)).toNatClampNeg x0))) H := hP
    have hD : va_D A (Rows_c E a (Rows_firsts_s v (upd (Rows_firsts v) ((Rows_size v)).toNatClampNeg x0))) := hD
    refine lv_aload_n hx hb dX6_add_17 rfl (lv_at hl 0 rfl) ?_
    refine va_get (D := E.1) (ci := 6) (v := .ref (Rowsa_seconds a)) (C := RX6) (T := TX6) (N := 3) hx hb hts k1 hown hK hP 0 rfl rfl 1 (by decide) k3 (fun _ h9 => h9) rfl dX6_add_18 ?_
    refine lv_aload_n hx hb dX6_add_21 rfl (lv_at hl 0 rfl) ?_
    refine va_get (D := E.1) (ci := 6) (v := .int (Rows_size v)) (C := RX6) (T := TX6) (N := 3) hx hb hts k1 hown hK hP 0 rfl rfl 2 (by decide) k0 (fun _ h9 => h9) rfl dX6_add_22 ?_
    refine lv_iload_n hx hb dX6_add_25 rfl (lv_at hl 2 rfl) ?_
    obtain ⟨h4, hF⟩ := m_chk hF
    refine va_iast (f := (Rows_seconds v)) hx hb hK hP hD hS 2 1 rfl rfl (mIn_ok h4) dX6_add_26 (fun H locs hP hD hS => ?_)
    have hP : va_P E.1 vwCl (Rows_c E a (Rows_seconds_s (Rows_firsts_s v (upd (Rows_firsts v) ((Rows_size v)).toNatClampNeg x0)) (upd (Rows_seconds v) ((Rows_size v)).toNatClampNeg x1))) H := hP
    have hD : va_D A (Rows_c E a (Rows_seconds_s (Rows_firsts_s v (upd (Rows_firsts v) ((Rows_size v)).toNatClampNeg x0)) (upd (Rows_seconds v) ((Rows_size v)).toNatClampNeg x1))) := hD
    refine lv_aload_n hx hb dX6_add_27 rfl (lv_at hl 0 rfl) ?_
    refine lv_dup hx hb dX6_add_28 rfl ?_
    refine va_get (D := E.1) (ci := 6) (v := .int (Rows_size v)) (C := RX6) (T := TX6) (N := 3) hx hb hts k1 hown hK hP 0 rfl rfl 2 (by decide) k0 (fun _ h9 => h9) rfl dX6_add_29 ?_
    refine lv_iconst (v := 1) hx hb dX6_add_32 (by decide) ?_
    refine lv_iadd hx hb dX6_add_33 ?_
    refine va_put (D := E.1) (ci := 6) (v := .int ((Rows_size v) + 1)) (ty := .int) (C := RX6) (T := TX6) (N := 3) hx hb hts k1 tyX6 tyX6_ok nmX6 hown hK hP hD hS 0 rfl rfl 2 (by decide) k0 (fun _ h9 => h9) rfl (by decide +kernel) rfl rfl (Nat.le_of_ble_eq_true rfl) dX6_add_34 (fun H locs hP hD hS => ?_)
    have hP : va_P E.1 vwCl (Rows_c E a (Rows_size_s (Rows_seconds_s (Rows_firsts_s v (upd (Rows_firsts v) ((Rows_size v)).toNatClampNeg x0)) (upd (Rows_seconds v) ((Rows_size v)).toNatClampNeg x1)) ((Rows_size v) + 1))) H := hP
    have hD : va_D A (Rows_c E a (Rows_size_s (Rows_seconds_s (Rows_firsts_s v (upd (Rows_firsts v) ((Rows_size v)).toNatClampNeg x0)) (upd (Rows_seconds v) ((Rows_size v)).toNatClampNeg x1)) ((Rows_size v) + 1))) := hD
    exact hj37 (Rows_size_s (Rows_seconds_s (Rows_firsts_s v (upd (Rows_firsts v) ((Rows_size v)).toNatClampNeg x0)) (upd (Rows_seconds v) ((Rows_size v)).toNatClampNeg x1)) ((Rows_size v) + 1)) H locs ls hF hP hD hS (lv_sub hl [0] rfl)

def fn_X6_clear (v : RowsV) : Option (Int32 × RowsV) :=
  some (0, (Rows_size_s v 0))
abbrev rmX6_clear : Room := { frames := 0, cells := 0, slots := 0, locals := 0 }
set_option maxRecDepth 100000 in
set_option maxHeartbeats 400000 in
theorem c_X6_clear (l : Launch) (E : mE) (a : RowsA) (v : RowsV) (t : (Int32 × RowsV)) (hF : fn_X6_clear v = some t) (sz : Nat) : Met l yX6_clear wsX6_clear rmX6_clear (mPm E [.ref (Rowsa_self a)] sz ((Rows_c E a v)) (([] : va_W))) (mSm E (some (.int t.1)) ((Rows_c E a t.2)) (va_A ((Rows_c E a v)) sz)) 0 0 (va_A ((Rows_c E a v)) sz) := by
  refine mOfM (cc := cX6_clear) (maxL := 1) (ret := (some .int)) (by decide) rfl (Nat.le_of_ble_eq_true rfl) ?_
  intro p e_ s m args below meth c Q A hQ CC hr hlocks hin hA hP hD hKN hGl hR0 hRA ls hl
  have hS : va_S A s.heap s.heap [] := va_S.rf
  have hK := hKN.1
  have hx := CC.1
  have hb := CC.2.1
  have hml := CC.2.2.1
  have hown : s.vm.findClass RX6 = some m.cls := CC.2.2.2.1
  have hts := CC.2.2.2.2
  have hl : lv_has ls 1 [(0, .ref (Rowsa_self a))] := hl
  have k0 := hts (.fieldLink RX6 7 "OneDidAll$Rows" "size" "I") (by decide +kernel)
  have k1 := (show ∀ w ∈ u_ws RX6 TX6 3, w ∈ wsX6_clear by decide +kernel)
  have hP : va_P E.1 vwCl (Rows_c E a v) s.heap := hP
  obtain ⟨H, hH⟩ : ∃ H, H = s.heap := ⟨_, rfl⟩
  obtain ⟨locs, hlc⟩ : ∃ z : List Loc, z = [] := ⟨_, rfl⟩
  rw [← hH] at hP
  rw [← hlc] at hS
  have hS : va_S A s.heap H locs := by rw [hH]; exact hS
  rw [← hH, ← hlc]
  unfold fn_X6_clear at hF
  refine lv_aload_n hx hb dX6_clear_0 rfl (lv_at hl 0 rfl) ?_
  refine lv_iconst (v := 0) hx hb dX6_clear_1 (by decide) ?_
  refine va_put (D := E.1) (ci := 6) (v := .int 0) (ty := .int) (C := RX6) (T := TX6) (N := 3) hx hb hts k1 tyX6 tyX6_ok nmX6 hown hK hP hD hS 0 rfl rfl 2 (by decide) k0 (fun _ h9 => h9) rfl (by decide +kernel) rfl rfl (Nat.le_of_ble_eq_true rfl) dX6_clear_2 (fun H locs hP hD hS => ?_)
  have hP : va_P E.1 vwCl (Rows_c E a (Rows_size_s v 0)) H := hP
  have hD : va_D A (Rows_c E a (Rows_size_s v 0)) := hD
  refine lv_aload_n hx hb dX6_clear_5 rfl (lv_at hl 0 rfl) ?_
  refine va_get (D := E.1) (ci := 6) (v := .int 0) (C := RX6) (T := TX6) (N := 3) hx hb hts k1 hown hK hP 0 rfl rfl 2 (by decide) k0 (fun _ h9 => h9) rfl dX6_clear_6 ?_
  have hF := Option.some.inj hF
  subst hF
  rw [hQ]
  exact W.iret hx hb hr (fun t ht _ => ⟨⟨rfl, by rw [ht]; exact hP, hD⟩, hS.F ht⟩) hS.2.2 dX6_clear_9

def st_X6_copyFrom_7 (v0 : RowsV) (rec7 : Int32 → RowsV → Option RowsV) (y2_7 : Int32) (wy_7 : RowsV) : Option RowsV :=
  (if (Rows_size v0) ≤ y2_7 then some wy_7 else (if mIn y2_7 (Rows_len v0) = true then (if mIn y2_7 (Rows_len v0) = true then (Option.bind (fn_X6_add wy_7 ((Rows_firsts v0) (y2_7).toNatClampNeg) ((Rows_seconds v0) (y2_7).toNatClampNeg)) (fun t4 => rec7 (y2_7 + 1) t4.2)) else none) else none))
def lp_X6_copyFrom_7 (v0 : RowsV) : Nat → Int32 → RowsV → Option RowsV
  | 0 => fun _ _ => none
  | n + 1 => st_X6_copyFrom_7 v0 (lp_X6_copyFrom_7 v0 n)
def fn_X6_copyFrom (v : RowsV) (v0 : RowsV) : Option RowsV :=
  lp_X6_copyFrom_7 v0 m_N 0 (Rows_size_s v 0)
abbrev rmX6_copyFrom : Room := { frames := 2, cells := 0, slots := 0, locals := 42 }
set_option maxRecDepth 100000 in
set_option maxHeartbeats 400000 in
theorem c_X6_copyFrom (l : Launch) (E : mE) (a : RowsA) (v : RowsV) (a0 : RowsA) (v0 : RowsV) (t : RowsV) (hF : fn_X6_copyFrom v v0 = some t) (sz : Nat) : Met l yX6_copyFrom wsX6_copyFrom rmX6_copyFrom (mPm E [.ref (Rowsa_self a), .ref (Rowsa_self a0)] sz (((Rows_c E a v) ++ (Rows_c E a0 v0))) (([] : va_W))) (mSm E (none) (((Rows_c E a t) ++ (Rows_c E a0 v0))) (va_A (((Rows_c E a v) ++ (Rows_c E a0 v0))) sz)) 0 0 (va_A (((Rows_c E a v) ++ (Rows_c E a0 v0))) sz) := by
  refine mOfM (cc := cX6_copyFrom) (maxL := 3) (ret := none) (by decide) rfl (Nat.le_of_ble_eq_true rfl) ?_
  intro p e_ s m args below meth c Q A hQ CC hr hlocks hin hA hP hD hKN hGl hR0 hRA ls hl
  have hS : va_S A s.heap s.heap [] := va_S.rf
  have hK := hKN.1
  have hx := CC.1
  have hb := CC.2.1
  have hml := CC.2.2.1
  have hown : s.vm.findClass RX6 = some m.cls := CC.2.2.2.1
  have hts := CC.2.2.2.2
  have hl : lv_has ls 3 [(0, .ref (Rowsa_self a)), (1, .ref (Rowsa_self a0))] := hl
  have k0 := hts (.fieldLink RX6 7 "OneDidAll$Rows" "size" "I") (by decide +kernel)
  have k1 := (show ∀ w ∈ u_ws RX6 TX6 3, w ∈ wsX6_copyFrom by decide +kernel)
  have k2 := hts (.fieldLink RX6 19 "OneDidAll$Rows" "firsts" "[I") (by decide +kernel)
  have k3 := hts (.fieldLink RX6 23 "OneDidAll$Rows" "seconds" "[I") (by decide +kernel)
  have hP : va_P E.1 vwCl ((Rows_c E a v) ++ (Rows_c E a0 v0)) s.heap := hP
  obtain ⟨H, hH⟩ : ∃ H, H = s.heap := ⟨_, rfl⟩
  obtain ⟨locs, hlc⟩ : ∃ z : List Loc, z = [] := ⟨_, rfl⟩
  rw [← hH] at hP
  rw [← hlc] at hS
  have hS : va_S A s.heap H locs := by rw [hH]; exact hS
  rw [← hH, ← hlc]
  unfold fn_X6_copyFrom at hF
  refine lv_aload_n hx hb dX6_copyFrom_0 rfl (lv_at hl 0 rfl) ?_
  refine lv_iconst (v := 0) hx hb dX6_copyFrom_1 (by decide) ?_
  refine va_put (D := E.1) (ci := 6) (v := .int 0) (ty := .int) (C := RX6) (T := TX6) (N := 3) hx hb hts k1 tyX6 tyX6_ok nmX6 hown hK hP hD hS 0 rfl rfl 2 (by decide) k0 (fun _ h9 => h9) rfl (by decide +kernel) rfl rfl (Nat.le_of_ble_eq_true rfl) dX6_copyFrom_2 (fun H locs hP hD hS => ?_)
  have hP : va_P E.1 vwCl ((Rows_c E a (Rows_size_s v 0)) ++ (Rows_c E a0 v0)) H := hP
  have hD : va_D A ((Rows_c E a (Rows_size_s v 0)) ++ (Rows_c E a0 v0)) := hD
  refine lv_iconst (v := 0) hx hb dX6_copyFrom_5 (by decide) ?_
  refine lv_istore_n (lv' := [(2, .int 0), (0, .ref (Rowsa_self a)), (1, .ref (Rowsa_self a0))]) hx hb dX6_copyFrom_6 rfl hl (by decide) rfl (fun ls hl => ?_)
  have hL7 : ∀ (n : Nat) (y2_7 : Int32) (wy_7 : RowsV) (H : Heap) (locs : List Loc) (ls : Array Slot), lp_X6_copyFrom_7 v0 n y2_7 wy_7 = some t → va_P E.1 vwCl ((Rows_c E a wy_7) ++ (Rows_c E a0 v0)) H → va_D A ((Rows_c E a wy_7) ++ (Rows_c E a0 v0)) → va_S A s.heap H locs → lv_has ls 3 [(0, .ref (Rowsa_self a)), (1, .ref (Rowsa_self a0)), (2, .int y2_7)] → W p l e_ rmX6_copyFrom s m args below meth c H locs 0 0 Q (F0 m 7 ls []) := by
    intro n
    induction n with
    | zero =>
      intro y2_7 wy_7 H locs ls hF
      exact nomatch (show (none : Option RowsV) = some t from hF)
    | succ n ih7 =>
      intro y2_7 wy_7 H locs ls hF hP hD hS hl
      have hF : st_X6_copyFrom_7 v0 (lp_X6_copyFrom_7 v0 n) y2_7 wy_7 = some t := hF
      unfold st_X6_copyFrom_7 at hF
      refine lv_iload_n hx hb dX6_copyFrom_7 rfl (lv_at hl 2 rfl) ?_
      refine lv_aload_n hx hb dX6_copyFrom_8 rfl (lv_at hl 1 rfl) ?_
      refine va_get (D := E.1) (ci := 6) (v := .int (Rows_size v0)) (C := RX6) (T := TX6) (N := 3) hx hb hts k1 hown hK hP 3 rfl rfl 2 (by decide) k0 (fun _ h9 => h9) rfl dX6_copyFrom_9 ?_
      refine lv_icmp_ge (tgt := 38) hx hb dX6_copyFrom_12 (by decide) (fun c1 => ?_) (fun c1 => ?_)
      · have hF := m_pos c1 hF
        have hF := Option.some.inj hF
        subst hF
        rw [hQ]
        exact W.vret hx hb hr (fun t ht _ => ⟨⟨rfl, by rw [ht]; exact hP, hD⟩, hS.F ht⟩) hS.2.2 dX6_copyFrom_38
      · have hF := m_neg c1 hF
        refine lv_aload_n hx hb dX6_copyFrom_15 rfl (lv_at hl 0 rfl) ?_
        refine lv_aload_n hx hb dX6_copyFrom_16 rfl (lv_at hl 1 rfl) ?_
        refine va_get (D := E.1) (ci := 6) (v := .ref (Rowsa_firsts a0)) (C := RX6) (T := TX6) (N := 3) hx hb hts k1 hown hK hP 3 rfl rfl 0 (by decide) k2 (fun _ h9 => h9) rfl dX6_copyFrom_17 ?_
        refine lv_iload_n hx hb dX6_copyFrom_20 rfl (lv_at hl 2 rfl) ?_
        obtain ⟨h2, hF⟩ := m_chk hF
        refine va_iald (f := (Rows_firsts v0)) hx hb hK hP 4 1 rfl rfl (mIn_ok h2) dX6_copyFrom_21 ?_
        refine W.eq (g2 := F0 m 22 ls [.int ((Rows_firsts v0) (y2_7).toNatClampNeg), .ref (Rowsa_self a)]) rfl ?_
        refine lv_aload_n hx hb dX6_copyFrom_22 rfl (lv_at hl 1 rfl) ?_
        refine va_get (D := E.1) (ci := 6) (v := .ref (Rowsa_seconds a0)) (C := RX6) (T := TX6) (N := 3) hx hb hts k1 hown hK hP 3 rfl rfl 1 (by decide) k3 (fun _ h9 => h9) rfl dX6_copyFrom_23 ?_
        refine lv_iload_n hx hb dX6_copyFrom_26 rfl (lv_at hl 2 rfl) ?_
        obtain ⟨h3, hF⟩ := m_chk hF
        refine va_iald (f := (Rows_seconds v0)) hx hb hK hP 5 1 rfl rfl (mIn_ok h3) dX6_copyFrom_27 ?_
        refine W.eq (g2 := F0 m 28 ls [.int ((Rows_seconds v0) (y2_7).toNatClampNeg), .int ((Rows_firsts v0) (y2_7).toNatClampNeg), .ref (Rowsa_self a)]) rfl ?_
        obtain ⟨t4, ht4, hF⟩ := m_bnd hF
        have hpm : List.Perm ((Rows_c E a wy_7) ++ (Rows_c E a0 v0)) ((Rows_c E a wy_7) ++ ((List.take 0 ((Rows_c E a wy_7) ++ (Rows_c E a0 v0))) ++ (List.drop 3 ((Rows_c E a wy_7) ++ (Rows_c E a0 v0))))) := m_p1 (A := (List.take 0 ((Rows_c E a wy_7) ++ (Rows_c E a0 v0)))) (m := (Rows_c E a wy_7)) (C := (List.drop 3 ((Rows_c E a wy_7) ++ (Rows_c E a0 v0))))
        obtain ⟨hPc, hDc, hFc⟩ := m_pre hpm hP hD hS hA
        refine mVM (ci := 6) (n := 2) (rest := []) (As := [.int ((Rows_firsts v0) (y2_7).toNatClampNeg), .int ((Rows_seconds v0) (y2_7).toNatClampNeg)]) CC hKN hGl (c_X6_add l E a wy_7 ((Rows_firsts v0) (y2_7).toNatClampNeg) ((Rows_seconds v0) (y2_7).toNatClampNeg) t4 ht4 _) gX6_copyFrom_X6_add rfl ⟨rfl, rfl⟩ (by decide +kernel) ⟨Nat.le_of_ble_eq_true rfl, Nat.le_of_ble_eq_true rfl⟩ hPc hDc m_nil m_nilA hS hFc rfl rfl rfl rfl hl.1 rfl (Nat.le_of_ble_eq_true rfl) ⟨Nat.zero_le _, Nat.zero_le _⟩ dX6_copyFrom_28 (fun H1 locs hP1 hD1 hz1 hk1 hS => ?_)
        have hpn : List.Perm ((Rows_c E a t4.2) ++ (Rows_c E a0 v0)) ((Rows_c E a t4.2) ++ ((List.take 0 ((Rows_c E a wy_7) ++ (Rows_c E a0 v0))) ++ (List.drop 3 ((Rows_c E a wy_7) ++ (Rows_c E a0 v0))))) := m_p1 (A := (List.take 0 ((Rows_c E a wy_7) ++ (Rows_c E a0 v0)))) (m := (Rows_c E a t4.2)) (C := (List.drop 3 ((Rows_c E a wy_7) ++ (Rows_c E a0 v0))))
        obtain ⟨hP, hD⟩ := m_spl hpm hpn hP hD hk1 hFc hP1 hD1
        generalize H1 = H at hP hS ⊢
        refine W.eq (g2 := F0 m 31 ls [.int t4.1]) rfl ?_
        refine lv_pop hx hb dX6_copyFrom_31 rfl ?_
        refine lv_iinc (v := (y2_7 + 1)) (lv' := [(2, .int (y2_7 + 1)), (0, .ref (Rowsa_self a)), (1, .ref (Rowsa_self a0))]) hx hb dX6_copyFrom_32 hl (k := 2) rfl rfl (by decide) rfl (fun ls hl => ?_)
        refine lv_goto (tgt := 7) hx hb dX6_copyFrom_35 (by decide) ?_
        exact ih7 (y2_7 + 1) t4.2 H locs ls hF hP hD hS (lv_sub hl [1, 2, 0] rfl)
  exact hL7 m_N 0 (Rows_size_s v 0) H locs ls hF hP hD hS (lv_sub hl [1, 2, 0] rfl)

def fn_X7_feed (v : OneV) (x0 : Int32) : Option (Int32 × OneV) :=
  (if x0 < 0 then some ((-2), v) else (if x0 ≤ 127 then (if (Room_signs (One_now v)) < 100 then (if mIn (Room_signs (One_now v)) 100 = true then some (((Room_signs (One_now v)) + 1), (One_now_s v (Room_signs_s (Room_tape_s (One_now v) (upd (Room_tape (One_now v)) ((Room_signs (One_now v))).toNatClampNeg (vp_nar .byte (x0).toInt8.toInt32))) ((Room_signs (One_now v)) + 1)))) else none) else some ((-4), v)) else some ((-2), v)))
abbrev rmX7_feed : Room := { frames := 0, cells := 0, slots := 0, locals := 0 }
set_option maxRecDepth 100000 in
set_option maxHeartbeats 400000 in
theorem c_X7_feed (l : Launch) (E : mE) (a : OneA) (v : OneV) (x0 : Int32) (t : (Int32 × OneV)) (hF : fn_X7_feed v x0 = some t) (sz : Nat) : Met l yX7_feed wsX7_feed rmX7_feed (mPm E [.ref (Onea_self a), .int x0] sz ((One_c E a v)) (([] : va_W))) (mSm E (some (.int t.1)) ((One_c E a t.2)) (va_A ((One_c E a v)) sz)) 0 0 (va_A ((One_c E a v)) sz) := by
  refine mOfM (cc := cX7_feed) (maxL := 2) (ret := (some .int)) (by decide) rfl (Nat.le_of_ble_eq_true rfl) ?_
  intro p e_ s m args below meth c Q A hQ CC hr hlocks hin hA hP hD hKN hGl hR0 hRA ls hl
  have hS : va_S A s.heap s.heap [] := va_S.rf
  have hK := hKN.1
  have hx := CC.1
  have hb := CC.2.1
  have hml := CC.2.2.1
  have hown : s.vm.findClass RX7 = some m.cls := CC.2.2.2.1
  have hts := CC.2.2.2.2
  have hl : lv_has ls 2 [(0, .ref (Onea_self a)), (1, .int x0)] := hl
  have k0 := hts (.fieldLink RX7 12 "OneDidAll" "now" "LOneDidAll$Room;") (by decide +kernel)
  have k1 := (show ∀ w ∈ u_ws RX7 TX7 5, w ∈ wsX7_feed by decide +kernel)
  have k2 := (va_Nw.use rfl (hKN.2.1 ("OneDidAll", 39, "OneDidAll$Room", "signs", "I", "OneDidAll") (by decide +kernel)) : (Cond.fieldLinkNest "OneDidAll" 39 "OneDidAll$Room" "signs" "I" "OneDidAll").before args s = true)
  have k3 := (show ∀ w ∈ u_ws RX5 TX5 9, w ∈ wsX7_feed by decide +kernel)
  have k4 := (va_Nw.use rfl (hKN.2.1 ("OneDidAll", 43, "OneDidAll$Room", "tape", "[B", "OneDidAll") (by decide +kernel)) : (Cond.fieldLinkNest "OneDidAll" 43 "OneDidAll$Room" "tape" "[B" "OneDidAll").before args s = true)
  have hP : va_P E.1 vwCl (One_c E a v) s.heap := hP
  obtain ⟨H, hH⟩ : ∃ H, H = s.heap := ⟨_, rfl⟩
  obtain ⟨locs, hlc⟩ : ∃ z : List Loc, z = [] := ⟨_, rfl⟩
  rw [← hH] at hP
  rw [← hlc] at hS
  have hS : va_S A s.heap H locs := by rw [hH]; exact hS
  rw [← hH, ← hlc]
  unfold fn_X7_feed at hF
  refine lv_iload_n hx hb dX7_feed_0 rfl (lv_at hl 1 rfl) ?_
  refine lv_if_lt (tgt := 10) hx hb dX7_feed_1 (by decide) (fun c1 => ?_) (fun c1 => ?_)
  · have hF := m_pos c1 hF
    refine lv_bipush (v := (-2)) hx hb dX7_feed_10 (by decide) ?_
    have hF := Option.some.inj hF
    subst hF
    rw [hQ]
    exact W.iret hx hb hr (fun t ht _ => ⟨⟨rfl, by rw [ht]; exact hP, hD⟩, hS.F ht⟩) hS.2.2 dX7_feed_12
  · have hF := m_neg c1 hF
    refine lv_iload_n hx hb dX7_feed_4 rfl (lv_at hl 1 rfl) ?_
    refine lv_bipush (v := 127) hx hb dX7_feed_5 (by decide) ?_
    refine lv_icmp_le (tgt := 13) hx hb dX7_feed_7 (by decide) (fun c2 => ?_) (fun c2 => ?_)
    · have hF := m_pos c2 hF
      refine lv_aload_n hx hb dX7_feed_13 rfl (lv_at hl 0 rfl) ?_
      refine va_get (D := E.1) (ci := 7) (v := .ref (Rooma_self (Onea_now a))) (C := RX7) (T := TX7) (N := 5) hx hb hts k1 hown hK hP 0 rfl rfl 0 (by decide) k0 (fun _ h9 => h9) rfl dX7_feed_14 ?_
      refine va_getN (D := E.1) (ci := 5) (v := .int (Room_signs (One_now v))) (C := RX5) (T := TX5) (N := 9) hx hb hts k3 hown hK hP 1 rfl rfl 2 (by decide) k2 (fun _ h9 => h9) rfl dX7_feed_17 ?_
      refine lv_bipush (v := 100) hx hb dX7_feed_20 (by decide) ?_
      refine lv_icmp_lt (tgt := 28) hx hb dX7_feed_22 (by decide) (fun c3 => ?_) (fun c3 => ?_)
      · have hF := m_pos c3 hF
        refine lv_aload_n hx hb dX7_feed_28 rfl (lv_at hl 0 rfl) ?_
        refine va_get (D := E.1) (ci := 7) (v := .ref (Rooma_self (Onea_now a))) (C := RX7) (T := TX7) (N := 5) hx hb hts k1 hown hK hP 0 rfl rfl 0 (by decide) k0 (fun _ h9 => h9) rfl dX7_feed_29 ?_
        refine va_getN (D := E.1) (ci := 5) (v := .ref (Rooma_tape (Onea_now a))) (C := RX5) (T := TX5) (N := 9) hx hb hts k3 hown hK hP 1 rfl rfl 1 (by decide) k4 (fun _ h9 => h9) rfl dX7_feed_32 ?_
        refine lv_aload_n hx hb dX7_feed_35 rfl (lv_at hl 0 rfl) ?_
        refine va_get (D := E.1) (ci := 7) (v := .ref (Rooma_self (Onea_now a))) (C := RX7) (T := TX7) (N := 5) hx hb hts k1 hown hK hP 0 rfl rfl 0 (by decide) k0 (fun _ h9 => h9) rfl dX7_feed_36 ?_
        refine va_getN (D := E.1) (ci := 5) (v := .int (Room_signs (One_now v))) (C := RX5) (T := TX5) (N := 9) hx hb hts k3 hown hK hP 1 rfl rfl 2 (by decide) k2 (fun _ h9 => h9) rfl dX7_feed_39 ?_
        refine lv_iload_n hx hb dX7_feed_42 rfl (lv_at hl 1 rfl) ?_
        refine lv_i2b (v := (x0).toInt8.toInt32) hx hb dX7_feed_43 rfl ?_
        obtain ⟨h4, hF⟩ := m_chk hF
        refine va_bast (f := (Room_tape (One_now v))) hx hb hK hP hD hS 11 0 rfl rfl (mIn_ok h4) dX7_feed_44 (fun H locs hP hD hS => ?_)
        have hP : va_P E.1 vwCl (One_c E a (One_now_s v (Room_tape_s (One_now v) (upd (Room_tape (One_now v)) ((Room_signs (One_now v))).toNatClampNeg (vp_nar .byte (x0).toInt8.toInt32))))) H := hP
        have hD : va_D A (One_c E a (One_now_s v (Room_tape_s (One_now v) (upd (Room_tape (One_now v)) ((Room_signs (One_now v))).toNatClampNeg (vp_nar .byte (x0).toInt8.toInt32))))) := hD
        refine lv_aload_n hx hb dX7_feed_45 rfl (lv_at hl 0 rfl) ?_
        refine va_get (D := E.1) (ci := 7) (v := .ref (Rooma_self (Onea_now a))) (C := RX7) (T := TX7) (N := 5) hx hb hts k1 hown hK hP 0 rfl rfl 0 (by decide) k0 (fun _ h9 => h9) rfl dX7_feed_46 ?_
        refine lv_dup hx hb dX7_feed_49 rfl ?_
        refine va_getN (D := E.1) (ci := 5) (v := .int (Room_signs (One_now v))) (C := RX5) (T := TX5) (N := 9) hx hb hts k3 hown hK hP 1 rfl rfl 2 (by decide) k2 (fun _ h9 => h9) rfl dX7_feed_50 ?_
        refine lv_iconst (v := 1) hx hb dX7_feed_53 (by decide) ?_
        refine lv_iadd hx hb dX7_feed_54 ?_
        refine va_putN (D := E.1) (ci := 5) (v := .int ((Room_signs (One_now v)) + 1)) (ty := .int) (C := RX5) (T := TX5) (N := 9) hx hb hts k3 tyX5 tyX5_ok nmX5 hown hK hP hD hS 1 rfl rfl 2 (by decide) k2 (fun _ h9 => h9) rfl (by decide +kernel) rfl rfl (Nat.le_of_ble_eq_true rfl) dX7_feed_55 (fun H locs hP hD hS => ?_)
        have hP : va_P E.1 vwCl (One_c E a (One_now_s v (Room_signs_s (Room_tape_s (One_now v) (upd (Room_tape (One_now v)) ((Room_signs (One_now v))).toNatClampNeg (vp_nar .byte (x0).toInt8.toInt32))) ((Room_signs (One_now v)) + 1)))) H := hP
        have hD : va_D A (One_c E a (One_now_s v (Room_signs_s (Room_tape_s (One_now v) (upd (Room_tape (One_now v)) ((Room_signs (One_now v))).toNatClampNeg (vp_nar .byte (x0).toInt8.toInt32))) ((Room_signs (One_now v)) + 1)))) := hD
        refine lv_aload_n hx hb dX7_feed_58 rfl (lv_at hl 0 rfl) ?_
        refine va_get (D := E.1) (ci := 7) (v := .ref (Rooma_self (Onea_now a))) (C := RX7) (T := TX7) (N := 5) hx hb hts k1 hown hK hP 0 rfl rfl 0 (by decide) k0 (fun _ h9 => h9) rfl dX7_feed_59 ?_
        refine va_getN (D := E.1) (ci := 5) (v := .int ((Room_signs (One_now v)) + 1)) (C := RX5) (T := TX5) (N := 9) hx hb hts k3 hown hK hP 1 rfl rfl 2 (by decide) k2 (fun _ h9 => h9) rfl dX7_feed_62 ?_
        have hF := Option.some.inj hF
        subst hF
        rw [hQ]
        exact W.iret hx hb hr (fun t ht _ => ⟨⟨rfl, by rw [ht]; exact hP, hD⟩, hS.F ht⟩) hS.2.2 dX7_feed_65
      · have hF := m_neg c3 hF
        refine lv_bipush (v := (-4)) hx hb dX7_feed_25 (by decide) ?_
        have hF := Option.some.inj hF
        subst hF
        rw [hQ]
        exact W.iret hx hb hr (fun t ht _ => ⟨⟨rfl, by rw [ht]; exact hP, hD⟩, hS.F ht⟩) hS.2.2 dX7_feed_27
    · have hF := m_neg c2 hF
      refine lv_bipush (v := (-2)) hx hb dX7_feed_10 (by decide) ?_
      have hF := Option.some.inj hF
      subst hF
      rw [hQ]
      exact W.iret hx hb hr (fun t ht _ => ⟨⟨rfl, by rw [ht]; exact hP, hD⟩, hS.F ht⟩) hS.2.2 dX7_feed_12

def fn_X7_see (v : OneV) (x0 : Int32) (x1 : Int32) : Option (Int32 × OneV) :=
  (if ¬ x0 = (-1) then (if x0 < 0 then some ((-2), v) else (if 99999 < x0 then some ((-2), v) else (if x1 < 0 then some ((-2), v) else (if x1 ≤ 20 then (Option.bind (fn_X6_isFull (Room_seen (One_now v))) (fun t6 => (if t6 = 0 then (Option.bind (fn_X6_add (Room_seen (One_now v)) x0 x1) (fun t8 => some (t8.1, (One_now_s v (Room_seen_s (One_now v) t8.2))))) else some ((-4), v)))) else some ((-2), v))))) else (Option.bind (fn_X6_clear (Room_seen (One_now v))) (fun t9 => some (t9.1, (One_now_s v (Room_seen_s (One_now v) t9.2))))))
abbrev rmX7_see : Room := { frames := 2, cells := 0, slots := 0, locals := 42 }
set_option maxRecDepth 100000 in
set_option maxHeartbeats 400000 in
theorem c_X7_see (l : Launch) (E : mE) (a : OneA) (v : OneV) (x0 : Int32) (x1 : Int32) (t : (Int32 × OneV)) (hF : fn_X7_see v x0 x1 = some t) (sz : Nat) : Met l yX7_see wsX7_see rmX7_see (mPm E [.ref (Onea_self a), .int x0, .int x1] sz ((One_c E a v)) (([] : va_W))) (mSm E (some (.int t.1)) ((One_c E a t.2)) (va_A ((One_c E a v)) sz)) 0 0 (va_A ((One_c E a v)) sz) := by
  refine mOfM (cc := cX7_see) (maxL := 3) (ret := (some .int)) (by decide) rfl (Nat.le_of_ble_eq_true rfl) ?_
  intro p e_ s m args below meth c Q A hQ CC hr hlocks hin hA hP hD hKN hGl hR0 hRA ls hl
  have hS : va_S A s.heap s.heap [] := va_S.rf
  have hK := hKN.1
  have hx := CC.1
  have hb := CC.2.1
  have hml := CC.2.2.1
  have hown : s.vm.findClass RX7 = some m.cls := CC.2.2.2.1
  have hts := CC.2.2.2.2
  have hl : lv_has ls 3 [(0, .ref (Onea_self a)), (1, .int x0), (2, .int x1)] := hl
  have k0 := hts (.constant RX7 232 (99999)) (by decide +kernel)
  have k1 := hts (.fieldLink RX7 12 "OneDidAll" "now" "LOneDidAll$Room;") (by decide +kernel)
  have k2 := (show ∀ w ∈ u_ws RX7 TX7 5, w ∈ wsX7_see by decide +kernel)
  have k3 := (va_Nw.use rfl (hKN.2.1 ("OneDidAll", 223, "OneDidAll$Room", "seen", "LOneDidAll$Rows;", "OneDidAll") (by decide +kernel)) : (Cond.fieldLinkNest "OneDidAll" 223 "OneDidAll$Room" "seen" "LOneDidAll$Rows;" "OneDidAll").before args s = true)
  have k4 := (show ∀ w ∈ u_ws RX5 TX5 9, w ∈ wsX7_see by decide +kernel)
  have hP : va_P E.1 vwCl (One_c E a v) s.heap := hP
  obtain ⟨H, hH⟩ : ∃ H, H = s.heap := ⟨_, rfl⟩
  obtain ⟨locs, hlc⟩ : ∃ z : List Loc, z = [] := ⟨_, rfl⟩
  rw [← hH] at hP
  rw [← hlc] at hS
  have hS : va_S A s.heap H locs := by rw [hH]; exact hS
  rw [← hH, ← hlc]
  unfold fn_X7_see at hF
  refine lv_iload_n hx hb dX7_see_0 rfl (lv_at hl 1 rfl) ?_
  refine lv_iconst (v := (-1)) hx hb dX7_see_1 (by decide) ?_
  refine lv_icmp_ne (tgt := 16) hx hb dX7_see_2 (by decide) (fun c1 => ?_) (fun c1 => ?_)
  · have hF := m_pos c1 hF
    refine lv_iload_n hx hb dX7_see_16 rfl (lv_at hl 1 rfl) ?_
    refine lv_if_lt (tgt := 36) hx hb dX7_see_17 (by decide) (fun c2 => ?_) (fun c2 => ?_)
    · have hF := m_pos c2 hF
      refine lv_bipush (v := (-2)) hx hb dX7_see_36 (by decide) ?_
      have hF := Option.some.inj hF
      subst hF
      rw [hQ]
      exact W.iret hx hb hr (fun t ht _ => ⟨⟨rfl, by rw [ht]; exact hP, hD⟩, hS.F ht⟩) hS.2.2 dX7_see_38
    · have hF := m_neg c2 hF
      refine lv_iload_n hx hb dX7_see_20 rfl (lv_at hl 1 rfl) ?_
      refine lv_ldc (v := 99999) hx hb hown k0 dX7_see_21 ?_
      refine lv_icmp_gt (tgt := 36) hx hb dX7_see_23 (by decide) (fun c3 => ?_) (fun c3 => ?_)
      · have hF := m_pos c3 hF
        refine lv_bipush (v := (-2)) hx hb dX7_see_36 (by decide) ?_
        have hF := Option.some.inj hF
        subst hF
        rw [hQ]
        exact W.iret hx hb hr (fun t ht _ => ⟨⟨rfl, by rw [ht]; exact hP, hD⟩, hS.F ht⟩) hS.2.2 dX7_see_38
      · have hF := m_neg c3 hF
        refine lv_iload_n hx hb dX7_see_26 rfl (lv_at hl 2 rfl) ?_
        refine lv_if_lt (tgt := 36) hx hb dX7_see_27 (by decide) (fun c4 => ?_) (fun c4 => ?_)
        · have hF := m_pos c4 hF
          refine lv_bipush (v := (-2)) hx hb dX7_see_36 (by decide) ?_
          have hF := Option.some.inj hF
          subst hF
          rw [hQ]
          exact W.iret hx hb hr (fun t ht _ => ⟨⟨rfl, by rw [ht]; exact hP, hD⟩, hS.F ht⟩) hS.2.2 dX7_see_38
        · have hF := m_neg c4 hF
          refine lv_iload_n hx hb dX7_see_30 rfl (lv_at hl 2 rfl) ?_
          refine lv_bipush (v := 20) hx hb dX7_see_31 (by decide) ?_
          refine lv_icmp_le (tgt := 39) hx hb dX7_see_33 (by decide) (fun c5 => ?_) (fun c5 => ?_)
          · have hF := m_pos c5 hF
            refine lv_aload_n hx hb dX7_see_39 rfl (lv_at hl 0 rfl) ?_
            refine va_get (D := E.1) (ci := 7) (v := .ref (Rooma_self (Onea_now a))) (C := RX7) (T := TX7) (N := 5) hx hb hts k2 hown hK hP 0 rfl rfl 0 (by decide) k1 (fun _ h9 => h9) rfl dX7_see_40 ?_
            refine va_getN (D := E.1) (ci := 5) (v := .ref (Rowsa_self (Rooma_seen (Onea_now a)))) (C := RX5) (T := TX5) (N := 9) hx hb hts k4 hown hK hP 1 rfl rfl 6 (by decide) k3 (fun _ h9 => h9) rfl dX7_see_43 ?_
            obtain ⟨t6, ht6, hF⟩ := m_bnd hF
            have hPc := m_cutP (mid := (Rows_c E (Rooma_seen (Onea_now a)) (Room_seen (One_now v)))) hP 13 3 rfl
            refine mVP (ci := 6) (n := 0) (rest := []) (As := []) CC hKN hGl hS (c_X6_isFull l E (Rooma_seen (Onea_now a)) (Room_seen (One_now v)) t6 ht6) gX7_see_X6_isFull rfl ⟨rfl, rfl⟩ (by decide +kernel) ⟨Nat.le_of_ble_eq_true rfl, Nat.le_of_ble_eq_true rfl⟩ hPc rfl rfl rfl rfl hl.1 rfl (Nat.le_of_ble_eq_true rfl) ⟨Nat.zero_le _, Nat.zero_le _⟩ dX7_see_46 ?_
            refine W.eq (g2 := F0 m 49 ls [.int t6]) rfl ?_
            refine lv_if_eq (tgt := 55) hx hb dX7_see_49 (by decide) (fun c7 => ?_) (fun c7 => ?_)
            · have hF := m_pos c7 hF
              refine lv_aload_n hx hb dX7_see_55 rfl (lv_at hl 0 rfl) ?_
              refine va_get (D := E.1) (ci := 7) (v := .ref (Rooma_self (Onea_now a))) (C := RX7) (T := TX7) (N := 5) hx hb hts k2 hown hK hP 0 rfl rfl 0 (by decide) k1 (fun _ h9 => h9) rfl dX7_see_56 ?_
              refine va_getN (D := E.1) (ci := 5) (v := .ref (Rowsa_self (Rooma_seen (Onea_now a)))) (C := RX5) (T := TX5) (N := 9) hx hb hts k4 hown hK hP 1 rfl rfl 6 (by decide) k3 (fun _ h9 => h9) rfl dX7_see_59 ?_
              refine lv_iload_n hx hb dX7_see_62 rfl (lv_at hl 1 rfl) ?_
              refine lv_iload_n hx hb dX7_see_63 rfl (lv_at hl 2 rfl) ?_
              obtain ⟨t8, ht8, hF⟩ := m_bnd hF
              have hpm : List.Perm (One_c E a v) ((Rows_c E (Rooma_seen (Onea_now a)) (Room_seen (One_now v))) ++ ((List.take 13 (One_c E a v)) ++ (List.drop 16 (One_c E a v)))) := m_p1 (A := (List.take 13 (One_c E a v))) (m := (Rows_c E (Rooma_seen (Onea_now a)) (Room_seen (One_now v)))) (C := (List.drop 16 (One_c E a v)))
              obtain ⟨hPc, hDc, hFc⟩ := m_pre hpm hP hD hS hA
              refine mVM (ci := 6) (n := 2) (rest := []) (As := [.int x0, .int x1]) CC hKN hGl (c_X6_add l E (Rooma_seen (Onea_now a)) (Room_seen (One_now v)) x0 x1 t8 ht8 _) gX7_see_X6_add rfl ⟨rfl, rfl⟩ (by decide +kernel) ⟨Nat.le_of_ble_eq_true rfl, Nat.le_of_ble_eq_true rfl⟩ hPc hDc m_nil m_nilA hS hFc rfl rfl rfl rfl hl.1 rfl (Nat.le_of_ble_eq_true rfl) ⟨Nat.zero_le _, Nat.zero_le _⟩ dX7_see_64 (fun H1 locs hP1 hD1 hz1 hk1 hS => ?_)
              have hpn : List.Perm (One_c E a (One_now_s v (Room_seen_s (One_now v) t8.2))) ((Rows_c E (Rooma_seen (Onea_now a)) t8.2) ++ ((List.take 13 (One_c E a v)) ++ (List.drop 16 (One_c E a v)))) := m_p1 (A := (List.take 13 (One_c E a v))) (m := (Rows_c E (Rooma_seen (Onea_now a)) t8.2)) (C := (List.drop 16 (One_c E a v)))
              obtain ⟨hP, hD⟩ := m_spl hpm hpn hP hD hk1 hFc hP1 hD1
              generalize H1 = H at hP hS ⊢
              refine W.eq (g2 := F0 m 67 ls [.int t8.1]) rfl ?_
              have hF := Option.some.inj hF
              subst hF
              rw [hQ]
              exact W.iret hx hb hr (fun t ht _ => ⟨⟨rfl, by rw [ht]; exact hP, hD⟩, hS.F ht⟩) hS.2.2 dX7_see_67
            · have hF := m_neg c7 hF
              refine lv_bipush (v := (-4)) hx hb dX7_see_52 (by decide) ?_
              have hF := Option.some.inj hF
              subst hF
              rw [hQ]
              exact W.iret hx hb hr (fun t ht _ => ⟨⟨rfl, by rw [ht]; exact hP, hD⟩, hS.F ht⟩) hS.2.2 dX7_see_54
          · have hF := m_neg c5 hF
            refine lv_bipush (v := (-2)) hx hb dX7_see_36 (by decide) ?_
            have hF := Option.some.inj hF
            subst hF
            rw [hQ]
            exact W.iret hx hb hr (fun t ht _ => ⟨⟨rfl, by rw [ht]; exact hP, hD⟩, hS.F ht⟩) hS.2.2 dX7_see_38
  · have hF := m_neg (fun n9 => n9 c1) hF
    refine lv_aload_n hx hb dX7_see_5 rfl (lv_at hl 0 rfl) ?_
    refine va_get (D := E.1) (ci := 7) (v := .ref (Rooma_self (Onea_now a))) (C := RX7) (T := TX7) (N := 5) hx hb hts k2 hown hK hP 0 rfl rfl 0 (by decide) k1 (fun _ h9 => h9) rfl dX7_see_6 ?_
    refine va_getN (D := E.1) (ci := 5) (v := .ref (Rowsa_self (Rooma_seen (Onea_now a)))) (C := RX5) (T := TX5) (N := 9) hx hb hts k4 hown hK hP 1 rfl rfl 6 (by decide) k3 (fun _ h9 => h9) rfl dX7_see_9 ?_
    obtain ⟨t9, ht9, hF⟩ := m_bnd hF
    have hpm : List.Perm (One_c E a v) ((Rows_c E (Rooma_seen (Onea_now a)) (Room_seen (One_now v))) ++ ((List.take 13 (One_c E a v)) ++ (List.drop 16 (One_c E a v)))) := m_p1 (A := (List.take 13 (One_c E a v))) (m := (Rows_c E (Rooma_seen (Onea_now a)) (Room_seen (One_now v)))) (C := (List.drop 16 (One_c E a v)))
    obtain ⟨hPc, hDc, hFc⟩ := m_pre hpm hP hD hS hA
    refine mVM (ci := 6) (n := 0) (rest := []) (As := []) CC hKN hGl (c_X6_clear l E (Rooma_seen (Onea_now a)) (Room_seen (One_now v)) t9 ht9 _) gX7_see_X6_clear rfl ⟨rfl, rfl⟩ (by decide +kernel) ⟨Nat.le_of_ble_eq_true rfl, Nat.le_of_ble_eq_true rfl⟩ hPc hDc m_nil m_nilA hS hFc rfl rfl rfl rfl hl.1 rfl (Nat.le_of_ble_eq_true rfl) ⟨Nat.zero_le _, Nat.zero_le _⟩ dX7_see_12 (fun H1 locs hP1 hD1 hz1 hk1 hS => ?_)
    have hpn : List.Perm (One_c E a (One_now_s v (Room_seen_s (One_now v) t9.2))) ((Rows_c E (Rooma_seen (Onea_now a)) t9.2) ++ ((List.take 13 (One_c E a v)) ++ (List.drop 16 (One_c E a v)))) := m_p1 (A := (List.take 13 (One_c E a v))) (m := (Rows_c E (Rooma_seen (Onea_now a)) t9.2)) (C := (List.drop 16 (One_c E a v)))
    obtain ⟨hP, hD⟩ := m_spl hpm hpn hP hD hk1 hFc hP1 hD1
    generalize H1 = H at hP hS ⊢
    refine W.eq (g2 := F0 m 15 ls [.int t9.1]) rfl ?_
    have hF := Option.some.inj hF
    subst hF
    rw [hQ]
    exact W.iret hx hb hr (fun t ht _ => ⟨⟨rfl, by rw [ht]; exact hP, hD⟩, hS.F ht⟩) hS.2.2 dX7_see_15

def fn_X7_trace (v : OneV) (x0 : Int32) : Option Int32 :=
  (if x0 < 0 then some (-1) else (if (Acts_ran (One_acts v)) ≤ x0 then some (-1) else (if x0 < 20 then (if mIn x0 20 = true then some ((Acts_kept (One_acts v)) (x0).toNatClampNeg) else none) else some (-1))))
abbrev rmX7_trace : Room := { frames := 0, cells := 0, slots := 0, locals := 0 }
set_option maxRecDepth 100000 in
set_option maxHeartbeats 400000 in
theorem c_X7_trace (l : Launch) (E : mE) (a : OneA) (v : OneV) (x0 : Int32) (t : Int32) (hF : fn_X7_trace v x0 = some t) : Met l yX7_trace wsX7_trace rmX7_trace (mPp E [.ref (Onea_self a), .int x0] (One_c E a v)) (mSp (some (.int t))) 0 0 (fun _ => False) := by
  refine mOfP (cc := cX7_trace) (maxL := 2) (ret := (some .int)) (by decide) rfl (Nat.le_of_ble_eq_true rfl) ?_
  intro p e_ s m args below meth c Q hQ CC hr hlocks hP hKN hGl ls hl
  have hS : va_S (fun _ => False) s.heap s.heap [] := va_S.rf
  have hK := hKN.1
  have hx := CC.1
  have hb := CC.2.1
  have hml := CC.2.2.1
  have hown : s.vm.findClass RX7 = some m.cls := CC.2.2.2.1
  have hts := CC.2.2.2.2
  have hl : lv_has ls 2 [(0, .ref (Onea_self a)), (1, .int x0)] := hl
  have k0 := hts (.fieldLink RX7 35 "OneDidAll" "acts" "LOneDidAll$Acts;") (by decide +kernel)
  have k1 := (show ∀ w ∈ u_ws RX7 TX7 5, w ∈ wsX7_trace by decide +kernel)
  have k2 := (va_Nw.use rfl (hKN.2.1 ("OneDidAll", 262, "OneDidAll$Acts", "ran", "I", "OneDidAll") (by decide +kernel)) : (Cond.fieldLinkNest "OneDidAll" 262 "OneDidAll$Acts" "ran" "I" "OneDidAll").before args s = true)
  have k3 := (show ∀ w ∈ u_ws RX0 TX0 5, w ∈ wsX7_trace by decide +kernel)
  have k4 := (va_Nw.use rfl (hKN.2.1 ("OneDidAll", 283, "OneDidAll$Acts", "kept", "[I", "OneDidAll") (by decide +kernel)) : (Cond.fieldLinkNest "OneDidAll" 283 "OneDidAll$Acts" "kept" "[I" "OneDidAll").before args s = true)
  unfold fn_X7_trace at hF
  refine lv_iload_n hx hb dX7_trace_0 rfl (lv_at hl 1 rfl) ?_
  refine lv_if_lt (tgt := 21) hx hb dX7_trace_1 (by decide) (fun c1 => ?_) (fun c1 => ?_)
  · have hF := m_pos c1 hF
    refine lv_iconst (v := (-1)) hx hb dX7_trace_21 (by decide) ?_
    have hF := Option.some.inj hF
    subst hF
    rw [hQ]
    exact W.iret hx hb hr (fun t ht _ => ⟨rfl, ht⟩) (fun _ h => by cases h) dX7_trace_22
  · have hF := m_neg c1 hF
    refine lv_iload_n hx hb dX7_trace_4 rfl (lv_at hl 1 rfl) ?_
    refine lv_aload_n hx hb dX7_trace_5 rfl (lv_at hl 0 rfl) ?_
    refine va_get (D := E.1) (ci := 7) (v := .ref (Actsa_self (Onea_acts a))) (C := RX7) (T := TX7) (N := 5) hx hb hts k1 hown hK hP 0 rfl rfl 4 (by decide) k0 (fun _ h9 => h9) rfl dX7_trace_6 ?_
    refine va_getN (D := E.1) (ci := 0) (v := .int (Acts_ran (One_acts v))) (C := RX0) (T := TX0) (N := 5) hx hb hts k3 hown hK hP 62 rfl rfl 1 (by decide) k2 (fun _ h9 => h9) rfl dX7_trace_9 ?_
    refine lv_icmp_ge (tgt := 21) hx hb dX7_trace_12 (by decide) (fun c2 => ?_) (fun c2 => ?_)
    · have hF := m_pos c2 hF
      refine lv_iconst (v := (-1)) hx hb dX7_trace_21 (by decide) ?_
      have hF := Option.some.inj hF
      subst hF
      rw [hQ]
      exact W.iret hx hb hr (fun t ht _ => ⟨rfl, ht⟩) (fun _ h => by cases h) dX7_trace_22
    · have hF := m_neg c2 hF
      refine lv_iload_n hx hb dX7_trace_15 rfl (lv_at hl 1 rfl) ?_
      refine lv_bipush (v := 20) hx hb dX7_trace_16 (by decide) ?_
      refine lv_icmp_lt (tgt := 23) hx hb dX7_trace_18 (by decide) (fun c3 => ?_) (fun c3 => ?_)
      · have hF := m_pos c3 hF
        refine lv_aload_n hx hb dX7_trace_23 rfl (lv_at hl 0 rfl) ?_
        refine va_get (D := E.1) (ci := 7) (v := .ref (Actsa_self (Onea_acts a))) (C := RX7) (T := TX7) (N := 5) hx hb hts k1 hown hK hP 0 rfl rfl 4 (by decide) k0 (fun _ h9 => h9) rfl dX7_trace_24 ?_
        refine va_getN (D := E.1) (ci := 0) (v := .ref (Actsa_kept (Onea_acts a))) (C := RX0) (T := TX0) (N := 5) hx hb hts k3 hown hK hP 62 rfl rfl 0 (by decide) k4 (fun _ h9 => h9) rfl dX7_trace_27 ?_
        refine lv_iload_n hx hb dX7_trace_30 rfl (lv_at hl 1 rfl) ?_
        obtain ⟨h4, hF⟩ := m_chk hF
        refine va_iald (f := (Acts_kept (One_acts v))) hx hb hK hP 63 1 rfl rfl (mIn_ok h4) dX7_trace_31 ?_
        refine W.eq (g2 := F0 m 32 ls [.int ((Acts_kept (One_acts v)) (x0).toNatClampNeg)]) rfl ?_
        have hF := Option.some.inj hF
        subst hF
        rw [hQ]
        exact W.iret hx hb hr (fun t ht _ => ⟨rfl, ht⟩) (fun _ h => by cases h) dX7_trace_32
      · have hF := m_neg c3 hF
        refine lv_iconst (v := (-1)) hx hb dX7_trace_21 (by decide) ?_
        have hF := Option.some.inj hF
        subst hF
        rw [hQ]
        exact W.iret hx hb hr (fun t ht _ => ⟨rfl, ht⟩) (fun _ h => by cases h) dX7_trace_22

def fn_X7_count (v : OneV) (x0 : Int32) : Option Int32 :=
  (if x0 = 0 then some (Group_size (Room_group (One_now v))) else (if x0 = 1 then some (Room_lessonCount (One_now v)) else (if x0 = 2 then some (Rows_size (Room_seen (One_now v))) else (if x0 = 3 then some (Rows_size (Room_plan (One_now v))) else (if x0 = 4 then some (Rows_size (Room_book (One_now v))) else (if x0 = 5 then some (Room_signs (One_now v)) else (if x0 = 6 then some (Acts_ran (One_acts v)) else some (-1))))))))
abbrev rmX7_count : Room := { frames := 0, cells := 0, slots := 0, locals := 0 }
set_option maxRecDepth 100000 in
set_option maxHeartbeats 400000 in
theorem c_X7_count (l : Launch) (E : mE) (a : OneA) (v : OneV) (x0 : Int32) (t : Int32) (hF : fn_X7_count v x0 = some t) : Met l yX7_count wsX7_count rmX7_count (mPp E [.ref (Onea_self a), .int x0] (One_c E a v)) (mSp (some (.int t))) 0 0 (fun _ => False) := by
  refine mOfP (cc := cX7_count) (maxL := 2) (ret := (some .int)) (by decide) rfl (Nat.le_of_ble_eq_true rfl) ?_
  intro p e_ s m args below meth c Q hQ CC hr hlocks hP hKN hGl ls hl
  have hS : va_S (fun _ => False) s.heap s.heap [] := va_S.rf
  have hK := hKN.1
  have hx := CC.1
  have hb := CC.2.1
  have hml := CC.2.2.1
  have hown : s.vm.findClass RX7 = some m.cls := CC.2.2.2.1
  have hts := CC.2.2.2.2
  have hl : lv_has ls 2 [(0, .ref (Onea_self a)), (1, .int x0)] := hl
  have k0 := hts (.fieldLink RX7 12 "OneDidAll" "now" "LOneDidAll$Room;") (by decide +kernel)
  have k1 := (show ∀ w ∈ u_ws RX7 TX7 5, w ∈ wsX7_count by decide +kernel)
  have k2 := (va_Nw.use rfl (hKN.2.1 ("OneDidAll", 74, "OneDidAll$Room", "group", "LOneDidAll$Group;", "OneDidAll") (by decide +kernel)) : (Cond.fieldLinkNest "OneDidAll" 74 "OneDidAll$Room" "group" "LOneDidAll$Group;" "OneDidAll").before args s = true)
  have k3 := (show ∀ w ∈ u_ws RX5 TX5 9, w ∈ wsX7_count by decide +kernel)
  have k4 := (va_Nw.use rfl (hKN.2.1 ("OneDidAll", 78, "OneDidAll$Group", "size", "I", "OneDidAll") (by decide +kernel)) : (Cond.fieldLinkNest "OneDidAll" 78 "OneDidAll$Group" "size" "I" "OneDidAll").before args s = true)
  have k5 := (show ∀ w ∈ u_ws RX2 TX2 11, w ∈ wsX7_count by decide +kernel)
  have k6 := (va_Nw.use rfl (hKN.2.1 ("OneDidAll", 47, "OneDidAll$Room", "lessonCount", "I", "OneDidAll") (by decide +kernel)) : (Cond.fieldLinkNest "OneDidAll" 47 "OneDidAll$Room" "lessonCount" "I" "OneDidAll").before args s = true)
  have k7 := (va_Nw.use rfl (hKN.2.1 ("OneDidAll", 223, "OneDidAll$Room", "seen", "LOneDidAll$Rows;", "OneDidAll") (by decide +kernel)) : (Cond.fieldLinkNest "OneDidAll" 223 "OneDidAll$Room" "seen" "LOneDidAll$Rows;" "OneDidAll").before args s = true)
  have k8 := (va_Nw.use rfl (hKN.2.1 ("OneDidAll", 255, "OneDidAll$Rows", "size", "I", "OneDidAll") (by decide +kernel)) : (Cond.fieldLinkNest "OneDidAll" 255 "OneDidAll$Rows" "size" "I" "OneDidAll").before args s = true)
  have k9 := (show ∀ w ∈ u_ws RX6 TX6 3, w ∈ wsX7_count by decide +kernel)
  have k10 := (va_Nw.use rfl (hKN.2.1 ("OneDidAll", 245, "OneDidAll$Room", "plan", "LOneDidAll$Rows;", "OneDidAll") (by decide +kernel)) : (Cond.fieldLinkNest "OneDidAll" 245 "OneDidAll$Room" "plan" "LOneDidAll$Rows;" "OneDidAll").before args s = true)
  have k11 := (va_Nw.use rfl (hKN.2.1 ("OneDidAll", 252, "OneDidAll$Room", "book", "LOneDidAll$Rows;", "OneDidAll") (by decide +kernel)) : (Cond.fieldLinkNest "OneDidAll" 252 "OneDidAll$Room" "book" "LOneDidAll$Rows;" "OneDidAll").before args s = true)
  have k12 := (va_Nw.use rfl (hKN.2.1 ("OneDidAll", 39, "OneDidAll$Room", "signs", "I", "OneDidAll") (by decide +kernel)) : (Cond.fieldLinkNest "OneDidAll" 39 "OneDidAll$Room" "signs" "I" "OneDidAll").before args s = true)
  have k13 := hts (.fieldLink RX7 35 "OneDidAll" "acts" "LOneDidAll$Acts;") (by decide +kernel)
  have k14 := (va_Nw.use rfl (hKN.2.1 ("OneDidAll", 262, "OneDidAll$Acts", "ran", "I", "OneDidAll") (by decide +kernel)) : (Cond.fieldLinkNest "OneDidAll" 262 "OneDidAll$Acts" "ran" "I" "OneDidAll").before args s = true)
  have k15 := (show ∀ w ∈ u_ws RX0 TX0 5, w ∈ wsX7_count by decide +kernel)
  unfold fn_X7_count at hF
  refine lv_iload_n hx hb dX7_count_0 rfl (lv_at hl 1 rfl) ?_
  by_cases c1 : x0 = 0
  · have hF := m_pos c1 hF
    refine lv_tableIn (off := 43) (tgt := 44) hx hb dX7_count_1 (by rw [c1]; decide) (by rw [c1]; decide) (by rw [c1]; rfl) (by decide) ?_
    refine lv_aload_n hx hb dX7_count_44 rfl (lv_at hl 0 rfl) ?_
    refine va_get (D := E.1) (ci := 7) (v := .ref (Rooma_self (Onea_now a))) (C := RX7) (T := TX7) (N := 5) hx hb hts k1 hown hK hP 0 rfl rfl 0 (by decide) k0 (fun _ h9 => h9) rfl dX7_count_45 ?_
    refine va_getN (D := E.1) (ci := 5) (v := .ref (Groupa_self (Rooma_group (Onea_now a)))) (C := RX5) (T := TX5) (N := 9) hx hb hts k3 hown hK hP 1 rfl rfl 0 (by decide) k2 (fun _ h9 => h9) rfl dX7_count_48 ?_
    refine va_getN (D := E.1) (ci := 2) (v := .int (Group_size (Room_group (One_now v)))) (C := RX2) (T := TX2) (N := 11) hx hb hts k5 hown hK hP 2 rfl rfl 0 (by decide) k4 (fun _ h9 => h9) rfl dX7_count_51 ?_
    have hF := Option.some.inj hF
    subst hF
    rw [hQ]
    exact W.iret hx hb hr (fun t ht _ => ⟨rfl, ht⟩) (fun _ h => by cases h) dX7_count_54
  · have hF := m_neg c1 hF
    by_cases c2 : x0 = 1
    · have hF := m_pos c2 hF
      refine lv_tableIn (off := 54) (tgt := 55) hx hb dX7_count_1 (by rw [c2]; decide) (by rw [c2]; decide) (by rw [c2]; rfl) (by decide) ?_
      refine lv_aload_n hx hb dX7_count_55 rfl (lv_at hl 0 rfl) ?_
      refine va_get (D := E.1) (ci := 7) (v := .ref (Rooma_self (Onea_now a))) (C := RX7) (T := TX7) (N := 5) hx hb hts k1 hown hK hP 0 rfl rfl 0 (by decide) k0 (fun _ h9 => h9) rfl dX7_count_56 ?_
      refine va_getN (D := E.1) (ci := 5) (v := .int (Room_lessonCount (One_now v))) (C := RX5) (T := TX5) (N := 9) hx hb hts k3 hown hK hP 1 rfl rfl 4 (by decide) k6 (fun _ h9 => h9) rfl dX7_count_59 ?_
      have hF := Option.some.inj hF
      subst hF
      rw [hQ]
      exact W.iret hx hb hr (fun t ht _ => ⟨rfl, ht⟩) (fun _ h => by cases h) dX7_count_62
    · have hF := m_neg c2 hF
      by_cases c3 : x0 = 2
      · have hF := m_pos c3 hF
        refine lv_tableIn (off := 62) (tgt := 63) hx hb dX7_count_1 (by rw [c3]; decide) (by rw [c3]; decide) (by rw [c3]; rfl) (by decide) ?_
        refine lv_aload_n hx hb dX7_count_63 rfl (lv_at hl 0 rfl) ?_
        refine va_get (D := E.1) (ci := 7) (v := .ref (Rooma_self (Onea_now a))) (C := RX7) (T := TX7) (N := 5) hx hb hts k1 hown hK hP 0 rfl rfl 0 (by decide) k0 (fun _ h9 => h9) rfl dX7_count_64 ?_
        refine va_getN (D := E.1) (ci := 5) (v := .ref (Rowsa_self (Rooma_seen (Onea_now a)))) (C := RX5) (T := TX5) (N := 9) hx hb hts k3 hown hK hP 1 rfl rfl 6 (by decide) k7 (fun _ h9 => h9) rfl dX7_count_67 ?_
        refine va_getN (D := E.1) (ci := 6) (v := .int (Rows_size (Room_seen (One_now v)))) (C := RX6) (T := TX6) (N := 3) hx hb hts k9 hown hK hP 13 rfl rfl 2 (by decide) k8 (fun _ h9 => h9) rfl dX7_count_70 ?_
        have hF := Option.some.inj hF
        subst hF
        rw [hQ]
        exact W.iret hx hb hr (fun t ht _ => ⟨rfl, ht⟩) (fun _ h => by cases h) dX7_count_73
      · have hF := m_neg c3 hF
        by_cases c4 : x0 = 3
        · have hF := m_pos c4 hF
          refine lv_tableIn (off := 73) (tgt := 74) hx hb dX7_count_1 (by rw [c4]; decide) (by rw [c4]; decide) (by rw [c4]; rfl) (by decide) ?_
          refine lv_aload_n hx hb dX7_count_74 rfl (lv_at hl 0 rfl) ?_
          refine va_get (D := E.1) (ci := 7) (v := .ref (Rooma_self (Onea_now a))) (C := RX7) (T := TX7) (N := 5) hx hb hts k1 hown hK hP 0 rfl rfl 0 (by decide) k0 (fun _ h9 => h9) rfl dX7_count_75 ?_
          refine va_getN (D := E.1) (ci := 5) (v := .ref (Rowsa_self (Rooma_plan (Onea_now a)))) (C := RX5) (T := TX5) (N := 9) hx hb hts k3 hown hK hP 1 rfl rfl 7 (by decide) k10 (fun _ h9 => h9) rfl dX7_count_78 ?_
          refine va_getN (D := E.1) (ci := 6) (v := .int (Rows_size (Room_plan (One_now v)))) (C := RX6) (T := TX6) (N := 3) hx hb hts k9 hown hK hP 16 rfl rfl 2 (by decide) k8 (fun _ h9 => h9) rfl dX7_count_81 ?_
          have hF := Option.some.inj hF
          subst hF
          rw [hQ]
          exact W.iret hx hb hr (fun t ht _ => ⟨rfl, ht⟩) (fun _ h => by cases h) dX7_count_84
        · have hF := m_neg c4 hF
          by_cases c5 : x0 = 4
          · have hF := m_pos c5 hF
            refine lv_tableIn (off := 84) (tgt := 85) hx hb dX7_count_1 (by rw [c5]; decide) (by rw [c5]; decide) (by rw [c5]; rfl) (by decide) ?_
            refine lv_aload_n hx hb dX7_count_85 rfl (lv_at hl 0 rfl) ?_
            refine va_get (D := E.1) (ci := 7) (v := .ref (Rooma_self (Onea_now a))) (C := RX7) (T := TX7) (N := 5) hx hb hts k1 hown hK hP 0 rfl rfl 0 (by decide) k0 (fun _ h9 => h9) rfl dX7_count_86 ?_
            refine va_getN (D := E.1) (ci := 5) (v := .ref (Rowsa_self (Rooma_book (Onea_now a)))) (C := RX5) (T := TX5) (N := 9) hx hb hts k3 hown hK hP 1 rfl rfl 8 (by decide) k11 (fun _ h9 => h9) rfl dX7_count_89 ?_
            refine va_getN (D := E.1) (ci := 6) (v := .int (Rows_size (Room_book (One_now v)))) (C := RX6) (T := TX6) (N := 3) hx hb hts k9 hown hK hP 19 rfl rfl 2 (by decide) k8 (fun _ h9 => h9) rfl dX7_count_92 ?_
            have hF := Option.some.inj hF
            subst hF
            rw [hQ]
            exact W.iret hx hb hr (fun t ht _ => ⟨rfl, ht⟩) (fun _ h => by cases h) dX7_count_95
          · have hF := m_neg c5 hF
            by_cases c6 : x0 = 5
            · have hF := m_pos c6 hF
              refine lv_tableIn (off := 95) (tgt := 96) hx hb dX7_count_1 (by rw [c6]; decide) (by rw [c6]; decide) (by rw [c6]; rfl) (by decide) ?_
              refine lv_aload_n hx hb dX7_count_96 rfl (lv_at hl 0 rfl) ?_
              refine va_get (D := E.1) (ci := 7) (v := .ref (Rooma_self (Onea_now a))) (C := RX7) (T := TX7) (N := 5) hx hb hts k1 hown hK hP 0 rfl rfl 0 (by decide) k0 (fun _ h9 => h9) rfl dX7_count_97 ?_
              refine va_getN (D := E.1) (ci := 5) (v := .int (Room_signs (One_now v))) (C := RX5) (T := TX5) (N := 9) hx hb hts k3 hown hK hP 1 rfl rfl 2 (by decide) k12 (fun _ h9 => h9) rfl dX7_count_100 ?_
              have hF := Option.some.inj hF
              subst hF
              rw [hQ]
              exact W.iret hx hb hr (fun t ht _ => ⟨rfl, ht⟩) (fun _ h => by cases h) dX7_count_103
            · have hF := m_neg c6 hF
              by_cases c7 : x0 = 6
              · have hF := m_pos c7 hF
                refine lv_tableIn (off := 103) (tgt := 104) hx hb dX7_count_1 (by rw [c7]; decide) (by rw [c7]; decide) (by rw [c7]; rfl) (by decide) ?_
                refine lv_aload_n hx hb dX7_count_104 rfl (lv_at hl 0 rfl) ?_
                refine va_get (D := E.1) (ci := 7) (v := .ref (Actsa_self (Onea_acts a))) (C := RX7) (T := TX7) (N := 5) hx hb hts k1 hown hK hP 0 rfl rfl 4 (by decide) k13 (fun _ h9 => h9) rfl dX7_count_105 ?_
                refine va_getN (D := E.1) (ci := 0) (v := .int (Acts_ran (One_acts v))) (C := RX0) (T := TX0) (N := 5) hx hb hts k15 hown hK hP 62 rfl rfl 1 (by decide) k14 (fun _ h9 => h9) rfl dX7_count_108 ?_
                have hF := Option.some.inj hF
                subst hF
                rw [hQ]
                exact W.iret hx hb hr (fun t ht _ => ⟨rfl, ht⟩) (fun _ h => by cases h) dX7_count_111
              · have hF := m_neg c7 hF
                have qc1 := lv_neT (a := 0) c1 rfl
                have qc2 := lv_neT (a := 1) c2 rfl
                have qc3 := lv_neT (a := 2) c3 rfl
                have qc4 := lv_neT (a := 3) c4 rfl
                have qc5 := lv_neT (a := 4) c5 rfl
                have qc6 := lv_neT (a := 5) c6 rfl
                have qc7 := lv_neT (a := 6) c7 rfl
                refine lv_tableOut (tgt := 112) hx hb dX7_count_1 (by omega) (by decide) ?_
                refine lv_iconst (v := (-1)) hx hb dX7_count_112 (by decide) ?_
                have hF := Option.some.inj hF
                subst hF
                rw [hQ]
                exact W.iret hx hb hr (fun t ht _ => ⟨rfl, ht⟩) (fun _ h => by cases h) dX7_count_113

def fn_X7_isPupil (v : OneV) (x0 : Int32) : Option Int32 :=
  (if x0 < 0 then some 0 else (if (Group_size (Room_group (One_now v))) ≤ x0 then some 0 else (if 6 ≤ x0 then some 0 else some 1)))
abbrev rmX7_isPupil : Room := { frames := 0, cells := 0, slots := 0, locals := 0 }
set_option maxRecDepth 100000 in
set_option maxHeartbeats 400000 in
theorem c_X7_isPupil (l : Launch) (E : mE) (a : OneA) (v : OneV) (x0 : Int32) (t : Int32) (hF : fn_X7_isPupil v x0 = some t) : Met l yX7_isPupil wsX7_isPupil rmX7_isPupil (mPp E [.ref (Onea_self a), .int x0] (One_c E a v)) (mSp (some (.int t))) 0 0 (fun _ => False) := by
  refine mOfP (cc := cX7_isPupil) (maxL := 2) (ret := (some .boolean)) (by decide) rfl (Nat.le_of_ble_eq_true rfl) ?_
  intro p e_ s m args below meth c Q hQ CC hr hlocks hP hKN hGl ls hl
  have hS : va_S (fun _ => False) s.heap s.heap [] := va_S.rf
  have hK := hKN.1
  have hx := CC.1
  have hb := CC.2.1
  have hml := CC.2.2.1
  have hown : s.vm.findClass RX7 = some m.cls := CC.2.2.2.1
  have hts := CC.2.2.2.2
  have hl : lv_has ls 2 [(0, .ref (Onea_self a)), (1, .int x0)] := hl
  have k0 := hts (.fieldLink RX7 12 "OneDidAll" "now" "LOneDidAll$Room;") (by decide +kernel)
  have k1 := (show ∀ w ∈ u_ws RX7 TX7 5, w ∈ wsX7_isPupil by decide +kernel)
  have k2 := (va_Nw.use rfl (hKN.2.1 ("OneDidAll", 74, "OneDidAll$Room", "group", "LOneDidAll$Group;", "OneDidAll") (by decide +kernel)) : (Cond.fieldLinkNest "OneDidAll" 74 "OneDidAll$Room" "group" "LOneDidAll$Group;" "OneDidAll").before args s = true)
  have k3 := (show ∀ w ∈ u_ws RX5 TX5 9, w ∈ wsX7_isPupil by decide +kernel)
  have k4 := (va_Nw.use rfl (hKN.2.1 ("OneDidAll", 78, "OneDidAll$Group", "size", "I", "OneDidAll") (by decide +kernel)) : (Cond.fieldLinkNest "OneDidAll" 78 "OneDidAll$Group" "size" "I" "OneDidAll").before args s = true)
  have k5 := (show ∀ w ∈ u_ws RX2 TX2 11, w ∈ wsX7_isPupil by decide +kernel)
  unfold fn_X7_isPupil at hF
  refine lv_iload_n hx hb dX7_isPupil_0 rfl (lv_at hl 1 rfl) ?_
  refine lv_if_lt (tgt := 28) hx hb dX7_isPupil_1 (by decide) (fun c1 => ?_) (fun c1 => ?_)
  · have hF := m_pos c1 hF
    refine lv_iconst (v := 0) hx hb dX7_isPupil_28 (by decide) ?_
    have hF := Option.some.inj hF
    subst hF
    rw [hQ]
    exact W.zret hx hb hr rfl (fun t ht _ => ⟨rfl, ht⟩) (fun _ h => by cases h) dX7_isPupil_29
  · have hF := m_neg c1 hF
    refine lv_iload_n hx hb dX7_isPupil_4 rfl (lv_at hl 1 rfl) ?_
    refine lv_aload_n hx hb dX7_isPupil_5 rfl (lv_at hl 0 rfl) ?_
    refine va_get (D := E.1) (ci := 7) (v := .ref (Rooma_self (Onea_now a))) (C := RX7) (T := TX7) (N := 5) hx hb hts k1 hown hK hP 0 rfl rfl 0 (by decide) k0 (fun _ h9 => h9) rfl dX7_isPupil_6 ?_
    refine va_getN (D := E.1) (ci := 5) (v := .ref (Groupa_self (Rooma_group (Onea_now a)))) (C := RX5) (T := TX5) (N := 9) hx hb hts k3 hown hK hP 1 rfl rfl 0 (by decide) k2 (fun _ h9 => h9) rfl dX7_isPupil_9 ?_
    refine va_getN (D := E.1) (ci := 2) (v := .int (Group_size (Room_group (One_now v)))) (C := RX2) (T := TX2) (N := 11) hx hb hts k5 hown hK hP 2 rfl rfl 0 (by decide) k4 (fun _ h9 => h9) rfl dX7_isPupil_12 ?_
    refine lv_icmp_ge (tgt := 28) hx hb dX7_isPupil_15 (by decide) (fun c2 => ?_) (fun c2 => ?_)
    · have hF := m_pos c2 hF
      refine lv_iconst (v := 0) hx hb dX7_isPupil_28 (by decide) ?_
      have hF := Option.some.inj hF
      subst hF
      rw [hQ]
      exact W.zret hx hb hr rfl (fun t ht _ => ⟨rfl, ht⟩) (fun _ h => by cases h) dX7_isPupil_29
    · have hF := m_neg c2 hF
      refine lv_iload_n hx hb dX7_isPupil_18 rfl (lv_at hl 1 rfl) ?_
      refine lv_bipush (v := 6) hx hb dX7_isPupil_19 (by decide) ?_
      refine lv_icmp_ge (tgt := 28) hx hb dX7_isPupil_21 (by decide) (fun c3 => ?_) (fun c3 => ?_)
      · have hF := m_pos c3 hF
        refine lv_iconst (v := 0) hx hb dX7_isPupil_28 (by decide) ?_
        have hF := Option.some.inj hF
        subst hF
        rw [hQ]
        exact W.zret hx hb hr rfl (fun t ht _ => ⟨rfl, ht⟩) (fun _ h => by cases h) dX7_isPupil_29
      · have hF := m_neg c3 hF
        refine lv_iconst (v := 1) hx hb dX7_isPupil_24 (by decide) ?_
        refine lv_goto (tgt := 29) hx hb dX7_isPupil_25 (by decide) ?_
        have hF := Option.some.inj hF
        subst hF
        rw [hQ]
        exact W.zret hx hb hr rfl (fun t ht _ => ⟨rfl, ht⟩) (fun _ h => by cases h) dX7_isPupil_29

def fn_X7_isKind (x0 : Int32) : Option Int32 :=
  (if x0 < 0 then some 0 else (if 7 ≤ x0 then some 0 else some 1))
abbrev rmX7_isKind : Room := { frames := 0, cells := 0, slots := 0, locals := 0 }
set_option maxRecDepth 100000 in
set_option maxHeartbeats 400000 in
theorem c_X7_isKind (l : Launch) (E : mE) (x0 : Int32) (t : Int32) (hF : fn_X7_isKind x0 = some t) : Met l yX7_isKind wsX7_isKind rmX7_isKind (mPp E [.int x0] ([] : va_W)) (mSp (some (.int t))) 0 0 (fun _ => False) := by
  refine mOfP (cc := cX7_isKind) (maxL := 1) (ret := (some .boolean)) (by decide) rfl (Nat.le_of_ble_eq_true rfl) ?_
  intro p e_ s m args below meth c Q hQ CC hr hlocks hP hKN hGl ls hl
  have hS : va_S (fun _ => False) s.heap s.heap [] := va_S.rf
  have hK := hKN.1
  have hx := CC.1
  have hb := CC.2.1
  have hml := CC.2.2.1
  have hown : s.vm.findClass RX7 = some m.cls := CC.2.2.2.1
  have hts := CC.2.2.2.2
  have hl : lv_has ls 1 [(0, .int x0)] := hl
  have k0 := hts (.fieldLink RX7 293 "OneDidAll" "KIND_ABOVE" "[I") (by decide +kernel)
  unfold fn_X7_isKind at hF
  refine lv_iload_n hx hb dX7_isKind_0 rfl (lv_at hl 0 rfl) ?_
  refine lv_if_lt (tgt := 16) hx hb dX7_isKind_1 (by decide) (fun c1 => ?_) (fun c1 => ?_)
  · have hF := m_pos c1 hF
    refine lv_iconst (v := 0) hx hb dX7_isKind_16 (by decide) ?_
    have hF := Option.some.inj hF
    subst hF
    rw [hQ]
    exact W.zret hx hb hr rfl (fun t ht _ => ⟨rfl, ht⟩) (fun _ h => by cases h) dX7_isKind_17
  · have hF := m_neg c1 hF
    refine lv_iload_n hx hb dX7_isKind_4 rfl (lv_at hl 0 rfl) ?_
    refine va_gets hx hb hGl.1 hS hown k0 (fun _ h9 => h9) dX7_isKind_5 ?_
    refine W.eq (g2 := F0 m 8 ls [.ref (m_ka E), .int x0]) rfl ?_
    refine va_tlen (v := 7) hx hb hGl.2.1 hS rfl dX7_isKind_8 ?_
    refine lv_icmp_ge (tgt := 16) hx hb dX7_isKind_9 (by decide) (fun c2 => ?_) (fun c2 => ?_)
    · have hF := m_pos c2 hF
      refine lv_iconst (v := 0) hx hb dX7_isKind_16 (by decide) ?_
      have hF := Option.some.inj hF
      subst hF
      rw [hQ]
      exact W.zret hx hb hr rfl (fun t ht _ => ⟨rfl, ht⟩) (fun _ h => by cases h) dX7_isKind_17
    · have hF := m_neg c2 hF
      refine lv_iconst (v := 1) hx hb dX7_isKind_12 (by decide) ?_
      refine lv_goto (tgt := 17) hx hb dX7_isKind_13 (by decide) ?_
      have hF := Option.some.inj hF
      subst hF
      rw [hQ]
      exact W.zret hx hb hr rfl (fun t ht _ => ⟨rfl, ht⟩) (fun _ h => by cases h) dX7_isKind_17

def fn_X7_isRule (x0 : Int32) : Option Int32 :=
  (if x0 < 0 then some 0 else (if 4 ≤ x0 then some 0 else some 1))
abbrev rmX7_isRule : Room := { frames := 0, cells := 0, slots := 0, locals := 0 }
set_option maxRecDepth 100000 in
set_option maxHeartbeats 400000 in
theorem c_X7_isRule (l : Launch) (E : mE) (x0 : Int32) (t : Int32) (hF : fn_X7_isRule x0 = some t) : Met l yX7_isRule wsX7_isRule rmX7_isRule (mPp E [.int x0] ([] : va_W)) (mSp (some (.int t))) 0 0 (fun _ => False) := by
  refine mOfP (cc := cX7_isRule) (maxL := 1) (ret := (some .boolean)) (by decide) rfl (Nat.le_of_ble_eq_true rfl) ?_
  intro p e_ s m args below meth c Q hQ CC hr hlocks hP hKN hGl ls hl
  have hS : va_S (fun _ => False) s.heap s.heap [] := va_S.rf
  have hK := hKN.1
  have hx := CC.1
  have hb := CC.2.1
  have hml := CC.2.2.1
  have hown : s.vm.findClass RX7 = some m.cls := CC.2.2.2.1
  have hts := CC.2.2.2.2
  have hl : lv_has ls 1 [(0, .int x0)] := hl
  unfold fn_X7_isRule at hF
  refine lv_iload_n hx hb dX7_isRule_0 rfl (lv_at hl 0 rfl) ?_
  refine lv_if_lt (tgt := 13) hx hb dX7_isRule_1 (by decide) (fun c1 => ?_) (fun c1 => ?_)
  · have hF := m_pos c1 hF
    refine lv_iconst (v := 0) hx hb dX7_isRule_13 (by decide) ?_
    have hF := Option.some.inj hF
    subst hF
    rw [hQ]
    exact W.zret hx hb hr rfl (fun t ht _ => ⟨rfl, ht⟩) (fun _ h => by cases h) dX7_isRule_14
  · have hF := m_neg c1 hF
    refine lv_iload_n hx hb dX7_isRule_4 rfl (lv_at hl 0 rfl) ?_
    refine lv_iconst (v := 4) hx hb dX7_isRule_5 (by decide) ?_
    refine lv_icmp_ge (tgt := 13) hx hb dX7_isRule_6 (by decide) (fun c2 => ?_) (fun c2 => ?_)
    · have hF := m_pos c2 hF
      refine lv_iconst (v := 0) hx hb dX7_isRule_13 (by decide) ?_
      have hF := Option.some.inj hF
      subst hF
      rw [hQ]
      exact W.zret hx hb hr rfl (fun t ht _ => ⟨rfl, ht⟩) (fun _ h => by cases h) dX7_isRule_14
    · have hF := m_neg c2 hF
      refine lv_iconst (v := 1) hx hb dX7_isRule_9 (by decide) ?_
      refine lv_goto (tgt := 14) hx hb dX7_isRule_10 (by decide) ?_
      have hF := Option.some.inj hF
      subst hF
      rw [hQ]
      exact W.zret hx hb hr rfl (fun t ht _ => ⟨rfl, ht⟩) (fun _ h => by cases h) dX7_isRule_14

def fn_X7_isPart (x0 : Int32) : Option Int32 :=
  jp (fun (_ : Unit) => some 1) (fun j9 => (if x0 = 0 then j9 () else (if ¬ x0 = 1 then some 0 else j9 ())))
abbrev rmX7_isPart : Room := { frames := 0, cells := 0, slots := 0, locals := 0 }
set_option maxRecDepth 100000 in
set_option maxHeartbeats 400000 in
theorem c_X7_isPart (l : Launch) (E : mE) (x0 : Int32) (t : Int32) (hF : fn_X7_isPart x0 = some t) : Met l yX7_isPart wsX7_isPart rmX7_isPart (mPp E [.int x0] ([] : va_W)) (mSp (some (.int t))) 0 0 (fun _ => False) := by
  refine mOfP (cc := cX7_isPart) (maxL := 1) (ret := (some .boolean)) (by decide) rfl (Nat.le_of_ble_eq_true rfl) ?_
  intro p e_ s m args below meth c Q hQ CC hr hlocks hP hKN hGl ls hl
  have hS : va_S (fun _ => False) s.heap s.heap [] := va_S.rf
  have hK := hKN.1
  have hx := CC.1
  have hb := CC.2.1
  have hml := CC.2.2.1
  have hown : s.vm.findClass RX7 = some m.cls := CC.2.2.2.1
  have hts := CC.2.2.2.2
  have hl : lv_has ls 1 [(0, .int x0)] := hl
  unfold fn_X7_isPart at hF
  refine lv_iload_n hx hb dX7_isPart_0 rfl (lv_at hl 0 rfl) ?_
  obtain ⟨j9, hjd9, hF⟩ := m_jp hF
  have hj9 : ∀ (ls : Array Slot), j9 () = some t → lv_has ls 1 [] → W p l e_ rmX7_isPart s m args below meth c s.heap [] 0 0 Q (F0 m 9 ls []) := by
    intro ls hF hl
    rw [hjd9] at hF
    refine lv_iconst (v := 1) hx hb dX7_isPart_9 (by decide) ?_
    refine lv_goto (tgt := 14) hx hb dX7_isPart_10 (by decide) ?_
    have hF := Option.some.inj hF
    subst hF
    rw [hQ]
    exact W.zret hx hb hr rfl (fun t ht _ => ⟨rfl, ht⟩) (fun _ h => by cases h) dX7_isPart_14
  clear hjd9
  refine lv_if_eq (tgt := 9) hx hb dX7_isPart_1 (by decide) (fun c1 => ?_) (fun c1 => ?_)
  · have hF := m_pos c1 hF
    exact hj9 ls hF (lv_sub hl [] rfl)
  · have hF := m_neg c1 hF
    refine lv_iload_n hx hb dX7_isPart_4 rfl (lv_at hl 0 rfl) ?_
    refine lv_iconst (v := 1) hx hb dX7_isPart_5 (by decide) ?_
    refine lv_icmp_ne (tgt := 13) hx hb dX7_isPart_6 (by decide) (fun c2 => ?_) (fun c2 => ?_)
    · have hF := m_pos c2 hF
      refine lv_iconst (v := 0) hx hb dX7_isPart_13 (by decide) ?_
      have hF := Option.some.inj hF
      subst hF
      rw [hQ]
      exact W.zret hx hb hr rfl (fun t ht _ => ⟨rfl, ht⟩) (fun _ h => by cases h) dX7_isPart_14
    · have hF := m_neg (fun n9 => n9 c2) hF
      exact hj9 ls hF (lv_sub hl [] rfl)

def st_X7_isUnder_4 (x1 : Int32) (rec4 : Int32 → Int32 → Option Int32) (y2_4 : Int32) (y3_4 : Int32) : Option Int32 :=
  (if 7 ≤ y3_4 then some 0 else (Option.bind (fn_X7_isKind y2_4) (fun t2 => (if t2 = 0 then some 0 else (if ¬ y2_4 = x1 then (if mIn y2_4 7 = true then rec4 (mKA.getD (y2_4).toNatClampNeg 0) (y3_4 + 1) else none) else some 1)))))
def lp_X7_isUnder_4 (x1 : Int32) : Nat → Int32 → Int32 → Option Int32
  | 0 => fun _ _ => none
  | n + 1 => st_X7_isUnder_4 x1 (lp_X7_isUnder_4 x1 n)
def fn_X7_isUnder (x0 : Int32) (x1 : Int32) : Option Int32 :=
  lp_X7_isUnder_4 x1 m_N x0 0
abbrev rmX7_isUnder : Room := { frames := 1, cells := 0, slots := 0, locals := 20 }
set_option maxRecDepth 100000 in
set_option maxHeartbeats 400000 in
theorem c_X7_isUnder (l : Launch) (E : mE) (x0 : Int32) (x1 : Int32) (t : Int32) (hF : fn_X7_isUnder x0 x1 = some t) : Met l yX7_isUnder wsX7_isUnder rmX7_isUnder (mPp E [.int x0, .int x1] ([] : va_W)) (mSp (some (.int t))) 0 0 (fun _ => False) := by
  refine mOfP (cc := cX7_isUnder) (maxL := 4) (ret := (some .boolean)) (by decide) rfl (Nat.le_of_ble_eq_true rfl) ?_
  intro p e_ s m args below meth c Q hQ CC hr hlocks hP hKN hGl ls hl
  have hS : va_S (fun _ => False) s.heap s.heap [] := va_S.rf
  have hK := hKN.1
  have hx := CC.1
  have hb := CC.2.1
  have hml := CC.2.2.1
  have hown : s.vm.findClass RX7 = some m.cls := CC.2.2.2.1
  have hts := CC.2.2.2.2
  have hl : lv_has ls 4 [(0, .int x0), (1, .int x1)] := hl
  have k0 := hts (.fieldLink RX7 293 "OneDidAll" "KIND_ABOVE" "[I") (by decide +kernel)
  unfold fn_X7_isUnder at hF
  refine lv_iload_n hx hb dX7_isUnder_0 rfl (lv_at hl 0 rfl) ?_
  refine lv_istore_n (lv' := [(2, .int x0), (0, .int x0), (1, .int x1)]) hx hb dX7_isUnder_1 rfl hl (by decide) rfl (fun ls hl => ?_)
  refine lv_iconst (v := 0) hx hb dX7_isUnder_2 (by decide) ?_
  refine lv_istore_n (lv' := [(3, .int 0), (2, .int x0), (0, .int x0), (1, .int x1)]) hx hb dX7_isUnder_3 rfl hl (by decide) rfl (fun ls hl => ?_)
  have hL4 : ∀ (n : Nat) (y2_4 : Int32) (y3_4 : Int32) (ls : Array Slot), lp_X7_isUnder_4 x1 n y2_4 y3_4 = some t → lv_has ls 4 [(1, .int x1), (2, .int y2_4), (3, .int y3_4)] → W p l e_ rmX7_isUnder s m args below meth c s.heap [] 0 0 Q (F0 m 4 ls []) := by
    intro n
    induction n with
    | zero =>
      intro y2_4 y3_4 ls hF
      exact nomatch (show (none : Option Int32) = some t from hF)
    | succ n ih4 =>
      intro y2_4 y3_4 ls hF hl
      have hF : st_X7_isUnder_4 x1 (lp_X7_isUnder_4 x1 n) y2_4 y3_4 = some t := hF
      unfold st_X7_isUnder_4 at hF
      refine lv_iload_n hx hb dX7_isUnder_4 rfl (lv_at hl 2 rfl) ?_
      refine va_gets hx hb hGl.1 hS hown k0 (fun _ h9 => h9) dX7_isUnder_5 ?_
      refine W.eq (g2 := F0 m 8 ls [.ref (m_ka E), .int y3_4]) rfl ?_
      refine va_tlen (v := 7) hx hb hGl.2.1 hS rfl dX7_isUnder_8 ?_
      refine lv_icmp_ge (tgt := 38) hx hb dX7_isUnder_9 (by decide) (fun c1 => ?_) (fun c1 => ?_)
      · have hF := m_pos c1 hF
        refine lv_iconst (v := 0) hx hb dX7_isUnder_38 (by decide) ?_
        have hF := Option.some.inj hF
        subst hF
        rw [hQ]
        exact W.zret hx hb hr rfl (fun t ht _ => ⟨rfl, ht⟩) (fun _ h => by cases h) dX7_isUnder_39
      · have hF := m_neg c1 hF
        refine lv_iload_n hx hb dX7_isUnder_12 rfl (lv_at hl 1 rfl) ?_
        obtain ⟨t2, ht2, hF⟩ := m_bnd hF
        refine mSP (n := 1) (rest := []) (As := [.int y2_4]) CC hKN hGl hS (c_X7_isKind l E y2_4 t2 ht2) gX7_isUnder_X7_isKind rfl ⟨rfl, rfl⟩ (by decide +kernel) ⟨Nat.le_of_ble_eq_true rfl, Nat.le_of_ble_eq_true rfl⟩ m_nil rfl hl.1 rfl (Nat.le_of_ble_eq_true rfl) ⟨Nat.zero_le _, Nat.zero_le _⟩ dX7_isUnder_13 ?_
        refine W.eq (g2 := F0 m 16 ls [.int t2]) rfl ?_
        refine lv_if_eq (tgt := 38) hx hb dX7_isUnder_16 (by decide) (fun c3 => ?_) (fun c3 => ?_)
        · have hF := m_pos c3 hF
          refine lv_iconst (v := 0) hx hb dX7_isUnder_38 (by decide) ?_
          have hF := Option.some.inj hF
          subst hF
          rw [hQ]
          exact W.zret hx hb hr rfl (fun t ht _ => ⟨rfl, ht⟩) (fun _ h => by cases h) dX7_isUnder_39
        · have hF := m_neg c3 hF
          refine lv_iload_n hx hb dX7_isUnder_19 rfl (lv_at hl 1 rfl) ?_
          refine lv_iload_n hx hb dX7_isUnder_20 rfl (lv_at hl 0 rfl) ?_
          refine lv_icmp_ne (tgt := 26) hx hb dX7_isUnder_21 (by decide) (fun c4 => ?_) (fun c4 => ?_)
          · have hF := m_pos c4 hF
            refine va_gets hx hb hGl.1 hS hown k0 (fun _ h9 => h9) dX7_isUnder_26 ?_
            refine W.eq (g2 := F0 m 29 ls [.ref (m_ka E)]) rfl ?_
            refine lv_iload_n hx hb dX7_isUnder_29 rfl (lv_at hl 1 rfl) ?_
            obtain ⟨h5, hF⟩ := m_chk hF
            refine va_ti (v := .int (mKA.getD (y2_4).toNatClampNeg 0)) hx hb hGl.2.1 hS (mIn_ok h5) rfl dX7_isUnder_30 ?_
            refine lv_istore_n (lv' := [(2, .int (mKA.getD (y2_4).toNatClampNeg 0)), (1, .int x1), (3, .int y3_4)]) hx hb dX7_isUnder_31 rfl hl (by decide) rfl (fun ls hl => ?_)
            refine lv_iinc (v := (y3_4 + 1)) (lv' := [(3, .int (y3_4 + 1)), (2, .int (mKA.getD (y2_4).toNatClampNeg 0)), (1, .int x1)]) hx hb dX7_isUnder_32 hl (k := 2) rfl rfl (by decide) rfl (fun ls hl => ?_)
            refine lv_goto (tgt := 4) hx hb dX7_isUnder_35 (by decide) ?_
            exact ih4 (mKA.getD (y2_4).toNatClampNeg 0) (y3_4 + 1) ls hF (lv_sub hl [2, 1, 0] rfl)
          · have hF := m_neg (fun n9 => n9 c4) hF
            refine lv_iconst (v := 1) hx hb dX7_isUnder_24 (by decide) ?_
            have hF := Option.some.inj hF
            subst hF
            rw [hQ]
            exact W.zret hx hb hr rfl (fun t ht _ => ⟨rfl, ht⟩) (fun _ h => by cases h) dX7_isUnder_25
  exact hL4 m_N x0 0 ls hF (lv_sub hl [3, 1, 0] rfl)

def st_X7_leastOf_2 (x0 : Int32) (rec2 : Int32 → Option Int32) (y1_2 : Int32) : Option Int32 :=
  (if 9 < y1_2 then some (-5) else (if ¬ ((x0 >>> (y1_2 &&& 31)) &&& 1) = 1 then rec2 (y1_2 + 1) else some y1_2))
def lp_X7_leastOf_2 (x0 : Int32) : Nat → Int32 → Option Int32
  | 0 => fun _ => none
  | n + 1 => st_X7_leastOf_2 x0 (lp_X7_leastOf_2 x0 n)
def fn_X7_leastOf (x0 : Int32) : Option Int32 :=
  lp_X7_leastOf_2 x0 m_N 0
abbrev rmX7_leastOf : Room := { frames := 0, cells := 0, slots := 0, locals := 0 }
set_option maxRecDepth 100000 in
set_option maxHeartbeats 400000 in
theorem c_X7_leastOf (l : Launch) (E : mE) (x0 : Int32) (t : Int32) (hF : fn_X7_leastOf x0 = some t) : Met l yX7_leastOf wsX7_leastOf rmX7_leastOf (mPp E [.int x0] ([] : va_W)) (mSp (some (.int t))) 0 0 (fun _ => False) := by
  refine mOfP (cc := cX7_leastOf) (maxL := 2) (ret := (some .int)) (by decide) rfl (Nat.le_of_ble_eq_true rfl) ?_
  intro p e_ s m args below meth c Q hQ CC hr hlocks hP hKN hGl ls hl
  have hS : va_S (fun _ => False) s.heap s.heap [] := va_S.rf
  have hK := hKN.1
  have hx := CC.1
  have hb := CC.2.1
  have hml := CC.2.2.1
  have hown : s.vm.findClass RX7 = some m.cls := CC.2.2.2.1
  have hts := CC.2.2.2.2
  have hl : lv_has ls 2 [(0, .int x0)] := hl
  unfold fn_X7_leastOf at hF
  refine lv_iconst (v := 0) hx hb dX7_leastOf_0 (by decide) ?_
  refine lv_istore_n (lv' := [(1, .int 0), (0, .int x0)]) hx hb dX7_leastOf_1 rfl hl (by decide) rfl (fun ls hl => ?_)
  have hL2 : ∀ (n : Nat) (y1_2 : Int32) (ls : Array Slot), lp_X7_leastOf_2 x0 n y1_2 = some t → lv_has ls 2 [(0, .int x0), (1, .int y1_2)] → W p l e_ rmX7_leastOf s m args below meth c s.heap [] 0 0 Q (F0 m 2 ls []) := by
    intro n
    induction n with
    | zero =>
      intro y1_2 ls hF
      exact nomatch (show (none : Option Int32) = some t from hF)
    | succ n ih2 =>
      intro y1_2 ls hF hl
      have hF : st_X7_leastOf_2 x0 (lp_X7_leastOf_2 x0 n) y1_2 = some t := hF
      unfold st_X7_leastOf_2 at hF
      refine lv_iload_n hx hb dX7_leastOf_2 rfl (lv_at hl 1 rfl) ?_
      refine lv_bipush (v := 9) hx hb dX7_leastOf_3 (by decide) ?_
      refine lv_icmp_gt (tgt := 25) hx hb dX7_leastOf_5 (by decide) (fun c1 => ?_) (fun c1 => ?_)
      · have hF := m_pos c1 hF
        refine lv_bipush (v := (-5)) hx hb dX7_leastOf_25 (by decide) ?_
        have hF := Option.some.inj hF
        subst hF
        rw [hQ]
        exact W.iret hx hb hr (fun t ht _ => ⟨rfl, ht⟩) (fun _ h => by cases h) dX7_leastOf_27
      · have hF := m_neg c1 hF
        refine lv_iload_n hx hb dX7_leastOf_8 rfl (lv_at hl 0 rfl) ?_
        refine lv_iload_n hx hb dX7_leastOf_9 rfl (lv_at hl 1 rfl) ?_
        refine lv_ishr hx hb dX7_leastOf_10 ?_
        refine lv_iconst (v := 1) hx hb dX7_leastOf_11 (by decide) ?_
        refine lv_iand hx hb dX7_leastOf_12 ?_
        refine lv_iconst (v := 1) hx hb dX7_leastOf_13 (by decide) ?_
        refine lv_icmp_ne (tgt := 19) hx hb dX7_leastOf_14 (by decide) (fun c2 => ?_) (fun c2 => ?_)
        · have hF := m_pos c2 hF
          refine lv_iinc (v := (y1_2 + 1)) (lv' := [(1, .int (y1_2 + 1)), (0, .int x0)]) hx hb dX7_leastOf_19 hl (k := 1) rfl rfl (by decide) rfl (fun ls hl => ?_)
          refine lv_goto (tgt := 2) hx hb dX7_leastOf_22 (by decide) ?_
          exact ih2 (y1_2 + 1) ls hF (lv_sub hl [1, 0] rfl)
        · have hF := m_neg (fun n9 => n9 c2) hF
          refine lv_iload_n hx hb dX7_leastOf_17 rfl (lv_at hl 1 rfl) ?_
          have hF := Option.some.inj hF
          subst hF
          rw [hQ]
          exact W.iret hx hb hr (fun t ht _ => ⟨rfl, ht⟩) (fun _ h => by cases h) dX7_leastOf_18
  exact hL2 m_N 0 ls hF (lv_sub hl [1, 0] rfl)

