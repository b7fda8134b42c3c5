def fn_X0_begins (v : ActsV) (x0 : Int32) : Option ActsV :=
  jp (fun (wx_29 : ActsV) => some (Acts_ran_s wx_29 ((Acts_ran wx_29) + 1))) (fun j29 => (if (Acts_ran v) < 0 then j29 v else (if (Int32.ofNat 20) ≤ (Acts_ran v) then j29 v else (if mIn (Acts_ran v) 20 = true then j29 (Acts_kept_s v (upd (Acts_kept v) ((Acts_ran v)).toNatClampNeg x0)) else none))))
abbrev rmX0_begins : Room := { frames := 0, cells := 0, slots := 0, locals := 0 }
set_option maxRecDepth 100000 in
set_option maxHeartbeats 4000000 in
theorem c_X0_begins (l : Launch) (E : mE) (a : ActsA) (v : ActsV) (x0 : Int32) (t : ActsV) (hF : fn_X0_begins v x0 = some t) (sz : Nat) : Met l yX0_begins wsX0_begins rmX0_begins (mPm E [.ref (Actsa_self a), .int x0] sz ((Acts_c E a v)) (([] : va_W))) (mSm E (none) ((Acts_c E a t)) (va_A ((Acts_c E a v)) sz)) 0 0 (va_A ((Acts_c E a v)) sz) := by
  refine mOfM (cc := cX0_begins) (maxL := 2) (ret := none) (by decide) rfl (Nat.le_of_ble_eq_true rfl) ?_
  intro p e_ s m args below meth c Q A hQ CC hr hlocks hin hA hP hD hKN hGl hR0 hRA ls hl
  have hS : va_S A s.heap s.heap [] := va_S.rf
  have hK := hKN.1
  have hx := CC.1
  have hb := CC.2.1
  have hml := CC.2.2.1
  have hown : s.vm.findClass RX0 = some m.cls := CC.2.2.2.1
  have hts := CC.2.2.2.2
  have hl : lv_has ls 2 [(0, .ref (Actsa_self a)), (1, .int x0)] := hl
  have k0 := hts (.fieldLink RX0 15 "OneDidAll$Acts" "ran" "I") (by decide +kernel)
  have k1 := (show ∀ w ∈ u_ws RX0 TX0 5, w ∈ wsX0_begins by decide +kernel)
  have k2 := hts (.fieldLink RX0 9 "OneDidAll$Acts" "kept" "[I") (by decide +kernel)
  have hP : va_P E.1 vwCl (Acts_c E a v) s.heap := hP
  obtain ⟨H, hH⟩ : ∃ H, H = s.heap := ⟨_, rfl⟩
  obtain ⟨locs, hlc⟩ : ∃ z : List Loc, z = [] := ⟨_, rfl⟩
  rw [← hH] at hP
  rw [← hlc] at hS
  have hS : va_S A s.heap H locs := by rw [hH]; exact hS
  rw [← hH, ← hlc]
  unfold fn_X0_begins at hF
  refine lv_aload_n hx hb dX0_begins_0 rfl (lv_at hl 0 rfl) ?_
  refine va_get (D := E.1) (ci := 0) (v := .int (Acts_ran v)) (C := RX0) (T := TX0) (N := 5) hx hb hts k1 hown hK hP 0 rfl rfl 1 (by decide) k0 (fun _ h9 => h9) rfl dX0_begins_1 ?_
  obtain ⟨j29, hjd29, hF⟩ := m_jp hF
  have hj29 : ∀ (wx_29 : ActsV) (H : Heap) (locs : List Loc) (ls : Array Slot), j29 wx_29 = some t → va_P E.1 vwCl (Acts_c E a wx_29) H → va_D A (Acts_c E a wx_29) → va_S A s.heap H locs → lv_has ls 2 [(0, .ref (Actsa_self a))] → W p l e_ rmX0_begins s m args below meth c H locs 0 0 Q (F0 m 29 ls []) := by
    intro wx_29 H locs ls hF hP hD hS hl
    rw [hjd29] at hF
    refine lv_aload_n hx hb dX0_begins_29 rfl (lv_at hl 0 rfl) ?_
    refine lv_dup hx hb dX0_begins_30 rfl ?_
    refine va_get (D := E.1) (ci := 0) (v := .int (Acts_ran wx_29)) (C := RX0) (T := TX0) (N := 5) hx hb hts k1 hown hK hP 0 rfl rfl 1 (by decide) k0 (fun _ h9 => h9) rfl dX0_begins_31 ?_
    refine lv_iconst (v := 1) hx hb dX0_begins_34 (by decide) ?_
    refine lv_iadd hx hb dX0_begins_35 ?_
    refine va_put (D := E.1) (ci := 0) (v := .int ((Acts_ran wx_29) + 1)) (ty := .int) (C := RX0) (T := TX0) (N := 5) hx hb hts k1 tyX0 tyX0_ok nmX0 hown hK hP hD hS 0 rfl rfl 1 (by decide) k0 (fun _ h9 => h9) rfl (by decide +kernel) rfl rfl (Nat.le_of_ble_eq_true rfl) dX0_begins_36 (fun H locs hP hD hS => ?_)
    have hP : va_P E.1 vwCl (Acts_c E a (Acts_ran_s wx_29 ((Acts_ran wx_29) + 1))) H := hP
    have hD : va_D A (Acts_c E a (Acts_ran_s wx_29 ((Acts_ran wx_29) + 1))) := hD
    have hF := Option.some.inj hF
    subst hF
    rw [hQ]
    exact W.vret hx hb hr (fun t ht _ => ⟨⟨rfl, by rw [ht]; exact hP, hD⟩, hS.F ht⟩) hS.2.2 dX0_begins_39
  clear hjd29
  refine lv_if_lt (tgt := 29) hx hb dX0_begins_4 (by decide) (fun c1 => ?_) (fun c1 => ?_)
  · have hF := m_pos c1 hF
    exact hj29 v H locs ls hF hP hD hS (lv_sub hl [0] rfl)
  · have hF := m_neg c1 hF
    refine lv_aload_n hx hb dX0_begins_7 rfl (lv_at hl 0 rfl) ?_
    refine va_get (D := E.1) (ci := 0) (v := .int (Acts_ran v)) (C := RX0) (T := TX0) (N := 5) hx hb hts k1 hown hK hP 0 rfl rfl 1 (by decide) k0 (fun _ h9 => h9) rfl dX0_begins_8 ?_
    refine lv_aload_n hx hb dX0_begins_11 rfl (lv_at hl 0 rfl) ?_
    refine va_get (D := E.1) (ci := 0) (v := .ref (Actsa_kept a)) (C := RX0) (T := TX0) (N := 5) hx hb hts k1 hown hK hP 0 rfl rfl 0 (by decide) k2 (fun _ h9 => h9) rfl dX0_begins_12 ?_
    refine va_alen (v := (Int32.ofNat 20)) hx hb hK hP 1 1 rfl rfl rfl dX0_begins_15 ?_
    refine lv_icmp_ge (tgt := 29) hx hb dX0_begins_16 (by decide) (fun c2 => ?_) (fun c2 => ?_)
    · have hF := m_pos c2 hF
      exact hj29 v H locs ls hF hP hD hS (lv_sub hl [0] rfl)
    · have hF := m_neg c2 hF
      refine lv_aload_n hx hb dX0_begins_19 rfl (lv_at hl 0 rfl) ?_
      refine va_get (D := E.1) (ci := 0) (v := .ref (Actsa_kept a)) (C := RX0) (T := TX0) (N := 5) hx hb hts k1 hown hK hP 0 rfl rfl 0 (by decide) k2 (fun _ h9 => h9) rfl dX0_begins_20 ?_
      refine lv_aload_n hx hb dX0_begins_23 rfl (lv_at hl 0 rfl) ?_
      refine va_get (D := E.1) (ci := 0) (v := .int (Acts_ran v)) (C := RX0) (T := TX0) (N := 5) hx hb hts k1 hown hK hP 0 rfl rfl 1 (by decide) k0 (fun _ h9 => h9) rfl dX0_begins_24 ?_
      refine lv_iload_n hx hb dX0_begins_27 rfl (lv_at hl 1 rfl) ?_
      obtain ⟨h3, hF⟩ := m_chk hF
      refine va_iast (f := (Acts_kept v)) hx hb hK hP hD hS 1 1 rfl rfl (mIn_ok h3) dX0_begins_28 (fun H locs hP hD hS => ?_)
      have hP : va_P E.1 vwCl (Acts_c E a (Acts_kept_s v (upd (Acts_kept v) ((Acts_ran v)).toNatClampNeg x0))) H := hP
      have hD : va_D A (Acts_c E a (Acts_kept_s v (upd (Acts_kept v) ((Acts_ran v)).toNatClampNeg x0))) := hD
      exact hj29 (Acts_kept_s v (upd (Acts_kept v) ((Acts_ran v)).toNatClampNeg x0)) H locs ls hF hP hD hS (lv_sub hl [0] rfl)

def fn_X1_workMore (v : ForecastV) : Option Int32 :=
  some ((Group_work (Forecast_trial v)) - (Group_work (Forecast_start v)))
abbrev rmX1_workMore : Room := { frames := 0, cells := 0, slots := 0, locals := 0 }
set_option maxRecDepth 100000 in
set_option maxHeartbeats 4000000 in
theorem c_X1_workMore (l : Launch) (E : mE) (a : ForecastA) (v : ForecastV) (t : Int32) (hF : fn_X1_workMore v = some t) : Met l yX1_workMore wsX1_workMore rmX1_workMore (mPp E [.ref (Forecasta_self a)] (Forecast_c E a v)) (mSp (some (.int t))) 0 0 (fun _ => False) := by
  refine mOfP (cc := cX1_workMore) (maxL := 1) (ret := (some .int)) (by decide) rfl (Nat.le_of_ble_eq_true rfl) ?_
  intro p e_ s m args below meth c Q hQ CC hr hlocks hP hKN hGl ls hl
  have hS : va_S (fun _ => False) s.heap s.heap [] := va_S.rf
  have hK := hKN.1
  have hx := CC.1
  have hb := CC.2.1
  have hml := CC.2.2.1
  have hown : s.vm.findClass RX1 = some m.cls := CC.2.2.2.1
  have hts := CC.2.2.2.2
  have hl : lv_has ls 1 [(0, .ref (Forecasta_self a))] := hl
  have k0 := hts (.fieldLink RX1 12 "OneDidAll$Forecast" "trial" "LOneDidAll$Group;") (by decide +kernel)
  have k1 := (show ∀ w ∈ u_ws RX1 TX1 3, w ∈ wsX1_workMore by decide +kernel)
  have k2 := (va_Nw.use rfl (hKN.2.1 ("OneDidAll$Forecast", 52, "OneDidAll$Group", "work", "I", "OneDidAll") (by decide +kernel)) : (Cond.fieldLinkNest "OneDidAll$Forecast" 52 "OneDidAll$Group" "work" "I" "OneDidAll").before args s = true)
  have k3 := (show ∀ w ∈ u_ws RX2 TX2 11, w ∈ wsX1_workMore by decide +kernel)
  have k4 := hts (.fieldLink RX1 18 "OneDidAll$Forecast" "start" "LOneDidAll$Group;") (by decide +kernel)
  unfold fn_X1_workMore at hF
  refine lv_aload_n hx hb dX1_workMore_0 rfl (lv_at hl 0 rfl) ?_
  refine va_get (D := E.1) (ci := 1) (v := .ref (Groupa_self (Forecasta_trial a))) (C := RX1) (T := TX1) (N := 3) hx hb hts k1 hown hK hP 0 rfl rfl 0 (by decide) k0 (fun _ h9 => h9) rfl dX1_workMore_1 ?_
  refine va_getN (D := E.1) (ci := 2) (v := .int (Group_work (Forecast_trial v))) (C := RX2) (T := TX2) (N := 11) hx hb hts k3 hown hK hP 1 rfl rfl 2 (by decide) k2 (fun _ h9 => h9) rfl dX1_workMore_4 ?_
  refine lv_aload_n hx hb dX1_workMore_7 rfl (lv_at hl 0 rfl) ?_
  refine va_get (D := E.1) (ci := 1) (v := .ref (Groupa_self (Forecasta_start a))) (C := RX1) (T := TX1) (N := 3) hx hb hts k1 hown hK hP 0 rfl rfl 1 (by decide) k4 (fun _ h9 => h9) rfl dX1_workMore_8 ?_
  refine va_getN (D := E.1) (ci := 2) (v := .int (Group_work (Forecast_start v))) (C := RX2) (T := TX2) (N := 11) hx hb hts k3 hown hK hP 10 rfl rfl 2 (by decide) k2 (fun _ h9 => h9) rfl dX1_workMore_11 ?_
  refine lv_isub hx hb dX1_workMore_14 ?_
  have hF := Option.some.inj hF
  subst hF
  rw [hQ]
  exact W.iret hx hb hr (fun t ht _ => ⟨rfl, ht⟩) (fun _ h => by cases h) dX1_workMore_15

def fn_X1_hoursMoreOf (v : ForecastV) (x0 : Int32) : Option Int32 :=
  (if mIn x0 6 = true then (if mIn x0 6 = true then some (((Group_hours (Forecast_trial v)) (x0).toNatClampNeg) - ((Group_hours (Forecast_start v)) (x0).toNatClampNeg)) else none) else none)
abbrev rmX1_hoursMoreOf : Room := { frames := 0, cells := 0, slots := 0, locals := 0 }
set_option maxRecDepth 100000 in
set_option maxHeartbeats 4000000 in
theorem c_X1_hoursMoreOf (l : Launch) (E : mE) (a : ForecastA) (v : ForecastV) (x0 : Int32) (t : Int32) (hF : fn_X1_hoursMoreOf v x0 = some t) : Met l yX1_hoursMoreOf wsX1_hoursMoreOf rmX1_hoursMoreOf (mPp E [.ref (Forecasta_self a), .int x0] (Forecast_c E a v)) (mSp (some (.int t))) 0 0 (fun _ => False) := by
  refine mOfP (cc := cX1_hoursMoreOf) (maxL := 2) (ret := (some .int)) (by decide) rfl (Nat.le_of_ble_eq_true rfl) ?_
  intro p e_ s m args below meth c Q hQ CC hr hlocks hP hKN hGl ls hl
  have hS : va_S (fun _ => False) s.heap s.heap [] := va_S.rf
  have hK := hKN.1
  have hx := CC.1
  have hb := CC.2.1
  have hml := CC.2.2.1
  have hown : s.vm.findClass RX1 = some m.cls := CC.2.2.2.1
  have hts := CC.2.2.2.2
  have hl : lv_has ls 2 [(0, .ref (Forecasta_self a)), (1, .int x0)] := hl
  have k0 := hts (.fieldLink RX1 12 "OneDidAll$Forecast" "trial" "LOneDidAll$Group;") (by decide +kernel)
  have k1 := (show ∀ w ∈ u_ws RX1 TX1 3, w ∈ wsX1_hoursMoreOf by decide +kernel)
  have k2 := (va_Nw.use rfl (hKN.2.1 ("OneDidAll$Forecast", 60, "OneDidAll$Group", "hours", "[I", "OneDidAll") (by decide +kernel)) : (Cond.fieldLinkNest "OneDidAll$Forecast" 60 "OneDidAll$Group" "hours" "[I" "OneDidAll").before args s = true)
  have k3 := (show ∀ w ∈ u_ws RX2 TX2 11, w ∈ wsX1_hoursMoreOf by decide +kernel)
  have k4 := hts (.fieldLink RX1 18 "OneDidAll$Forecast" "start" "LOneDidAll$Group;") (by decide +kernel)
  unfold fn_X1_hoursMoreOf at hF
  refine lv_aload_n hx hb dX1_hoursMoreOf_0 rfl (lv_at hl 0 rfl) ?_
  refine va_get (D := E.1) (ci := 1) (v := .ref (Groupa_self (Forecasta_trial a))) (C := RX1) (T := TX1) (N := 3) hx hb hts k1 hown hK hP 0 rfl rfl 0 (by decide) k0 (fun _ h9 => h9) rfl dX1_hoursMoreOf_1 ?_
  refine va_getN (D := E.1) (ci := 2) (v := .ref (Groupa_hours (Forecasta_trial a))) (C := RX2) (T := TX2) (N := 11) hx hb hts k3 hown hK hP 1 rfl rfl 7 (by decide) k2 (fun _ h9 => h9) rfl dX1_hoursMoreOf_4 ?_
  refine lv_iload_n hx hb dX1_hoursMoreOf_7 rfl (lv_at hl 1 rfl) ?_
  obtain ⟨h1, hF⟩ := m_chk hF
  refine va_iald (f := (Group_hours (Forecast_trial v))) hx hb hK hP 6 1 rfl rfl (mIn_ok h1) dX1_hoursMoreOf_8 ?_
  refine W.eq (g2 := F0 m 9 ls [.int ((Group_hours (Forecast_trial v)) (x0).toNatClampNeg)]) rfl ?_
  refine lv_aload_n hx hb dX1_hoursMoreOf_9 rfl (lv_at hl 0 rfl) ?_
  refine va_get (D := E.1) (ci := 1) (v := .ref (Groupa_self (Forecasta_start a))) (C := RX1) (T := TX1) (N := 3) hx hb hts k1 hown hK hP 0 rfl rfl 1 (by decide) k4 (fun _ h9 => h9) rfl dX1_hoursMoreOf_10 ?_
  refine va_getN (D := E.1) (ci := 2) (v := .ref (Groupa_hours (Forecasta_start a))) (C := RX2) (T := TX2) (N := 11) hx hb hts k3 hown hK hP 10 rfl rfl 7 (by decide) k2 (fun _ h9 => h9) rfl dX1_hoursMoreOf_13 ?_
  refine lv_iload_n hx hb dX1_hoursMoreOf_16 rfl (lv_at hl 1 rfl) ?_
  obtain ⟨h2, hF⟩ := m_chk hF
  refine va_iald (f := (Group_hours (Forecast_start v))) hx hb hK hP 15 1 rfl rfl (mIn_ok h2) dX1_hoursMoreOf_17 ?_
  refine W.eq (g2 := F0 m 18 ls [.int ((Group_hours (Forecast_start v)) (x0).toNatClampNeg), .int ((Group_hours (Forecast_trial v)) (x0).toNatClampNeg)]) rfl ?_
  refine lv_isub hx hb dX1_hoursMoreOf_18 ?_
  have hF := Option.some.inj hF
  subst hF
  rw [hQ]
  exact W.iret hx hb hr (fun t ht _ => ⟨rfl, ht⟩) (fun _ h => by cases h) dX1_hoursMoreOf_19

def st_X2_add_76 (j103 : GroupV → Option (Int32 × GroupV)) (rec76 : Int32 → GroupV → Option (Int32 × GroupV)) (y5_76 : Int32) (wy_76 : GroupV) : Option (Int32 × GroupV) :=
  (if 4 ≤ y5_76 then j103 wy_76 else (if mIn (((Group_size wy_76) * 4) + y5_76) 24 = true then rec76 (y5_76 + 1) (Group_rows_s wy_76 (upd (Group_rows wy_76) ((((Group_size wy_76) * 4) + y5_76)).toNatClampNeg 0)) else none))
def lp_X2_add_76 (j103 : GroupV → Option (Int32 × GroupV)) : Nat → Int32 → GroupV → Option (Int32 × GroupV)
  | 0 => fun _ _ => none
  | n + 1 => st_X2_add_76 j103 (lp_X2_add_76 j103 n)
def fn_X2_add (v : GroupV) (x0 : Int32) (x1 : Int32) (x2 : Int32) (x3 : Int32) : Option (Int32 × GroupV) :=
  (if (Group_size v) < 6 then (if mIn (Group_size v) 6 = true then (if mIn (Group_size v) 6 = true then (if mIn (Group_size v) 6 = true then (if mIn (Group_size v) 6 = true then (if mIn (Group_size v) 6 = true then (if mIn (Group_size v) 6 = true then jp (fun (wx_103 : GroupV) => some ((((Group_size wx_103) + 1) - 1), (Group_size_s wx_103 ((Group_size wx_103) + 1)))) (fun j103 => lp_X2_add_76 j103 m_N 0 (Group_outs_s (Group_hours_s (Group_wills_s (Group_skills_s (Group_vs_s (Group_kinds_s v (upd (Group_kinds v) ((Group_size v)).toNatClampNeg x0)) (upd (Group_vs v) ((Group_size v)).toNatClampNeg x1)) (upd (Group_skills v) ((Group_size v)).toNatClampNeg x2)) (upd (Group_wills v) ((Group_size v)).toNatClampNeg x3)) (upd (Group_hours v) ((Group_size v)).toNatClampNeg 0)) (upd (Group_outs v) ((Group_size v)).toNatClampNeg (vp_nar .boolean 0)))) else none) else none) else none) else none) else none) else none) else some ((-4), v))
abbrev rmX2_add : Room := { frames := 0, cells := 0, slots := 0, locals := 0 }
set_option maxRecDepth 100000 in
set_option maxHeartbeats 4000000 in
theorem c_X2_add (l : Launch) (E : mE) (a : GroupA) (v : GroupV) (x0 : Int32) (x1 : Int32) (x2 : Int32) (x3 : Int32) (t : (Int32 × GroupV)) (hF : fn_X2_add v x0 x1 x2 x3 = some t) (sz : Nat) : Met l yX2_add wsX2_add rmX2_add (mPm E [.ref (Groupa_self a), .int x0, .int x1, .int x2, .int x3] sz ((Group_c E a v)) (([] : va_W))) (mSm E (some (.int t.1)) ((Group_c E a t.2)) (va_A ((Group_c E a v)) sz)) 0 0 (va_A ((Group_c E a v)) sz) := by
  refine mOfM (cc := cX2_add) (maxL := 6) (ret := (some .int)) (by decide) rfl (Nat.le_of_ble_eq_true rfl) ?_
  intro p e_ s m args below meth c Q A hQ CC hr hlocks hin hA hP hD hKN hGl hR0 hRA ls hl
  have hS : va_S A s.heap s.heap [] := va_S.rf
  have hK := hKN.1
  have hx := CC.1
  have hb := CC.2.1
  have hml := CC.2.2.1
  have hown : s.vm.findClass RX2 = some m.cls := CC.2.2.2.1
  have hts := CC.2.2.2.2
  have hl : lv_has ls 6 [(0, .ref (Groupa_self a)), (1, .int x0), (2, .int x1), (3, .int x2), (4, .int x3)] := hl
  have k0 := hts (.fieldLink RX2 9 "OneDidAll$Group" "size" "I") (by decide +kernel)
  have k1 := (show ∀ w ∈ u_ws RX2 TX2 11, w ∈ wsX2_add by decide +kernel)
  have k2 := hts (.fieldLink RX2 21 "OneDidAll$Group" "kinds" "[I") (by decide +kernel)
  have k3 := hts (.fieldLink RX2 25 "OneDidAll$Group" "vs" "[I") (by decide +kernel)
  have k4 := hts (.fieldLink RX2 28 "OneDidAll$Group" "skills" "[I") (by decide +kernel)
  have k5 := hts (.fieldLink RX2 31 "OneDidAll$Group" "wills" "[I") (by decide +kernel)
  have k6 := hts (.fieldLink RX2 34 "OneDidAll$Group" "hours" "[I") (by decide +kernel)
  have k7 := hts (.fieldLink RX2 37 "OneDidAll$Group" "outs" "[Z") (by decide +kernel)
  have k8 := hts (.fieldLink RX2 41 "OneDidAll$Group" "rows" "[I") (by decide +kernel)
  have hP : va_P E.1 vwCl (Group_c E a v) s.heap := hP
  obtain ⟨H, hH⟩ : ∃ H, H = s.heap := ⟨_, rfl⟩
  obtain ⟨locs, hlc⟩ : ∃ z : List Loc, z = [] := ⟨_, rfl⟩
  rw [← hH] at hP
  rw [← hlc] at hS
  have hS : va_S A s.heap H locs := by rw [hH]; exact hS
  rw [← hH, ← hlc]
  unfold fn_X2_add at hF
  refine lv_aload_n hx hb dX2_add_0 rfl (lv_at hl 0 rfl) ?_
  refine va_get (D := E.1) (ci := 2) (v := .int (Group_size v)) (C := RX2) (T := TX2) (N := 11) hx hb hts k1 hown hK hP 0 rfl rfl 0 (by decide) k0 (fun _ h9 => h9) rfl dX2_add_1 ?_
  refine lv_bipush (v := 6) hx hb dX2_add_4 (by decide) ?_
  refine lv_icmp_lt (tgt := 12) hx hb dX2_add_6 (by decide) (fun c1 => ?_) (fun c1 => ?_)
  · have hF := m_pos c1 hF
    refine lv_aload_n hx hb dX2_add_12 rfl (lv_at hl 0 rfl) ?_
    refine va_get (D := E.1) (ci := 2) (v := .ref (Groupa_kinds a)) (C := RX2) (T := TX2) (N := 11) hx hb hts k1 hown hK hP 0 rfl rfl 3 (by decide) k2 (fun _ h9 => h9) rfl dX2_add_13 ?_
    refine lv_aload_n hx hb dX2_add_16 rfl (lv_at hl 0 rfl) ?_
    refine va_get (D := E.1) (ci := 2) (v := .int (Group_size v)) (C := RX2) (T := TX2) (N := 11) hx hb hts k1 hown hK hP 0 rfl rfl 0 (by decide) k0 (fun _ h9 => h9) rfl dX2_add_17 ?_
    refine lv_iload_n hx hb dX2_add_20 rfl (lv_at hl 1 rfl) ?_
    obtain ⟨h2, hF⟩ := m_chk hF
    refine va_iast (f := (Group_kinds v)) hx hb hK hP hD hS 1 1 rfl rfl (mIn_ok h2) dX2_add_21 (fun H locs hP hD hS => ?_)
    have hP : va_P E.1 vwCl (Group_c E a (Group_kinds_s v (upd (Group_kinds v) ((Group_size v)).toNatClampNeg x0))) H := hP
    have hD : va_D A (Group_c E a (Group_kinds_s v (upd (Group_kinds v) ((Group_size v)).toNatClampNeg x0))) := hD
    refine lv_aload_n hx hb dX2_add_22 rfl (lv_at hl 0 rfl) ?_
    refine va_get (D := E.1) (ci := 2) (v := .ref (Groupa_vs a)) (C := RX2) (T := TX2) (N := 11) hx hb hts k1 hown hK hP 0 rfl rfl 4 (by decide) k3 (fun _ h9 => h9) rfl dX2_add_23 ?_
    refine lv_aload_n hx hb dX2_add_26 rfl (lv_at hl 0 rfl) ?_
    refine va_get (D := E.1) (ci := 2) (v := .int (Group_size v)) (C := RX2) (T := TX2) (N := 11) hx hb hts k1 hown hK hP 0 rfl rfl 0 (by decide) k0 (fun _ h9 => h9) rfl dX2_add_27 ?_
    refine lv_iload_n hx hb dX2_add_30 rfl (lv_at hl 2 rfl) ?_
    obtain ⟨h3, hF⟩ := m_chk hF
    refine va_iast (f := (Group_vs v)) hx hb hK hP hD hS 2 1 rfl rfl (mIn_ok h3) dX2_add_31 (fun H locs hP hD hS => ?_)
    have hP : va_P E.1 vwCl (Group_c E a (Group_vs_s (Group_kinds_s v (upd (Group_kinds v) ((Group_size v)).toNatClampNeg x0)) (upd (Group_vs v) ((Group_size v)).toNatClampNeg x1))) H := hP
    have hD : va_D A (Group_c E a (Group_vs_s (Group_kinds_s v (upd (Group_kinds v) ((Group_size v)).toNatClampNeg x0)) (upd (Group_vs v) ((Group_size v)).toNatClampNeg x1))) := hD
    refine lv_aload_n hx hb dX2_add_32 rfl (lv_at hl 0 rfl) ?_
    refine va_get (D := E.1) (ci := 2) (v := .ref (Groupa_skills a)) (C := RX2) (T := TX2) (N := 11) hx hb hts k1 hown hK hP 0 rfl rfl 5 (by decide) k4 (fun _ h9 => h9) rfl dX2_add_33 ?_
    refine lv_aload_n hx hb dX2_add_36 rfl (lv_at hl 0 rfl) ?_
    refine va_get (D := E.1) (ci := 2) (v := .int (Group_size v)) (C := RX2) (T := TX2) (N := 11) hx hb hts k1 hown hK hP 0 rfl rfl 0 (by decide) k0 (fun _ h9 => h9) rfl dX2_add_37 ?_
    refine lv_iload_n hx hb dX2_add_40 rfl (lv_at hl 3 rfl) ?_
    obtain ⟨h4, hF⟩ := m_chk hF
    refine va_iast (f := (Group_skills v)) hx hb hK hP hD hS 3 1 rfl rfl (mIn_ok h4) dX2_add_41 (fun H locs hP hD hS => ?_)
    have hP : va_P E.1 vwCl (Group_c E a (Group_skills_s (Group_vs_s (Group_kinds_s v (upd (Group_kinds v) ((Group_size v)).toNatClampNeg x0)) (upd (Group_vs v) ((Group_size v)).toNatClampNeg x1)) (upd (Group_skills v) ((Group_size v)).toNatClampNeg x2))) H := hP
    have hD : va_D A (Group_c E a (Group_skills_s (Group_vs_s (Group_kinds_s v (upd (Group_kinds v) ((Group_size v)).toNatClampNeg x0)) (upd (Group_vs v) ((Group_size v)).toNatClampNeg x1)) (upd (Group_skills v) ((Group_size v)).toNatClampNeg x2))) := hD
    refine lv_aload_n hx hb dX2_add_42 rfl (lv_at hl 0 rfl) ?_
    refine va_get (D := E.1) (ci := 2) (v := .ref (Groupa_wills a)) (C := RX2) (T := TX2) (N := 11) hx hb hts k1 hown hK hP 0 rfl rfl 6 (by decide) k5 (fun _ h9 => h9) rfl dX2_add_43 ?_
    refine lv_aload_n hx hb dX2_add_46 rfl (lv_at hl 0 rfl) ?_
    refine va_get (D := E.1) (ci := 2) (v := .int (Group_size v)) (C := RX2) (T := TX2) (N := 11) hx hb hts k1 hown hK hP 0 rfl rfl 0 (by decide) k0 (fun _ h9 => h9) rfl dX2_add_47 ?_
    refine lv_iload hx hb dX2_add_50 (lv_at hl 4 rfl) ?_
    obtain ⟨h5, hF⟩ := m_chk hF
    refine va_iast (f := (Group_wills v)) hx hb hK hP hD hS 4 1 rfl rfl (mIn_ok h5) dX2_add_52 (fun H locs hP hD hS => ?_)
    have hP : va_P E.1 vwCl (Group_c E a (Group_wills_s (Group_skills_s (Group_vs_s (Group_kinds_s v (upd (Group_kinds v) ((Group_size v)).toNatClampNeg x0)) (upd (Group_vs v) ((Group_size v)).toNatClampNeg x1)) (upd (Group_skills v) ((Group_size v)).toNatClampNeg x2)) (upd (Group_wills v) ((Group_size v)).toNatClampNeg x3))) H := hP
    have hD : va_D A (Group_c E a (Group_wills_s (Group_skills_s (Group_vs_s (Group_kinds_s v (upd (Group_kinds v) ((Group_size v)).toNatClampNeg x0)) (upd (Group_vs v) ((Group_size v)).toNatClampNeg x1)) (upd (Group_skills v) ((Group_size v)).toNatClampNeg x2)) (upd (Group_wills v) ((Group_size v)).toNatClampNeg x3))) := hD
    refine lv_aload_n hx hb dX2_add_53 rfl (lv_at hl 0 rfl) ?_
    refine va_get (D := E.1) (ci := 2) (v := .ref (Groupa_hours a)) (C := RX2) (T := TX2) (N := 11) hx hb hts k1 hown hK hP 0 rfl rfl 7 (by decide) k6 (fun _ h9 => h9) rfl dX2_add_54 ?_
    refine lv_aload_n hx hb dX2_add_57 rfl (lv_at hl 0 rfl) ?_
    refine va_get (D := E.1) (ci := 2) (v := .int (Group_size v)) (C := RX2) (T := TX2) (N := 11) hx hb hts k1 hown hK hP 0 rfl rfl 0 (by decide) k0 (fun _ h9 => h9) rfl dX2_add_58 ?_
    refine lv_iconst (v := 0) hx hb dX2_add_61 (by decide) ?_
    obtain ⟨h6, hF⟩ := m_chk hF
    refine va_iast (f := (Group_hours v)) hx hb hK hP hD hS 5 1 rfl rfl (mIn_ok h6) dX2_add_62 (fun H locs hP hD hS => ?_)
    have hP : va_P E.1 vwCl (Group_c E a (Group_hours_s (Group_wills_s (Group_skills_s (Group_vs_s (Group_kinds_s v (upd (Group_kinds v) ((Group_size v)).toNatClampNeg x0)) (upd (Group_vs v) ((Group_size v)).toNatClampNeg x1)) (upd (Group_skills v) ((Group_size v)).toNatClampNeg x2)) (upd (Group_wills v) ((Group_size v)).toNatClampNeg x3)) (upd (Group_hours v) ((Group_size v)).toNatClampNeg 0))) H := hP
    have hD : va_D A (Group_c E a (Group_hours_s (Group_wills_s (Group_skills_s (Group_vs_s (Group_kinds_s v (upd (Group_kinds v) ((Group_size v)).toNatClampNeg x0)) (upd (Group_vs v) ((Group_size v)).toNatClampNeg x1)) (upd (Group_skills v) ((Group_size v)).toNatClampNeg x2)) (upd (Group_wills v) ((Group_size v)).toNatClampNeg x3)) (upd (Group_hours v) ((Group_size v)).toNatClampNeg 0))) := hD
    refine lv_aload_n hx hb dX2_add_63 rfl (lv_at hl 0 rfl) ?_
    refine va_get (D := E.1) (ci := 2) (v := .ref (Groupa_outs a)) (C := RX2) (T := TX2) (N := 11) hx hb hts k1 hown hK hP 0 rfl rfl 8 (by decide) k7 (fun _ h9 => h9) rfl dX2_add_64 ?_
    refine lv_aload_n hx hb dX2_add_67 rfl (lv_at hl 0 rfl) ?_
    refine va_get (D := E.1) (ci := 2) (v := .int (Group_size v)) (C := RX2) (T := TX2) (N := 11) hx hb hts k1 hown hK hP 0 rfl rfl 0 (by decide) k0 (fun _ h9 => h9) rfl dX2_add_68 ?_
    refine lv_iconst (v := 0) hx hb dX2_add_71 (by decide) ?_
    obtain ⟨h7, hF⟩ := m_chk hF
    refine va_zast (f := (Group_outs v)) hx hb hK hP hD hS 6 2 rfl rfl (mIn_ok h7) dX2_add_72 (fun H locs hP hD hS => ?_)
    have hP : va_P E.1 vwCl (Group_c E a (Group_outs_s (Group_hours_s (Group_wills_s (Group_skills_s (Group_vs_s (Group_kinds_s v (upd (Group_kinds v) ((Group_size v)).toNatClampNeg x0)) (upd (Group_vs v) ((Group_size v)).toNatClampNeg x1)) (upd (Group_skills v) ((Group_size v)).toNatClampNeg x2)) (upd (Group_wills v) ((Group_size v)).toNatClampNeg x3)) (upd (Group_hours v) ((Group_size v)).toNatClampNeg 0)) (upd (Group_outs v) ((Group_size v)).toNatClampNeg (vp_nar .boolean 0)))) H := hP
    have hD : va_D A (Group_c E a (Group_outs_s (Group_hours_s (Group_wills_s (Group_skills_s (Group_vs_s (Group_kinds_s v (upd (Group_kinds v) ((Group_size v)).toNatClampNeg x0)) (upd (Group_vs v) ((Group_size v)).toNatClampNeg x1)) (upd (Group_skills v) ((Group_size v)).toNatClampNeg x2)) (upd (Group_wills v) ((Group_size v)).toNatClampNeg x3)) (upd (Group_hours v) ((Group_size v)).toNatClampNeg 0)) (upd (Group_outs v) ((Group_size v)).toNatClampNeg (vp_nar .boolean 0)))) := hD
    refine lv_iconst (v := 0) hx hb dX2_add_73 (by decide) ?_
    refine lv_istore (lv' := [(5, .int 0), (0, .ref (Groupa_self a)), (1, .int x0), (2, .int x1), (3, .int x2), (4, .int x3)]) hx hb dX2_add_74 hl (by decide) rfl (fun ls hl => ?_)
    obtain ⟨j103, hjd103, hF⟩ := m_jp hF
    have hj103 : ∀ (wx_103 : GroupV) (H : Heap) (locs : List Loc) (ls : Array Slot), j103 wx_103 = some t → va_P E.1 vwCl (Group_c E a wx_103) H → va_D A (Group_c E a wx_103) → va_S A s.heap H locs → lv_has ls 6 [(0, .ref (Groupa_self a))] → W p l e_ rmX2_add s m args below meth c H locs 0 0 Q (F0 m 103 ls []) := by
      intro wx_103 H locs ls hF hP hD hS hl
      rw [hjd103] at hF
      refine lv_aload_n hx hb dX2_add_103 rfl (lv_at hl 0 rfl) ?_
      refine lv_dup hx hb dX2_add_104 rfl ?_
      refine va_get (D := E.1) (ci := 2) (v := .int (Group_size wx_103)) (C := RX2) (T := TX2) (N := 11) hx hb hts k1 hown hK hP 0 rfl rfl 0 (by decide) k0 (fun _ h9 => h9) rfl dX2_add_105 ?_
      refine lv_iconst (v := 1) hx hb dX2_add_108 (by decide) ?_
      refine lv_iadd hx hb dX2_add_109 ?_
      refine va_put (D := E.1) (ci := 2) (v := .int ((Group_size wx_103) + 1)) (ty := .int) (C := RX2) (T := TX2) (N := 11) hx hb hts k1 tyX2 tyX2_ok nmX2 hown hK hP hD hS 0 rfl rfl 0 (by decide) k0 (fun _ h9 => h9) rfl (by decide +kernel) rfl rfl (Nat.le_of_ble_eq_true rfl) dX2_add_110 (fun H locs hP hD hS => ?_)
      have hP : va_P E.1 vwCl (Group_c E a (Group_size_s wx_103 ((Group_size wx_103) + 1))) H := hP
      have hD : va_D A (Group_c E a (Group_size_s wx_103 ((Group_size wx_103) + 1))) := hD
      refine lv_aload_n hx hb dX2_add_113 rfl (lv_at hl 0 rfl) ?_
      refine va_get (D := E.1) (ci := 2) (v := .int ((Group_size wx_103) + 1)) (C := RX2) (T := TX2) (N := 11) hx hb hts k1 hown hK hP 0 rfl rfl 0 (by decide) k0 (fun _ h9 => h9) rfl dX2_add_114 ?_
      refine lv_iconst (v := 1) hx hb dX2_add_117 (by decide) ?_
      refine lv_isub hx hb dX2_add_118 ?_
      have hF := Option.some.inj hF
      subst hF
      rw [hQ]
      exact W.iret hx hb hr (fun t ht _ => ⟨⟨rfl, by rw [ht]; exact hP, hD⟩, hS.F ht⟩) hS.2.2 dX2_add_119
    clear hjd103
    have hL76 : ∀ (n : Nat) (y5_76 : Int32) (wy_76 : GroupV) (H : Heap) (locs : List Loc) (ls : Array Slot), lp_X2_add_76 j103 n y5_76 wy_76 = some t → va_P E.1 vwCl (Group_c E a wy_76) H → va_D A (Group_c E a wy_76) → va_S A s.heap H locs → lv_has ls 6 [(0, .ref (Groupa_self a)), (5, .int y5_76)] → W p l e_ rmX2_add s m args below meth c H locs 0 0 Q (F0 m 76 ls []) := by
      intro n
      induction n with
      | zero =>
        intro y5_76 wy_76 H locs ls hF
        exact nomatch (show (none : Option (Int32 × GroupV)) = some t from hF)
      | succ n ih76 =>
        intro y5_76 wy_76 H locs ls hF hP hD hS hl
        have hF : st_X2_add_76 j103 (lp_X2_add_76 j103 n) y5_76 wy_76 = some t := hF
        unfold st_X2_add_76 at hF
        refine lv_iload hx hb dX2_add_76 (lv_at hl 1 rfl) ?_
        refine lv_iconst (v := 4) hx hb dX2_add_78 (by decide) ?_
        refine lv_icmp_ge (tgt := 103) hx hb dX2_add_79 (by decide) (fun c8 => ?_) (fun c8 => ?_)
        · have hF := m_pos c8 hF
          exact hj103 wy_76 H locs ls hF hP hD hS (lv_sub hl [0] rfl)
        · have hF := m_neg c8 hF
          refine lv_aload_n hx hb dX2_add_82 rfl (lv_at hl 0 rfl) ?_
          refine va_get (D := E.1) (ci := 2) (v := .ref (Groupa_rows a)) (C := RX2) (T := TX2) (N := 11) hx hb hts k1 hown hK hP 0 rfl rfl 9 (by decide) k8 (fun _ h9 => h9) rfl dX2_add_83 ?_
          refine lv_aload_n hx hb dX2_add_86 rfl (lv_at hl 0 rfl) ?_
          refine va_get (D := E.1) (ci := 2) (v := .int (Group_size wy_76)) (C := RX2) (T := TX2) (N := 11) hx hb hts k1 hown hK hP 0 rfl rfl 0 (by decide) k0 (fun _ h9 => h9) rfl dX2_add_87 ?_
          refine lv_iconst (v := 4) hx hb dX2_add_90 (by decide) ?_
          refine lv_imul hx hb dX2_add_91 ?_
          refine lv_iload hx hb dX2_add_92 (lv_at hl 1 rfl) ?_
          refine lv_iadd hx hb dX2_add_94 ?_
          refine lv_iconst (v := 0) hx hb dX2_add_95 (by decide) ?_
          obtain ⟨h9, hF⟩ := m_chk hF
          refine va_iast (f := (Group_rows wy_76)) hx hb hK hP hD hS 7 1 rfl rfl (mIn_ok h9) dX2_add_96 (fun H locs hP hD hS => ?_)
          have hP : va_P E.1 vwCl (Group_c E a (Group_rows_s wy_76 (upd (Group_rows wy_76) ((((Group_size wy_76) * 4) + y5_76)).toNatClampNeg 0))) H := hP
          have hD : va_D A (Group_c E a (Group_rows_s wy_76 (upd (Group_rows wy_76) ((((Group_size wy_76) * 4) + y5_76)).toNatClampNeg 0))) := hD
          refine lv_iinc (v := (y5_76 + 1)) (lv' := [(5, .int (y5_76 + 1)), (0, .ref (Groupa_self a))]) hx hb dX2_add_97 hl (k := 1) rfl rfl (by decide) rfl (fun ls hl => ?_)
          refine lv_goto (tgt := 76) hx hb dX2_add_100 (by decide) ?_
          exact ih76 (y5_76 + 1) (Group_rows_s wy_76 (upd (Group_rows wy_76) ((((Group_size wy_76) * 4) + y5_76)).toNatClampNeg 0)) H locs ls hF hP hD hS (lv_sub hl [1, 0] rfl)
    exact hL76 m_N 0 (Group_outs_s (Group_hours_s (Group_wills_s (Group_skills_s (Group_vs_s (Group_kinds_s v (upd (Group_kinds v) ((Group_size v)).toNatClampNeg x0)) (upd (Group_vs v) ((Group_size v)).toNatClampNeg x1)) (upd (Group_skills v) ((Group_size v)).toNatClampNeg x2)) (upd (Group_wills v) ((Group_size v)).toNatClampNeg x3)) (upd (Group_hours v) ((Group_size v)).toNatClampNeg 0)) (upd (Group_outs v) ((Group_size v)).toNatClampNeg (vp_nar .boolean 0))) H locs ls hF hP hD hS (lv_sub hl [1, 0] rfl)
  · have hF := m_neg c1 hF
    refine lv_bipush (v := (-4)) hx hb dX2_add_9 (by decide) ?_
    have hF := Option.some.inj hF
    subst hF
    rw [hQ]
    exact W.iret hx hb hr (fun t ht _ => ⟨⟨rfl, by rw [ht]; exact hP, hD⟩, hS.F ht⟩) hS.2.2 dX2_add_11

def fn_X2_subjectOf (v : GroupV) (x0 : Int32) (x1 : Int32) : Option Int32 :=
  (if x1 = 0 then some x0 else (if x1 = 1 then (if mIn x0 6 = true then some ((Group_kinds v) (x0).toNatClampNeg) else none) else (if x1 = 2 then (if mIn x0 6 = true then some ((Group_vs v) (x0).toNatClampNeg) else none) else (if x1 = 3 then (if mIn x0 6 = true then some ((Group_skills v) (x0).toNatClampNeg) else none) else (if x1 = 4 then (if mIn x0 6 = true then some (((Group_hours v) (x0).toNatClampNeg) / 10) else none) else some (mRem (Group_week v) 10))))))
abbrev rmX2_subjectOf : Room := { frames := 0, cells := 0, slots := 0, locals := 0 }
set_option maxRecDepth 100000 in
set_option maxHeartbeats 4000000 in
theorem c_X2_subjectOf (l : Launch) (E : mE) (a : GroupA) (v : GroupV) (x0 : Int32) (x1 : Int32) (t : Int32) (hF : fn_X2_subjectOf v x0 x1 = some t) : Met l yX2_subjectOf wsX2_subjectOf rmX2_subjectOf (mPp E [.ref (Groupa_self a), .int x0, .int x1] (Group_c E a v)) (mSp (some (.int t))) 0 0 (fun _ => False) := by
  refine mOfP (cc := cX2_subjectOf) (maxL := 3) (ret := (some .int)) (by decide) rfl (Nat.le_of_ble_eq_true rfl) ?_
  intro p e_ s m args below meth c Q hQ CC hr hlocks hP hKN hGl ls hl
  have hS : va_S (fun _ => False) s.heap s.heap [] := va_S.rf
  have hK := hKN.1
  have hx := CC.1
  have hb := CC.2.1
  have hml := CC.2.2.1
  have hown : s.vm.findClass RX2 = some m.cls := CC.2.2.2.1
  have hts := CC.2.2.2.2
  have hl : lv_has ls 3 [(0, .ref (Groupa_self a)), (1, .int x0), (2, .int x1)] := hl
  have k0 := hts (.fieldLink RX2 21 "OneDidAll$Group" "kinds" "[I") (by decide +kernel)
  have k1 := (show ∀ w ∈ u_ws RX2 TX2 11, w ∈ wsX2_subjectOf by decide +kernel)
  have k2 := hts (.fieldLink RX2 25 "OneDidAll$Group" "vs" "[I") (by decide +kernel)
  have k3 := hts (.fieldLink RX2 28 "OneDidAll$Group" "skills" "[I") (by decide +kernel)
  have k4 := hts (.fieldLink RX2 34 "OneDidAll$Group" "hours" "[I") (by decide +kernel)
  have k5 := hts (.fieldLink RX2 15 "OneDidAll$Group" "week" "I") (by decide +kernel)
  unfold fn_X2_subjectOf at hF
  refine lv_iload_n hx hb dX2_subjectOf_0 rfl (lv_at hl 2 rfl) ?_
  by_cases c1 : x1 = 0
  · have hF := m_pos c1 hF
    refine lv_tableIn (off := 35) (tgt := 36) hx hb dX2_subjectOf_1 (by rw [c1]; decide) (by rw [c1]; decide) (by rw [c1]; rfl) (by decide) ?_
    refine lv_iload_n hx hb dX2_subjectOf_36 rfl (lv_at hl 1 rfl) ?_
    have hF := Option.some.inj hF
    subst hF
    rw [hQ]
    exact W.iret hx hb hr (fun t ht _ => ⟨rfl, ht⟩) (fun _ h => by cases h) dX2_subjectOf_37
  · have hF := m_neg c1 hF
    by_cases c2 : x1 = 1
    · have hF := m_pos c2 hF
      refine lv_tableIn (off := 37) (tgt := 38) hx hb dX2_subjectOf_1 (by rw [c2]; decide) (by rw [c2]; decide) (by rw [c2]; rfl) (by decide) ?_
      refine lv_aload_n hx hb dX2_subjectOf_38 rfl (lv_at hl 0 rfl) ?_
      refine va_get (D := E.1) (ci := 2) (v := .ref (Groupa_kinds a)) (C := RX2) (T := TX2) (N := 11) hx hb hts k1 hown hK hP 0 rfl rfl 3 (by decide) k0 (fun _ h9 => h9) rfl dX2_subjectOf_39 ?_
      refine lv_iload_n hx hb dX2_subjectOf_42 rfl (lv_at hl 1 rfl) ?_
      obtain ⟨h3, hF⟩ := m_chk hF
      refine va_iald (f := (Group_kinds v)) hx hb hK hP 1 1 rfl rfl (mIn_ok h3) dX2_subjectOf_43 ?_
      refine W.eq (g2 := F0 m 44 ls [.int ((Group_kinds v) (x0).toNatClampNeg)]) rfl ?_
      have hF := Option.some.inj hF
      subst hF
      rw [hQ]
      exact W.iret hx hb hr (fun t ht _ => ⟨rfl, ht⟩) (fun _ h => by cases h) dX2_subjectOf_44
    · have hF := m_neg c2 hF
      by_cases c4 : x1 = 2
      · have hF := m_pos c4 hF
        refine lv_tableIn (off := 44) (tgt := 45) hx hb dX2_subjectOf_1 (by rw [c4]; decide) (by rw [c4]; decide) (by rw [c4]; rfl) (by decide) ?_
        refine lv_aload_n hx hb dX2_subjectOf_45 rfl (lv_at hl 0 rfl) ?_
        refine va_get (D := E.1) (ci := 2) (v := .ref (Groupa_vs a)) (C := RX2) (T := TX2) (N := 11) hx hb hts k1 hown hK hP 0 rfl rfl 4 (by decide) k2 (fun _ h9 => h9) rfl dX2_subjectOf_46 ?_
        refine lv_iload_n hx hb dX2_subjectOf_49 rfl (lv_at hl 1 rfl) ?_
        obtain ⟨h5, hF⟩ := m_chk hF
        refine va_iald (f := (Group_vs v)) hx hb hK hP 2 1 rfl rfl (mIn_ok h5) dX2_subjectOf_50 ?_
        refine W.eq (g2 := F0 m 51 ls [.int ((Group_vs v) (x0).toNatClampNeg)]) rfl ?_
        have hF := Option.some.inj hF
        subst hF
        rw [hQ]
        exact W.iret hx hb hr (fun t ht _ => ⟨rfl, ht⟩) (fun _ h => by cases h) dX2_subjectOf_51
      · have hF := m_neg c4 hF
        by_cases c6 : x1 = 3
        · have hF := m_pos c6 hF
          refine lv_tableIn (off := 51) (tgt := 52) hx hb dX2_subjectOf_1 (by rw [c6]; decide) (by rw [c6]; decide) (by rw [c6]; rfl) (by decide) ?_
          refine lv_aload_n hx hb dX2_subjectOf_52 rfl (lv_at hl 0 rfl) ?_
          refine va_get (D := E.1) (ci := 2) (v := .ref (Groupa_skills a)) (C := RX2) (T := TX2) (N := 11) hx hb hts k1 hown hK hP 0 rfl rfl 5 (by decide) k3 (fun _ h9 => h9) rfl dX2_subjectOf_53 ?_
          refine lv_iload_n hx hb dX2_subjectOf_56 rfl (lv_at hl 1 rfl) ?_
          obtain ⟨h7, hF⟩ := m_chk hF
          refine va_iald (f := (Group_skills v)) hx hb hK hP 3 1 rfl rfl (mIn_ok h7) dX2_subjectOf_57 ?_
          refine W.eq (g2 := F0 m 58 ls [.int ((Group_skills v) (x0).toNatClampNeg)]) rfl ?_
          have hF := Option.some.inj hF
          subst hF
          rw [hQ]
          exact W.iret hx hb hr (fun t ht _ => ⟨rfl, ht⟩) (fun _ h => by cases h) dX2_subjectOf_58
        · have hF := m_neg c6 hF
          by_cases c8 : x1 = 4
          · have hF := m_pos c8 hF
            refine lv_tableIn (off := 58) (tgt := 59) hx hb dX2_subjectOf_1 (by rw [c8]; decide) (by rw [c8]; decide) (by rw [c8]; rfl) (by decide) ?_
            refine lv_aload_n hx hb dX2_subjectOf_59 rfl (lv_at hl 0 rfl) ?_
            refine va_get (D := E.1) (ci := 2) (v := .ref (Groupa_hours a)) (C := RX2) (T := TX2) (N := 11) hx hb hts k1 hown hK hP 0 rfl rfl 7 (by decide) k4 (fun _ h9 => h9) rfl dX2_subjectOf_60 ?_
            refine lv_iload_n hx hb dX2_subjectOf_63 rfl (lv_at hl 1 rfl) ?_
            obtain ⟨h9, hF⟩ := m_chk hF
            refine va_iald (f := (Group_hours v)) hx hb hK hP 5 1 rfl rfl (mIn_ok h9) dX2_subjectOf_64 ?_
            refine W.eq (g2 := F0 m 65 ls [.int ((Group_hours v) (x0).toNatClampNeg)]) rfl ?_
            refine lv_bipush (v := 10) hx hb dX2_subjectOf_65 (by decide) ?_
            refine lv_idiv hx hb dX2_subjectOf_67 (by decide) ?_
            have hF := Option.some.inj hF
            subst hF
            rw [hQ]
            exact W.iret hx hb hr (fun t ht _ => ⟨rfl, ht⟩) (fun _ h => by cases h) dX2_subjectOf_68
          · have hF := m_neg c8 hF
            have qc1 := lv_neT (a := 0) c1 rfl
            have qc2 := lv_neT (a := 1) c2 rfl
            have qc4 := lv_neT (a := 2) c4 rfl
            have qc6 := lv_neT (a := 3) c6 rfl
            have qc8 := lv_neT (a := 4) c8 rfl
            refine lv_tableOut (tgt := 69) hx hb dX2_subjectOf_1 (by omega) (by decide) ?_
            refine lv_aload_n hx hb dX2_subjectOf_69 rfl (lv_at hl 0 rfl) ?_
            refine va_get (D := E.1) (ci := 2) (v := .int (Group_week v)) (C := RX2) (T := TX2) (N := 11) hx hb hts k1 hown hK hP 0 rfl rfl 1 (by decide) k5 (fun _ h9 => h9) rfl dX2_subjectOf_70 ?_
            refine lv_bipush (v := 10) hx hb dX2_subjectOf_73 (by decide) ?_
            refine lv_irem hx hb dX2_subjectOf_75 (by decide) ?_
            refine W.eq (g2 := F0 m 76 ls [.int (mRem (Group_week v) 10)]) rfl ?_
            have hF := Option.some.inj hF
            subst hF
            rw [hQ]
            exact W.iret hx hb hr (fun t ht _ => ⟨rfl, ht⟩) (fun _ h => by cases h) dX2_subjectOf_76

def st_X2_countBetter_4 (v : GroupV) (x0 : Int32) (rec4 : Int32 → Int32 → Option Int32) (y2_4 : Int32) (y3_4 : Int32) : Option Int32 :=
  (if (Group_size v) ≤ y3_4 then some y2_4 else (if mIn y3_4 6 = true then jp (fun (x2_39 : Int32) => rec4 x2_39 (y3_4 + 1)) (fun j39 => (if ¬ ((Group_outs v) (y3_4).toNatClampNeg) = 0 then j39 y2_4 else (if mIn y3_4 6 = true then (if mIn x0 6 = true then (if ((Group_skills v) (y3_4).toNatClampNeg) ≤ ((Group_skills v) (x0).toNatClampNeg) then j39 y2_4 else j39 (y2_4 + 1)) else none) else none))) else none))
def lp_X2_countBetter_4 (v : GroupV) (x0 : Int32) : Nat → Int32 → Int32 → Option Int32
  | 0 => fun _ _ => none
  | n + 1 => st_X2_countBetter_4 v x0 (lp_X2_countBetter_4 v x0 n)
def fn_X2_countBetter (v : GroupV) (x0 : Int32) : Option Int32 :=
  lp_X2_countBetter_4 v x0 m_N 0 0
abbrev rmX2_countBetter : Room := { frames := 0, cells := 0, slots := 0, locals := 0 }
set_option maxRecDepth 100000 in
set_option maxHeartbeats 4000000 in
theorem c_X2_countBetter (l : Launch) (E : mE) (a : GroupA) (v : GroupV) (x0 : Int32) (t : Int32) (hF : fn_X2_countBetter v x0 = some t) : Met l yX2_countBetter wsX2_countBetter rmX2_countBetter (mPp E [.ref (Groupa_self a), .int x0] (Group_c E a v)) (mSp (some (.int t))) 0 0 (fun _ => False) := by
  refine mOfP (cc := cX2_countBetter) (maxL := 4) (ret := (some .int)) (by decide) rfl (Nat.le_of_ble_eq_true rfl) ?_
  intro p e_ s m args below meth c Q hQ CC hr hlocks hP hKN hGl ls hl
  have hS : va_S (fun _ => False) s.heap s.heap [] := va_S.rf
  have hK := hKN.1
  have hx := CC.1
  have hb := CC.2.1
  have hml := CC.2.2.1
  have hown : s.vm.findClass RX2 = some m.cls := CC.2.2.2.1
  have hts := CC.2.2.2.2
  have hl : lv_has ls 4 [(0, .ref (Groupa_self a)), (1, .int x0)] := hl
  have k0 := hts (.fieldLink RX2 9 "OneDidAll$Group" "size" "I") (by decide +kernel)
  have k1 := (show ∀ w ∈ u_ws RX2 TX2 11, w ∈ wsX2_countBetter by decide +kernel)
  have k2 := hts (.fieldLink RX2 37 "OneDidAll$Group" "outs" "[Z") (by decide +kernel)
  have k3 := hts (.fieldLink RX2 28 "OneDidAll$Group" "skills" "[I") (by decide +kernel)
  unfold fn_X2_countBetter at hF
  refine lv_iconst (v := 0) hx hb dX2_countBetter_0 (by decide) ?_
  refine lv_istore_n (lv' := [(2, .int 0), (0, .ref (Groupa_self a)), (1, .int x0)]) hx hb dX2_countBetter_1 rfl hl (by decide) rfl (fun ls hl => ?_)
  refine lv_iconst (v := 0) hx hb dX2_countBetter_2 (by decide) ?_
  refine lv_istore_n (lv' := [(3, .int 0), (2, .int 0), (0, .ref (Groupa_self a)), (1, .int x0)]) hx hb dX2_countBetter_3 rfl hl (by decide) rfl (fun ls hl => ?_)
  have hL4 : ∀ (n : Nat) (y2_4 : Int32) (y3_4 : Int32) (ls : Array Slot), lp_X2_countBetter_4 v x0 n y2_4 y3_4 = some t → lv_has ls 4 [(0, .ref (Groupa_self a)), (1, .int x0), (2, .int y2_4), (3, .int y3_4)] → W p l e_ rmX2_countBetter s m args below meth c s.heap [] 0 0 Q (F0 m 4 ls []) := by
    intro n
    induction n with
    | zero =>
      intro y2_4 y3_4 ls hF
      exact nomatch (show (none : Option Int32) = some t from hF)
    | succ n ih4 =>
      intro y2_4 y3_4 ls hF hl
      have hF : st_X2_countBetter_4 v x0 (lp_X2_countBetter_4 v x0 n) y2_4 y3_4 = some t := hF
      unfold st_X2_countBetter_4 at hF
      refine lv_iload_n hx hb dX2_countBetter_4 rfl (lv_at hl 3 rfl) ?_
      refine lv_aload_n hx hb dX2_countBetter_5 rfl (lv_at hl 0 rfl) ?_
      refine va_get (D := E.1) (ci := 2) (v := .int (Group_size v)) (C := RX2) (T := TX2) (N := 11) hx hb hts k1 hown hK hP 0 rfl rfl 0 (by decide) k0 (fun _ h9 => h9) rfl dX2_countBetter_6 ?_
      refine lv_icmp_ge (tgt := 45) hx hb dX2_countBetter_9 (by decide) (fun c1 => ?_) (fun c1 => ?_)
      · have hF := m_pos c1 hF
        refine lv_iload_n hx hb dX2_countBetter_45 rfl (lv_at hl 2 rfl) ?_
        have hF := Option.some.inj hF
        subst hF
        rw [hQ]
        exact W.iret hx hb hr (fun t ht _ => ⟨rfl, ht⟩) (fun _ h => by cases h) dX2_countBetter_46
      · have hF := m_neg c1 hF
        refine lv_aload_n hx hb dX2_countBetter_12 rfl (lv_at hl 0 rfl) ?_
        refine va_get (D := E.1) (ci := 2) (v := .ref (Groupa_outs a)) (C := RX2) (T := TX2) (N := 11) hx hb hts k1 hown hK hP 0 rfl rfl 8 (by decide) k2 (fun _ h9 => h9) rfl dX2_countBetter_13 ?_
        refine lv_iload_n hx hb dX2_countBetter_16 rfl (lv_at hl 3 rfl) ?_
        obtain ⟨h2, hF⟩ := m_chk hF
        refine va_zald (f := (Group_outs v)) hx hb hK hP 6 2 rfl rfl (mIn_ok h2) dX2_countBetter_17 ?_
        refine W.eq (g2 := F0 m 18 ls [.int ((Group_outs v) (y3_4).toNatClampNeg)]) rfl ?_
        obtain ⟨j39, hjd39, hF⟩ := m_jp hF
        have hj39 : ∀ (x2_39 : Int32) (ls : Array Slot), j39 x2_39 = some t → lv_has ls 4 [(0, .ref (Groupa_self a)), (1, .int x0), (2, .int x2_39), (3, .int y3_4)] → W p l e_ rmX2_countBetter s m args below meth c s.heap [] 0 0 Q (F0 m 39 ls []) := by
          intro x2_39 ls hF hl
          rw [hjd39] at hF
          refine lv_iinc (v := (y3_4 + 1)) (lv' := [(3, .int (y3_4 + 1)), (0, .ref (Groupa_self a)), (1, .int x0), (2, .int x2_39)]) hx hb dX2_countBetter_39 hl (k := 3) rfl rfl (by decide) rfl (fun ls hl => ?_)
          refine lv_goto (tgt := 4) hx hb dX2_countBetter_42 (by decide) ?_
          exact ih4 x2_39 (y3_4 + 1) ls hF (lv_sub hl [1, 2, 3, 0] rfl)
        clear hjd39
        refine lv_if_ne (tgt := 39) hx hb dX2_countBetter_18 (by decide) (fun c3 => ?_) (fun c3 => ?_)
        · have hF := m_pos c3 hF
          exact hj39 y2_4 ls hF (lv_sub hl [0, 1, 2, 3] rfl)
        · have hF := m_neg (fun n9 => n9 c3) hF
          refine lv_aload_n hx hb dX2_countBetter_21 rfl (lv_at hl 0 rfl) ?_
          refine va_get (D := E.1) (ci := 2) (v := .ref (Groupa_skills a)) (C := RX2) (T := TX2) (N := 11) hx hb hts k1 hown hK hP 0 rfl rfl 5 (by decide) k3 (fun _ h9 => h9) rfl dX2_countBetter_22 ?_
          refine lv_iload_n hx hb dX2_countBetter_25 rfl (lv_at hl 3 rfl) ?_
          obtain ⟨h4, hF⟩ := m_chk hF
          refine va_iald (f := (Group_skills v)) hx hb hK hP 3 1 rfl rfl (mIn_ok h4) dX2_countBetter_26 ?_
          refine W.eq (g2 := F0 m 27 ls [.int ((Group_skills v) (y3_4).toNatClampNeg)]) rfl ?_
          refine lv_aload_n hx hb dX2_countBetter_27 rfl (lv_at hl 0 rfl) ?_
          refine va_get (D := E.1) (ci := 2) (v := .ref (Groupa_skills a)) (C := RX2) (T := TX2) (N := 11) hx hb hts k1 hown hK hP 0 rfl rfl 5 (by decide) k3 (fun _ h9 => h9) rfl dX2_countBetter_28 ?_
          refine lv_iload_n hx hb dX2_countBetter_31 rfl (lv_at hl 1 rfl) ?_
          obtain ⟨h5, hF⟩ := m_chk hF
          refine va_iald (f := (Group_skills v)) hx hb hK hP 3 1 rfl rfl (mIn_ok h5) dX2_countBetter_32 ?_
          refine W.eq (g2 := F0 m 33 ls [.int ((Group_skills v) (x0).toNatClampNeg), .int ((Group_skills v) (y3_4).toNatClampNeg)]) rfl ?_
          refine lv_icmp_le (tgt := 39) hx hb dX2_countBetter_33 (by decide) (fun c6 => ?_) (fun c6 => ?_)
          · have hF := m_pos c6 hF
            exact hj39 y2_4 ls hF (lv_sub hl [0, 1, 2, 3] rfl)
          · have hF := m_neg c6 hF
            refine lv_iinc (v := (y2_4 + 1)) (lv' := [(2, .int (y2_4 + 1)), (0, .ref (Groupa_self a)), (1, .int x0), (3, .int y3_4)]) hx hb dX2_countBetter_36 hl (k := 2) rfl rfl (by decide) rfl (fun ls hl => ?_)
            exact hj39 (y2_4 + 1) ls hF (lv_sub hl [1, 2, 0, 3] rfl)
  exact hL4 m_N 0 0 ls hF (lv_sub hl [2, 3, 1, 0] rfl)

def fn_X2_base (v : GroupV) (x0 : Int32) : Option Int32 :=
  (if 1 ≤ x0 then (if ¬ x0 = 0 then some (mMin 100 ((100 * (Group_work v)) / x0)) else none) else some 100)
abbrev rmX2_base : Room := { frames := 1, cells := 0, slots := 0, locals := 21 }
set_option maxRecDepth 100000 in
set_option maxHeartbeats 4000000 in
theorem c_X2_base (l : Launch) (E : mE) (a : GroupA) (v : GroupV) (x0 : Int32) (t : Int32) (hF : fn_X2_base v x0 = some t) : Met l yX2_base wsX2_base rmX2_base (mPp E [.ref (Groupa_self a), .int x0] (Group_c E a v)) (mSp (some (.int t))) 0 0 (fun _ => False) := by
  refine mOfP (cc := cX2_base) (maxL := 2) (ret := (some .int)) (by decide) rfl (Nat.le_of_ble_eq_true rfl) ?_
  intro p e_ s m args below meth c Q hQ CC hr hlocks hP hKN hGl ls hl
  have hS : va_S (fun _ => False) s.heap s.heap [] := va_S.rf
  have hK := hKN.1
  have hx := CC.1
  have hb := CC.2.1
  have hml := CC.2.2.1
  have hown : s.vm.findClass RX2 = some m.cls := CC.2.2.2.1
  have hts := CC.2.2.2.2
  have hl : lv_has ls 2 [(0, .ref (Groupa_self a)), (1, .int x0)] := hl
  have k0 := hts (.fieldLink RX2 18 "OneDidAll$Group" "work" "I") (by decide +kernel)
  have k1 := (show ∀ w ∈ u_ws RX2 TX2 11, w ∈ wsX2_base by decide +kernel)
  have k2 := hts (.methodLink RX2 70 Lib.Math.min.name) (by decide +kernel)
  have k3 := hts (.static Lib.Math.min.name) (by decide +kernel)
  have k4 := hts (.initialized "java/lang/Math") (by decide +kernel)
  have k5 := hts (.code Lib.Math.min.name Lib.Math.min.code 2 (some .int)) (by decide +kernel)
  unfold fn_X2_base at hF
  refine lv_iload_n hx hb dX2_base_0 rfl (lv_at hl 1 rfl) ?_
  refine lv_iconst (v := 1) hx hb dX2_base_1 (by decide) ?_
  refine lv_icmp_ge (tgt := 10) hx hb dX2_base_2 (by decide) (fun c1 => ?_) (fun c1 => ?_)
  · have hF := m_pos c1 hF
    refine lv_bipush (v := 100) hx hb dX2_base_10 (by decide) ?_
    refine lv_bipush (v := 100) hx hb dX2_base_12 (by decide) ?_
    refine lv_aload_n hx hb dX2_base_14 rfl (lv_at hl 0 rfl) ?_
    refine va_get (D := E.1) (ci := 2) (v := .int (Group_work v)) (C := RX2) (T := TX2) (N := 11) hx hb hts k1 hown hK hP 0 rfl rfl 2 (by decide) k0 (fun _ h9 => h9) rfl dX2_base_15 ?_
    refine lv_imul hx hb dX2_base_18 ?_
    refine lv_iload_n hx hb dX2_base_19 rfl (lv_at hl 1 rfl) ?_
    obtain ⟨h2, hF⟩ := m_chk hF
    refine lv_idiv hx hb dX2_base_20 h2 ?_
    refine va_mmin hx hb (hml.trans hl.1.symm) hown k2 k3 k4 k5 (Nat.le_of_ble_eq_true rfl) (Nat.le_of_ble_eq_true rfl) (Nat.zero_le _) (Nat.zero_le _) dX2_base_21 ?_
    refine W.eq (g2 := F0 m 24 ls [.int (mMin 100 ((100 * (Group_work v)) / x0))]) rfl ?_
    have hF := Option.some.inj hF
    subst hF
    rw [hQ]
    exact W.iret hx hb hr (fun t ht _ => ⟨rfl, ht⟩) (fun _ h => by cases h) dX2_base_24
  · have hF := m_neg c1 hF
    refine lv_bipush (v := 100) hx hb dX2_base_5 (by decide) ?_
    refine lv_goto (tgt := 24) hx hb dX2_base_7 (by decide) ?_
    have hF := Option.some.inj hF
    subst hF
    rw [hQ]
    exact W.iret hx hb hr (fun t ht _ => ⟨rfl, ht⟩) (fun _ h => by cases h) dX2_base_24

def st_X2_leastSkillIn_5 (v : GroupV) (rec5 : Int32 → Int32 → Option Int32) (y1_5 : Int32) (y2_5 : Int32) : Option Int32 :=
  (if (Group_size v) ≤ y2_5 then some y1_5 else (if mIn y2_5 6 = true then jp (fun (x1_33 : Int32) => rec5 x1_33 (y2_5 + 1)) (fun j33 => (if ¬ ((Group_outs v) (y2_5).toNatClampNeg) = 0 then j33 y1_5 else (if mIn y2_5 6 = true then j33 (mMin y1_5 ((Group_skills v) (y2_5).toNatClampNeg)) else none))) else none))
def lp_X2_leastSkillIn_5 (v : GroupV) : Nat → Int32 → Int32 → Option Int32
  | 0 => fun _ _ => none
  | n + 1 => st_X2_leastSkillIn_5 v (lp_X2_leastSkillIn_5 v n)
def fn_X2_leastSkillIn (v : GroupV) : Option Int32 :=
  lp_X2_leastSkillIn_5 v m_N 9 0
abbrev rmX2_leastSkillIn : Room := { frames := 1, cells := 0, slots := 0, locals := 21 }
set_option maxRecDepth 100000 in
set_option maxHeartbeats 4000000 in
theorem c_X2_leastSkillIn (l : Launch) (E : mE) (a : GroupA) (v : GroupV) (t : Int32) (hF : fn_X2_leastSkillIn v = some t) : Met l yX2_leastSkillIn wsX2_leastSkillIn rmX2_leastSkillIn (mPp E [.ref (Groupa_self a)] (Group_c E a v)) (mSp (some (.int t))) 0 0 (fun _ => False) := by
  refine mOfP (cc := cX2_leastSkillIn) (maxL := 3) (ret := (some .int)) (by decide) rfl (Nat.le_of_ble_eq_true rfl) ?_
  intro p e_ s m args below meth c Q hQ CC hr hlocks hP hKN hGl ls hl
  have hS : va_S (fun _ => False) s.heap s.heap [] := va_S.rf
  have hK := hKN.1
  have hx := CC.1
  have hb := CC.2.1
  have hml := CC.2.2.1
  have hown : s.vm.findClass RX2 = some m.cls := CC.2.2.2.1
  have hts := CC.2.2.2.2
  have hl : lv_has ls 3 [(0, .ref (Groupa_self a))] := hl
  have k0 := hts (.fieldLink RX2 9 "OneDidAll$Group" "size" "I") (by decide +kernel)
  have k1 := (show ∀ w ∈ u_ws RX2 TX2 11, w ∈ wsX2_leastSkillIn by decide +kernel)
  have k2 := hts (.fieldLink RX2 37 "OneDidAll$Group" "outs" "[Z") (by decide +kernel)
  have k3 := hts (.fieldLink RX2 28 "OneDidAll$Group" "skills" "[I") (by decide +kernel)
  have k4 := hts (.methodLink RX2 70 Lib.Math.min.name) (by decide +kernel)
  have k5 := hts (.static Lib.Math.min.name) (by decide +kernel)
  have k6 := hts (.initialized "java/lang/Math") (by decide +kernel)
  have k7 := hts (.code Lib.Math.min.name Lib.Math.min.code 2 (some .int)) (by decide +kernel)
  unfold fn_X2_leastSkillIn at hF
  refine lv_bipush (v := 9) hx hb dX2_leastSkillIn_0 (by decide) ?_
  refine lv_istore_n (lv' := [(1, .int 9), (0, .ref (Groupa_self a))]) hx hb dX2_leastSkillIn_2 rfl hl (by decide) rfl (fun ls hl => ?_)
  refine lv_iconst (v := 0) hx hb dX2_leastSkillIn_3 (by decide) ?_
  refine lv_istore_n (lv' := [(2, .int 0), (1, .int 9), (0, .ref (Groupa_self a))]) hx hb dX2_leastSkillIn_4 rfl hl (by decide) rfl (fun ls hl => ?_)
  have hL5 : ∀ (n : Nat) (y1_5 : Int32) (y2_5 : Int32) (ls : Array Slot), lp_X2_leastSkillIn_5 v n y1_5 y2_5 = some t → lv_has ls 3 [(0, .ref (Groupa_self a)), (1, .int y1_5), (2, .int y2_5)] → W p l e_ rmX2_leastSkillIn s m args below meth c s.heap [] 0 0 Q (F0 m 5 ls []) := by
    intro n
    induction n with
    | zero =>
      intro y1_5 y2_5 ls hF
      exact nomatch (show (none : Option Int32) = some t from hF)
    | succ n ih5 =>
      intro y1_5 y2_5 ls hF hl
      have hF : st_X2_leastSkillIn_5 v (lp_X2_leastSkillIn_5 v n) y1_5 y2_5 = some t := hF
      unfold st_X2_leastSkillIn_5 at hF
      refine lv_iload_n hx hb dX2_leastSkillIn_5 rfl (lv_at hl 2 rfl) ?_
      refine lv_aload_n hx hb dX2_leastSkillIn_6 rfl (lv_at hl 0 rfl) ?_
      refine va_get (D := E.1) (ci := 2) (v := .int (Group_size v)) (C := RX2) (T := TX2) (N := 11) hx hb hts k1 hown hK hP 0 rfl rfl 0 (by decide) k0 (fun _ h9 => h9) rfl dX2_leastSkillIn_7 ?_
      refine lv_icmp_ge (tgt := 39) hx hb dX2_leastSkillIn_10 (by decide) (fun c1 => ?_) (fun c1 => ?_)
      · have hF := m_pos c1 hF
        refine lv_iload_n hx hb dX2_leastSkillIn_39 rfl (lv_at hl 1 rfl) ?_
        have hF := Option.some.inj hF
        subst hF
        rw [hQ]
        exact W.iret hx hb hr (fun t ht _ => ⟨rfl, ht⟩) (fun _ h => by cases h) dX2_leastSkillIn_40
      · have hF := m_neg c1 hF
        refine lv_aload_n hx hb dX2_leastSkillIn_13 rfl (lv_at hl 0 rfl) ?_
        refine va_get (D := E.1) (ci := 2) (v := .ref (Groupa_outs a)) (C := RX2) (T := TX2) (N := 11) hx hb hts k1 hown hK hP 0 rfl rfl 8 (by decide) k2 (fun _ h9 => h9) rfl dX2_leastSkillIn_14 ?_
        refine lv_iload_n hx hb dX2_leastSkillIn_17 rfl (lv_at hl 2 rfl) ?_
        obtain ⟨h2, hF⟩ := m_chk hF
        refine va_zald (f := (Group_outs v)) hx hb hK hP 6 2 rfl rfl (mIn_ok h2) dX2_leastSkillIn_18 ?_
        refine W.eq (g2 := F0 m 19 ls [.int ((Group_outs v) (y2_5).toNatClampNeg)]) rfl ?_
        obtain ⟨j33, hjd33, hF⟩ := m_jp hF
        have hj33 : ∀ (x1_33 : Int32) (ls : Array Slot), j33 x1_33 = some t → lv_has ls 3 [(0, .ref (Groupa_self a)), (1, .int x1_33), (2, .int y2_5)] → W p l e_ rmX2_leastSkillIn s m args below meth c s.heap [] 0 0 Q (F0 m 33 ls []) := by
          intro x1_33 ls hF hl
          rw [hjd33] at hF
          refine lv_iinc (v := (y2_5 + 1)) (lv' := [(2, .int (y2_5 + 1)), (0, .ref (Groupa_self a)), (1, .int x1_33)]) hx hb dX2_leastSkillIn_33 hl (k := 2) rfl rfl (by decide) rfl (fun ls hl => ?_)
          refine lv_goto (tgt := 5) hx hb dX2_leastSkillIn_36 (by decide) ?_
          exact ih5 x1_33 (y2_5 + 1) ls hF (lv_sub hl [1, 2, 0] rfl)
        clear hjd33
        refine lv_if_ne (tgt := 33) hx hb dX2_leastSkillIn_19 (by decide) (fun c3 => ?_) (fun c3 => ?_)
        · have hF := m_pos c3 hF
          exact hj33 y1_5 ls hF (lv_sub hl [0, 1, 2] rfl)
        · have hF := m_neg (fun n9 => n9 c3) hF
          refine lv_iload_n hx hb dX2_leastSkillIn_22 rfl (lv_at hl 1 rfl) ?_
          refine lv_aload_n hx hb dX2_leastSkillIn_23 rfl (lv_at hl 0 rfl) ?_
          refine va_get (D := E.1) (ci := 2) (v := .ref (Groupa_skills a)) (C := RX2) (T := TX2) (N := 11) hx hb hts k1 hown hK hP 0 rfl rfl 5 (by decide) k3 (fun _ h9 => h9) rfl dX2_leastSkillIn_24 ?_
          refine lv_iload_n hx hb dX2_leastSkillIn_27 rfl (lv_at hl 2 rfl) ?_
          obtain ⟨h4, hF⟩ := m_chk hF
          refine va_iald (f := (Group_skills v)) hx hb hK hP 3 1 rfl rfl (mIn_ok h4) dX2_leastSkillIn_28 ?_
          refine W.eq (g2 := F0 m 29 ls [.int ((Group_skills v) (y2_5).toNatClampNeg), .int y1_5]) rfl ?_
          refine va_mmin hx hb (hml.trans hl.1.symm) hown k4 k5 k6 k7 (Nat.le_of_ble_eq_true rfl) (Nat.le_of_ble_eq_true rfl) (Nat.zero_le _) (Nat.zero_le _) dX2_leastSkillIn_29 ?_
          refine W.eq (g2 := F0 m 32 ls [.int (mMin y1_5 ((Group_skills v) (y2_5).toNatClampNeg))]) rfl ?_
          refine lv_istore_n (lv' := [(1, .int (mMin y1_5 ((Group_skills v) (y2_5).toNatClampNeg))), (0, .ref (Groupa_self a)), (2, .int y2_5)]) hx hb dX2_leastSkillIn_32 rfl hl (by decide) rfl (fun ls hl => ?_)
          exact hj33 (mMin y1_5 ((Group_skills v) (y2_5).toNatClampNeg)) ls hF (lv_sub hl [1, 0, 2] rfl)
  exact hL5 m_N 9 0 ls hF (lv_sub hl [2, 1, 0] rfl)

def fn_X3_goal (v : LessonV) : Option Int32 :=
  some (mMax 1 (Lesson_toldGoal v))
abbrev rmX3_goal : Room := { frames := 1, cells := 0, slots := 0, locals := 21 }
set_option maxRecDepth 100000 in
set_option maxHeartbeats 4000000 in
theorem c_X3_goal (l : Launch) (E : mE) (a : LessonA) (v : LessonV) (t : Int32) (hF : fn_X3_goal v = some t) : Met l yX3_goal wsX3_goal rmX3_goal (mPp E [.ref (Lessona_self a)] (Lesson_c E a v)) (mSp (some (.int t))) 0 0 (fun _ => False) := by
  refine mOfP (cc := cX3_goal) (maxL := 1) (ret := (some .int)) (by decide) rfl (Nat.le_of_ble_eq_true rfl) ?_
  intro p e_ s m args below meth c Q hQ CC hr hlocks hP hKN hGl ls hl
  have hS : va_S (fun _ => False) s.heap s.heap [] := va_S.rf
  have hK := hKN.1
  have hx := CC.1
  have hb := CC.2.1
  have hml := CC.2.2.1
  have hown : s.vm.findClass RX3 = some m.cls := CC.2.2.2.1
  have hts := CC.2.2.2.2
  have hl : lv_has ls 1 [(0, .ref (Lessona_self a))] := hl
  have k0 := hts (.fieldLink RX3 28 "OneDidAll$Lesson" "toldGoal" "I") (by decide +kernel)
  have k1 := (show ∀ w ∈ u_ws RX3 TX3 7, w ∈ wsX3_goal by decide +kernel)
  have k2 := hts (.methodLink RX3 34 Lib.Math.max.name) (by decide +kernel)
  have k3 := hts (.static Lib.Math.max.name) (by decide +kernel)
  have k4 := hts (.initialized "java/lang/Math") (by decide +kernel)
  have k5 := hts (.code Lib.Math.max.name Lib.Math.max.code 2 (some .int)) (by decide +kernel)
  unfold fn_X3_goal at hF
  refine lv_iconst (v := 1) hx hb dX3_goal_0 (by decide) ?_
  refine lv_aload_n hx hb dX3_goal_1 rfl (lv_at hl 0 rfl) ?_
  refine va_get (D := E.1) (ci := 3) (v := .int (Lesson_toldGoal v)) (C := RX3) (T := TX3) (N := 7) hx hb hts k1 hown hK hP 0 rfl rfl 5 (by decide) k0 (fun _ h9 => h9) rfl dX3_goal_2 ?_
  refine va_mmax hx hb (hml.trans hl.1.symm) hown k2 k3 k4 k5 (Nat.le_of_ble_eq_true rfl) (Nat.le_of_ble_eq_true rfl) (Nat.zero_le _) (Nat.zero_le _) dX3_goal_5 ?_
  refine W.eq (g2 := F0 m 8 ls [.int (mMax 1 (Lesson_toldGoal v))]) rfl ?_
  have hF := Option.some.inj hF
  subst hF
  rw [hQ]
  exact W.iret hx hb hr (fun t ht _ => ⟨rfl, ht⟩) (fun _ h => by cases h) dX3_goal_8

def fn_X3_addCode (v : LessonV) (x0 : Int32) : Option LessonV :=
  (if (Lesson_codes v) < (Int32.ofNat 100) then (if mIn (Lesson_codes v) 100 = true then some (Lesson_codes_s (Lesson_code_s v (upd (Lesson_code v) ((Lesson_codes v)).toNatClampNeg x0)) ((Lesson_codes v) + 1)) else none) else some v)
abbrev rmX3_addCode : Room := { frames := 0, cells := 0, slots := 0, locals := 0 }
set_option maxRecDepth 100000 in
set_option maxHeartbeats 4000000 in
theorem c_X3_addCode (l : Launch) (E : mE) (a : LessonA) (v : LessonV) (x0 : Int32) (t : LessonV) (hF : fn_X3_addCode v x0 = some t) (sz : Nat) : Met l yX3_addCode wsX3_addCode rmX3_addCode (mPm E [.ref (Lessona_self a), .int x0] sz ((Lesson_c E a v)) (([] : va_W))) (mSm E (none) ((Lesson_c E a t)) (va_A ((Lesson_c E a v)) sz)) 0 0 (va_A ((Lesson_c E a v)) sz) := by
  refine mOfM (cc := cX3_addCode) (maxL := 2) (ret := none) (by decide) rfl (Nat.le_of_ble_eq_true rfl) ?_
  intro p e_ s m args below meth c Q A hQ CC hr hlocks hin hA hP hD hKN hGl hR0 hRA ls hl
  have hS : va_S A s.heap s.heap [] := va_S.rf
  have hK := hKN.1
  have hx := CC.1
  have hb := CC.2.1
  have hml := CC.2.2.1
  have hown : s.vm.findClass RX3 = some m.cls := CC.2.2.2.1
  have hts := CC.2.2.2.2
  have hl : lv_has ls 2 [(0, .ref (Lessona_self a)), (1, .int x0)] := hl
  have k0 := hts (.fieldLink RX3 15 "OneDidAll$Lesson" "codes" "I") (by decide +kernel)
  have k1 := (show ∀ w ∈ u_ws RX3 TX3 7, w ∈ wsX3_addCode by decide +kernel)
  have k2 := hts (.fieldLink RX3 9 "OneDidAll$Lesson" "code" "[I") (by decide +kernel)
  have hP : va_P E.1 vwCl (Lesson_c E a v) s.heap := hP
  obtain ⟨H, hH⟩ : ∃ H, H = s.heap := ⟨_, rfl⟩
  obtain ⟨locs, hlc⟩ : ∃ z : List Loc, z = [] := ⟨_, rfl⟩
  rw [← hH] at hP
  rw [← hlc] at hS
  have hS : va_S A s.heap H locs := by rw [hH]; exact hS
  rw [← hH, ← hlc]
  unfold fn_X3_addCode at hF
  refine lv_aload_n hx hb dX3_addCode_0 rfl (lv_at hl 0 rfl) ?_
  refine va_get (D := E.1) (ci := 3) (v := .int (Lesson_codes v)) (C := RX3) (T := TX3) (N := 7) hx hb hts k1 hown hK hP 0 rfl rfl 1 (by decide) k0 (fun _ h9 => h9) rfl dX3_addCode_1 ?_
  refine lv_aload_n hx hb dX3_addCode_4 rfl (lv_at hl 0 rfl) ?_
  refine va_get (D := E.1) (ci := 3) (v := .ref (Lessona_code a)) (C := RX3) (T := TX3) (N := 7) hx hb hts k1 hown hK hP 0 rfl rfl 0 (by decide) k2 (fun _ h9 => h9) rfl dX3_addCode_5 ?_
  refine va_alen (v := (Int32.ofNat 100)) hx hb hK hP 1 1 rfl rfl rfl dX3_addCode_8 ?_
  refine lv_icmp_lt (tgt := 13) hx hb dX3_addCode_9 (by decide) (fun c1 => ?_) (fun c1 => ?_)
  · have hF := m_pos c1 hF
    refine lv_aload_n hx hb dX3_addCode_13 rfl (lv_at hl 0 rfl) ?_
    refine va_get (D := E.1) (ci := 3) (v := .ref (Lessona_code a)) (C := RX3) (T := TX3) (N := 7) hx hb hts k1 hown hK hP 0 rfl rfl 0 (by decide) k2 (fun _ h9 => h9) rfl dX3_addCode_14 ?_
    refine lv_aload_n hx hb dX3_addCode_17 rfl (lv_at hl 0 rfl) ?_
    refine va_get (D := E.1) (ci := 3) (v := .int (Lesson_codes v)) (C := RX3) (T := TX3) (N := 7) hx hb hts k1 hown hK hP 0 rfl rfl 1 (by decide) k0 (fun _ h9 => h9) rfl dX3_addCode_18 ?_
    refine lv_iload_n hx hb dX3_addCode_21 rfl (lv_at hl 1 rfl) ?_
    obtain ⟨h2, hF⟩ := m_chk hF
    refine va_iast (f := (Lesson_code v)) hx hb hK hP hD hS 1 1 rfl rfl (mIn_ok h2) dX3_addCode_22 (fun H locs hP hD hS => ?_)
    have hP : va_P E.1 vwCl (Lesson_c E a (Lesson_code_s v (upd (Lesson_code v) ((Lesson_codes v)).toNatClampNeg x0))) H := hP
    have hD : va_D A (Lesson_c E a (Lesson_code_s v (upd (Lesson_code v) ((Lesson_codes v)).toNatClampNeg x0))) := hD
    refine lv_aload_n hx hb dX3_addCode_23 rfl (lv_at hl 0 rfl) ?_
    refine lv_dup hx hb dX3_addCode_24 rfl ?_
    refine va_get (D := E.1) (ci := 3) (v := .int (Lesson_codes v)) (C := RX3) (T := TX3) (N := 7) hx hb hts k1 hown hK hP 0 rfl rfl 1 (by decide) k0 (fun _ h9 => h9) rfl dX3_addCode_25 ?_
    refine lv_iconst (v := 1) hx hb dX3_addCode_28 (by decide) ?_
    refine lv_iadd hx hb dX3_addCode_29 ?_
    refine va_put (D := E.1) (ci := 3) (v := .int ((Lesson_codes v) + 1)) (ty := .int) (C := RX3) (T := TX3) (N := 7) hx hb hts k1 tyX3 tyX3_ok nmX3 hown hK hP hD hS 0 rfl rfl 1 (by decide) k0 (fun _ h9 => h9) rfl (by decide +kernel) rfl rfl (Nat.le_of_ble_eq_true rfl) dX3_addCode_30 (fun H locs hP hD hS => ?_)
    have hP : va_P E.1 vwCl (Lesson_c E a (Lesson_codes_s (Lesson_code_s v (upd (Lesson_code v) ((Lesson_codes v)).toNatClampNeg x0)) ((Lesson_codes v) + 1))) H := hP
    have hD : va_D A (Lesson_c E a (Lesson_codes_s (Lesson_code_s v (upd (Lesson_code v) ((Lesson_codes v)).toNatClampNeg x0)) ((Lesson_codes v) + 1))) := hD
    have hF := Option.some.inj hF
    subst hF
    rw [hQ]
    exact W.vret hx hb hr (fun t ht _ => ⟨⟨rfl, by rw [ht]; exact hP, hD⟩, hS.F ht⟩) hS.2.2 dX3_addCode_33
  · have hF := m_neg c1 hF
    have hF := Option.some.inj hF
    subst hF
    rw [hQ]
    exact W.vret hx hb hr (fun t ht _ => ⟨⟨rfl, by rw [ht]; exact hP, hD⟩, hS.F ht⟩) hS.2.2 dX3_addCode_12

def fn_X3_addTest (v : LessonV) (x0 : Int32) (x1 : Int32) (x2 : Int32) : Option LessonV :=
  (Option.bind (fn_X3_addCode v ((((x0 * 3) + x1) * 100) + x2)) (fun t1 => some t1))
abbrev rmX3_addTest : Room := { frames := 1, cells := 0, slots := 0, locals := 21 }
set_option maxRecDepth 100000 in
set_option maxHeartbeats 4000000 in
theorem c_X3_addTest (l : Launch) (E : mE) (a : LessonA) (v : LessonV) (x0 : Int32) (x1 : Int32) (x2 : Int32) (t : LessonV) (hF : fn_X3_addTest v x0 x1 x2 = some t) (sz : Nat) : Met l yX3_addTest wsX3_addTest rmX3_addTest (mPm E [.ref (Lessona_self a), .int x0, .int x1, .int x2] sz ((Lesson_c E a v)) (([] : va_W))) (mSm E (none) ((Lesson_c E a t)) (va_A ((Lesson_c E a v)) sz)) 0 0 (va_A ((Lesson_c E a v)) sz) := by
  refine mOfM (cc := cX3_addTest) (maxL := 4) (ret := none) (by decide) rfl (Nat.le_of_ble_eq_true rfl) ?_
  intro p e_ s m args below meth c Q A hQ CC hr hlocks hin hA hP hD hKN hGl hR0 hRA ls hl
  have hS : va_S A s.heap s.heap [] := va_S.rf
  have hK := hKN.1
  have hx := CC.1
  have hb := CC.2.1
  have hml := CC.2.2.1
  have hown : s.vm.findClass RX3 = some m.cls := CC.2.2.2.1
  have hts := CC.2.2.2.2
  have hl : lv_has ls 4 [(0, .ref (Lessona_self a)), (1, .int x0), (2, .int x1), (3, .int x2)] := hl
  have hP : va_P E.1 vwCl (Lesson_c E a v) s.heap := hP
  obtain ⟨H, hH⟩ : ∃ H, H = s.heap := ⟨_, rfl⟩
  obtain ⟨locs, hlc⟩ : ∃ z : List Loc, z = [] := ⟨_, rfl⟩
  rw [← hH] at hP
  rw [← hlc] at hS
  have hS : va_S A s.heap H locs := by rw [hH]; exact hS
  rw [← hH, ← hlc]
  unfold fn_X3_addTest at hF
  refine lv_aload_n hx hb dX3_addTest_0 rfl (lv_at hl 0 rfl) ?_
  refine lv_iload_n hx hb dX3_addTest_1 rfl (lv_at hl 1 rfl) ?_
  refine lv_iconst (v := 3) hx hb dX3_addTest_2 (by decide) ?_
  refine lv_imul hx hb dX3_addTest_3 ?_
  refine lv_iload_n hx hb dX3_addTest_4 rfl (lv_at hl 2 rfl) ?_
  refine lv_iadd hx hb dX3_addTest_5 ?_
  refine lv_bipush (v := 100) hx hb dX3_addTest_6 (by decide) ?_
  refine lv_imul hx hb dX3_addTest_8 ?_
  refine lv_iload_n hx hb dX3_addTest_9 rfl (lv_at hl 3 rfl) ?_
  refine lv_iadd hx hb dX3_addTest_10 ?_
  obtain ⟨t1, ht1, hF⟩ := m_bnd hF
  have hPc := hP
  have hDc := hD
  have hFc := va_free (wc := (Lesson_c E a v)) hD hS hA [0, 1, 2, 3] rfl
  refine mVM (ci := 3) (n := 1) (rest := []) (As := [.int ((((x0 * 3) + x1) * 100) + x2)]) CC hKN hGl (c_X3_addCode l E a v ((((x0 * 3) + x1) * 100) + x2) t1 ht1 _) gX3_addTest_X3_addCode rfl ⟨rfl, rfl⟩ (by decide +kernel) ⟨Nat.le_of_ble_eq_true rfl, Nat.le_of_ble_eq_true rfl⟩ hPc hDc m_nil m_nilA hS hFc rfl rfl rfl rfl hl.1 rfl (Nat.le_of_ble_eq_true rfl) ⟨Nat.zero_le _, Nat.zero_le _⟩ dX3_addTest_11 (fun H1 locs hP1 hD1 hz1 hk1 hS => ?_)
  have hP : va_P E.1 vwCl (Lesson_c E a t1) H1 := hP1
  have hD : va_D A (Lesson_c E a t1) := m_back hD1 hFc
  generalize H1 = H at hP hS ⊢
  refine W.eq (g2 := F0 m 14 ls []) rfl ?_
  have hF := Option.some.inj hF
  subst hF
  rw [hQ]
  exact W.vret hx hb hr (fun t ht _ => ⟨⟨rfl, by rw [ht]; exact hP, hD⟩, hS.F ht⟩) hS.2.2 dX3_addTest_14

def fn_X3_addSpur (v : LessonV) (x0 : Int32) : Option LessonV :=
  (if (Int32.ofNat 10) ≤ (Lesson_spurs v) then some v else (if (Lesson_spurs v) < (Int32.ofNat 10) then (if mIn (Lesson_spurs v) 10 = true then (if mIn (Lesson_spurs v) 10 = true then some (Lesson_spurs_s (Lesson_ends_s (Lesson_worths_s v (upd (Lesson_worths v) ((Lesson_spurs v)).toNatClampNeg x0)) (upd (Lesson_ends v) ((Lesson_spurs v)).toNatClampNeg (Lesson_codes v))) ((Lesson_spurs v) + 1)) else none) else none) else some v))
abbrev rmX3_addSpur : Room := { frames := 0, cells := 0, slots := 0, locals := 0 }
set_option maxRecDepth 100000 in
set_option maxHeartbeats 4000000 in
theorem c_X3_addSpur (l : Launch) (E : mE) (a : LessonA) (v : LessonV) (x0 : Int32) (t : LessonV) (hF : fn_X3_addSpur v x0 = some t) (sz : Nat) : Met l yX3_addSpur wsX3_addSpur rmX3_addSpur (mPm E [.ref (Lessona_self a), .int x0] sz ((Lesson_c E a v)) (([] : va_W))) (mSm E (none) ((Lesson_c E a t)) (va_A ((Lesson_c E a v)) sz)) 0 0 (va_A ((Lesson_c E a v)) sz) := by
  refine mOfM (cc := cX3_addSpur) (maxL := 2) (ret := none) (by decide) rfl (Nat.le_of_ble_eq_true rfl) ?_
  intro p e_ s m args below meth c Q A hQ CC hr hlocks hin hA hP hD hKN hGl hR0 hRA ls hl
  have hS : va_S A s.heap s.heap [] := va_S.rf
  have hK := hKN.1
  have hx := CC.1
  have hb := CC.2.1
  have hml := CC.2.2.1
  have hown : s.vm.findClass RX3 = some m.cls := CC.2.2.2.1
  have hts := CC.2.2.2.2
  have hl : lv_has ls 2 [(0, .ref (Lessona_self a)), (1, .int x0)] := hl
  have k0 := hts (.fieldLink RX3 25 "OneDidAll$Lesson" "spurs" "I") (by decide +kernel)
  have k1 := (show ∀ w ∈ u_ws RX3 TX3 7, w ∈ wsX3_addSpur by decide +kernel)
  have k2 := hts (.fieldLink RX3 19 "OneDidAll$Lesson" "worths" "[I") (by decide +kernel)
  have k3 := hts (.fieldLink RX3 22 "OneDidAll$Lesson" "ends" "[I") (by decide +kernel)
  have k4 := hts (.fieldLink RX3 15 "OneDidAll$Lesson" "codes" "I") (by decide +kernel)
  have hP : va_P E.1 vwCl (Lesson_c E a v) s.heap := hP
  obtain ⟨H, hH⟩ : ∃ H, H = s.heap := ⟨_, rfl⟩
  obtain ⟨locs, hlc⟩ : ∃ z : List Loc, z = [] := ⟨_, rfl⟩
  rw [← hH] at hP
  rw [← hlc] at hS
  have hS : va_S A s.heap H locs := by rw [hH]; exact hS
  rw [← hH, ← hlc]
  unfold fn_X3_addSpur at hF
  refine lv_aload_n hx hb dX3_addSpur_0 rfl (lv_at hl 0 rfl) ?_
  refine va_get (D := E.1) (ci := 3) (v := .int (Lesson_spurs v)) (C := RX3) (T := TX3) (N := 7) hx hb hts k1 hown hK hP 0 rfl rfl 4 (by decide) k0 (fun _ h9 => h9) rfl dX3_addSpur_1 ?_
  refine lv_aload_n hx hb dX3_addSpur_4 rfl (lv_at hl 0 rfl) ?_
  refine va_get (D := E.1) (ci := 3) (v := .ref (Lessona_worths a)) (C := RX3) (T := TX3) (N := 7) hx hb hts k1 hown hK hP 0 rfl rfl 2 (by decide) k2 (fun _ h9 => h9) rfl dX3_addSpur_5 ?_
  refine va_alen (v := (Int32.ofNat 10)) hx hb hK hP 2 1 rfl rfl rfl dX3_addSpur_8 ?_
  refine lv_icmp_ge (tgt := 24) hx hb dX3_addSpur_9 (by decide) (fun c1 => ?_) (fun c1 => ?_)
  · have hF := m_pos c1 hF
    have hF := Option.some.inj hF
    subst hF
    rw [hQ]
    exact W.vret hx hb hr (fun t ht _ => ⟨⟨rfl, by rw [ht]; exact hP, hD⟩, hS.F ht⟩) hS.2.2 dX3_addSpur_24
  · have hF := m_neg c1 hF
    refine lv_aload_n hx hb dX3_addSpur_12 rfl (lv_at hl 0 rfl) ?_
    refine va_get (D := E.1) (ci := 3) (v := .int (Lesson_spurs v)) (C := RX3) (T := TX3) (N := 7) hx hb hts k1 hown hK hP 0 rfl rfl 4 (by decide) k0 (fun _ h9 => h9) rfl dX3_addSpur_13 ?_
    refine lv_aload_n hx hb dX3_addSpur_16 rfl (lv_at hl 0 rfl) ?_
    refine va_get (D := E.1) (ci := 3) (v := .ref (Lessona_ends a)) (C := RX3) (T := TX3) (N := 7) hx hb hts k1 hown hK hP 0 rfl rfl 3 (by decide) k3 (fun _ h9 => h9) rfl dX3_addSpur_17 ?_
    refine va_alen (v := (Int32.ofNat 10)) hx hb hK hP 3 1 rfl rfl rfl dX3_addSpur_20 ?_
    refine lv_icmp_lt (tgt := 25) hx hb dX3_addSpur_21 (by decide) (fun c2 => ?_) (fun c2 => ?_)
    · have hF := m_pos c2 hF
      refine lv_aload_n hx hb dX3_addSpur_25 rfl (lv_at hl 0 rfl) ?_
      refine va_get (D := E.1) (ci := 3) (v := .ref (Lessona_worths a)) (C := RX3) (T := TX3) (N := 7) hx hb hts k1 hown hK hP 0 rfl rfl 2 (by decide) k2 (fun _ h9 => h9) rfl dX3_addSpur_26 ?_
      refine lv_aload_n hx hb dX3_addSpur_29 rfl (lv_at hl 0 rfl) ?_
      refine va_get (D := E.1) (ci := 3) (v := .int (Lesson_spurs v)) (C := RX3) (T := TX3) (N := 7) hx hb hts k1 hown hK hP 0 rfl rfl 4 (by decide) k0 (fun _ h9 => h9) rfl dX3_addSpur_30 ?_
      refine lv_iload_n hx hb dX3_addSpur_33 rfl (lv_at hl 1 rfl) ?_
      obtain ⟨h3, hF⟩ := m_chk hF
      refine va_iast (f := (Lesson_worths v)) hx hb hK hP hD hS 2 1 rfl rfl (mIn_ok h3) dX3_addSpur_34 (fun H locs hP hD hS => ?_)
      have hP : va_P E.1 vwCl (Lesson_c E a (Lesson_worths_s v (upd (Lesson_worths v) ((Lesson_spurs v)).toNatClampNeg x0))) H := hP
      have hD : va_D A (Lesson_c E a (Lesson_worths_s v (upd (Lesson_worths v) ((Lesson_spurs v)).toNatClampNeg x0))) := hD
      refine lv_aload_n hx hb dX3_addSpur_35 rfl (lv_at hl 0 rfl) ?_
      refine va_get (D := E.1) (ci := 3) (v := .ref (Lessona_ends a)) (C := RX3) (T := TX3) (N := 7) hx hb hts k1 hown hK hP 0 rfl rfl 3 (by decide) k3 (fun _ h9 => h9) rfl dX3_addSpur_36 ?_
      refine lv_aload_n hx hb dX3_addSpur_39 rfl (lv_at hl 0 rfl) ?_
      refine va_get (D := E.1) (ci := 3) (v := .int (Lesson_spurs v)) (C := RX3) (T := TX3) (N := 7) hx hb hts k1 hown hK hP 0 rfl rfl 4 (by decide) k0 (fun _ h9 => h9) rfl dX3_addSpur_40 ?_
      refine lv_aload_n hx hb dX3_addSpur_43 rfl (lv_at hl 0 rfl) ?_
      refine va_get (D := E.1) (ci := 3) (v := .int (Lesson_codes v)) (C := RX3) (T := TX3) (N := 7) hx hb hts k1 hown hK hP 0 rfl rfl 1 (by decide) k4 (fun _ h9 => h9) rfl dX3_addSpur_44 ?_
      obtain ⟨h4, hF⟩ := m_chk hF
      refine va_iast (f := (Lesson_ends v)) hx hb hK hP hD hS 3 1 rfl rfl (mIn_ok h4) dX3_addSpur_47 (fun H locs hP hD hS => ?_)
      have hP : va_P E.1 vwCl (Lesson_c E a (Lesson_ends_s (Lesson_worths_s v (upd (Lesson_worths v) ((Lesson_spurs v)).toNatClampNeg x0)) (upd (Lesson_ends v) ((Lesson_spurs v)).toNatClampNeg (Lesson_codes v)))) H := hP
      have hD : va_D A (Lesson_c E a (Lesson_ends_s (Lesson_worths_s v (upd (Lesson_worths v) ((Lesson_spurs v)).toNatClampNeg x0)) (upd (Lesson_ends v) ((Lesson_spurs v)).toNatClampNeg (Lesson_codes v)))) := hD
      refine lv_aload_n hx hb dX3_addSpur_48 rfl (lv_at hl 0 rfl) ?_
      refine lv_dup hx hb dX3_addSpur_49 rfl ?_
      refine va_get (D := E.1) (ci := 3) (v := .int (Lesson_spurs v)) (C := RX3) (T := TX3) (N := 7) hx hb hts k1 hown hK hP 0 rfl rfl 4 (by decide) k0 (fun _ h9 => h9) rfl dX3_addSpur_50 ?_
      refine lv_iconst (v := 1) hx hb dX3_addSpur_53 (by decide) ?_
      refine lv_iadd hx hb dX3_addSpur_54 ?_
      refine va_put (D := E.1) (ci := 3) (v := .int ((Lesson_spurs v) + 1)) (ty := .int) (C := RX3) (T := TX3) (N := 7) hx hb hts k1 tyX3 tyX3_ok nmX3 hown hK hP hD hS 0 rfl rfl 4 (by decide) k0 (fun _ h9 => h9) rfl (by decide +kernel) rfl rfl (Nat.le_of_ble_eq_true rfl) dX3_addSpur_55 (fun H locs hP hD hS => ?_)
      have hP : va_P E.1 vwCl (Lesson_c E a (Lesson_spurs_s (Lesson_ends_s (Lesson_worths_s v (upd (Lesson_worths v) ((Lesson_spurs v)).toNatClampNeg x0)) (upd (Lesson_ends v) ((Lesson_spurs v)).toNatClampNeg (Lesson_codes v))) ((Lesson_spurs v) + 1))) H := hP
      have hD : va_D A (Lesson_c E a (Lesson_spurs_s (Lesson_ends_s (Lesson_worths_s v (upd (Lesson_worths v) ((Lesson_spurs v)).toNatClampNeg x0)) (upd (Lesson_ends v) ((Lesson_spurs v)).toNatClampNeg (Lesson_codes v))) ((Lesson_spurs v) + 1))) := hD
      have hF := Option.some.inj hF
      subst hF
      rw [hQ]
      exact W.vret hx hb hr (fun t ht _ => ⟨⟨rfl, by rw [ht]; exact hP, hD⟩, hS.F ht⟩) hS.2.2 dX3_addSpur_58
    · have hF := m_neg c2 hF
      have hF := Option.some.inj hF
      subst hF
      rw [hQ]
      exact W.vret hx hb hr (fun t ht _ => ⟨⟨rfl, by rw [ht]; exact hP, hD⟩, hS.F ht⟩) hS.2.2 dX3_addSpur_24

def fn_X6_isFull (v : RowsV) : Option Int32 :=
  jp (fun (_ : Unit) => some 1) (fun j24 => (if (Int32.ofNat (Rows_len v)) ≤ (Rows_size v) then j24 () else (if (Rows_size v) < (Int32.ofNat (Rows_len v)) then some 0 else j24 ())))
abbrev rmX6_isFull : Room := { frames := 0, cells := 0, slots := 0, locals := 0 }
set_option maxRecDepth 100000 in
set_option maxHeartbeats 4000000 in
theorem c_X6_isFull (l : Launch) (E : mE) (a : RowsA) (v : RowsV) (t : Int32) (hF : fn_X6_isFull v = some t) : Met l yX6_isFull wsX6_isFull rmX6_isFull (mPp E [.ref (Rowsa_self a)] (Rows_c E a v)) (mSp (some (.int t))) 0 0 (fun _ => False) := by
  refine mOfP (cc := cX6_isFull) (maxL := 1) (ret := (some .boolean)) (by decide) rfl (Nat.le_of_ble_eq_true rfl) ?_
  intro p e_ s m args below meth c Q hQ CC hr hlocks hP hKN hGl ls hl
  have hS : va_S (fun _ => False) s.heap s.heap [] := va_S.rf
  have hK := hKN.1
  have hx := CC.1
  have hb := CC.2.1
  have hml := CC.2.2.1
  have hown : s.vm.findClass RX6 = some m.cls := CC.2.2.2.1
  have hts := CC.2.2.2.2
  have hl : lv_has ls 1 [(0, .ref (Rowsa_self a))] := hl
  have k0 := hts (.fieldLink RX6 7 "OneDidAll$Rows" "size" "I") (by decide +kernel)
  have k1 := (show ∀ w ∈ u_ws RX6 TX6 3, w ∈ wsX6_isFull by decide +kernel)
  have k2 := hts (.fieldLink RX6 19 "OneDidAll$Rows" "firsts" "[I") (by decide +kernel)
  have k3 := hts (.fieldLink RX6 23 "OneDidAll$Rows" "seconds" "[I") (by decide +kernel)
  unfold fn_X6_isFull at hF
  refine lv_aload_n hx hb dX6_isFull_0 rfl (lv_at hl 0 rfl) ?_
  refine va_get (D := E.1) (ci := 6) (v := .int (Rows_size v)) (C := RX6) (T := TX6) (N := 3) hx hb hts k1 hown hK hP 0 rfl rfl 2 (by decide) k0 (fun _ h9 => h9) rfl dX6_isFull_1 ?_
  refine lv_aload_n hx hb dX6_isFull_4 rfl (lv_at hl 0 rfl) ?_
  refine va_get (D := E.1) (ci := 6) (v := .ref (Rowsa_firsts a)) (C := RX6) (T := TX6) (N := 3) hx hb hts k1 hown hK hP 0 rfl rfl 0 (by decide) k2 (fun _ h9 => h9) rfl dX6_isFull_5 ?_
  refine va_alen (v := (Int32.ofNat (Rows_len v))) hx hb hK hP 1 1 rfl rfl rfl dX6_isFull_8 ?_
  obtain ⟨j24, hjd24, hF⟩ := m_jp hF
  have hj24 : ∀ (ls : Array Slot), j24 () = some t → lv_has ls 1 [] → W p l e_ rmX6_isFull s m args below meth c s.heap [] 0 0 Q (F0 m 24 ls []) := by
    intro ls hF hl
    rw [hjd24] at hF
    refine lv_iconst (v := 1) hx hb dX6_isFull_24 (by decide) ?_
    refine lv_goto (tgt := 29) hx hb dX6_isFull_25 (by decide) ?_
    have hF := Option.some.inj hF
    subst hF
    rw [hQ]
    exact W.zret hx hb hr rfl (fun t ht _ => ⟨rfl, ht⟩) (fun _ h => by cases h) dX6_isFull_29
  clear hjd24
  refine lv_icmp_ge (tgt := 24) hx hb dX6_isFull_9 (by decide) (fun c1 => ?_) (fun c1 => ?_)
  · have hF := m_pos c1 hF
    exact hj24 ls hF (lv_sub hl [] rfl)
  · have hF := m_neg c1 hF
    refine lv_aload_n hx hb dX6_isFull_12 rfl (lv_at hl 0 rfl) ?_
    refine va_get (D := E.1) (ci := 6) (v := .int (Rows_size v)) (C := RX6) (T := TX6) (N := 3) hx hb hts k1 hown hK hP 0 rfl rfl 2 (by decide) k0 (fun _ h9 => h9) rfl dX6_isFull_13 ?_
    refine lv_aload_n hx hb dX6_isFull_16 rfl (lv_at hl 0 rfl) ?_
    refine va_get (D := E.1) (ci := 6) (v := .ref (Rowsa_seconds a)) (C := RX6) (T := TX6) (N := 3) hx hb hts k1 hown hK hP 0 rfl rfl 1 (by decide) k3 (fun _ h9 => h9) rfl dX6_isFull_17 ?_
    refine va_alen (v := (Int32.ofNat (Rows_len v))) hx hb hK hP 2 1 rfl rfl rfl dX6_isFull_20 ?_
    refine lv_icmp_lt (tgt := 28) hx hb dX6_isFull_21 (by decide) (fun c2 => ?_) (fun c2 => ?_)
    · have hF := m_pos c2 hF
      refine lv_iconst (v := 0) hx hb dX6_isFull_28 (by decide) ?_
      have hF := Option.some.inj hF
      subst hF
      rw [hQ]
      exact W.zret hx hb hr rfl (fun t ht _ => ⟨rfl, ht⟩) (fun _ h => by cases h) dX6_isFull_29
    · have hF := m_neg c2 hF
      exact hj24 ls hF (lv_sub hl [] rfl)

def fn_X6_add (v : RowsV) (x0 : Int32) (x1 : Int32) : Option (Int32 × RowsV) :=
  (Option.bind (fn_X6_isFull v) (fun t1 => jp (fun (wx_37 : RowsV) => some ((Rows_size wx_37), wx_37)) (fun j37 => (if ¬ t1 = 0 then j37 v else (if mIn (Rows_size v) (Rows_len v) = true then (if mIn (Rows_size v) (Rows_len v) = true then j37 (Rows_size_s (Rows_seconds_s (Rows_firsts_s v (upd (Rows_firsts v) ((Rows_size v)).toNatClampNeg x0)) (upd (Rows_seconds v) ((Rows_size v)).toNatClampNeg x1)) ((Rows_size v) + 1)) else none) else none)))))
abbrev rmX6_add : Room := { frames := 1, cells := 0, slots := 0, locals := 20 }
set_option maxRecDepth 100000 in
set_option maxHeartbeats 4000000 in
theorem c_X6_add (l : Launch) (E : mE) (a : RowsA) (v : RowsV) (x0 : Int32) (x1 : Int32) (t : (Int32 × RowsV)) (hF : fn_X6_add v x0 x1 = some t) (sz : Nat) : Met l yX6_add wsX6_add rmX6_add (mPm E [.ref (Rowsa_self a), .int x0, .int x1] sz ((Rows_c E a v)) (([] : va_W))) (mSm E (some (.int t.1)) ((Rows_c E a t.2)) (va_A ((Rows_c E a v)) sz)) 0 0 (va_A ((Rows_c E a v)) sz) := by
  refine mOfM (cc := cX6_add) (maxL := 3) (ret := (some .int)) (by decide) rfl (Nat.le_of_ble_eq_true rfl) ?_
  intro p e_ s m args below meth c Q A hQ CC hr hlocks hin hA hP hD hKN hGl hR0 hRA ls hl
  have hS : va_S A s.heap s.heap [] := va_S.rf
  have hK := hKN.1
  have hx := CC.1
  have hb := CC.2.1
  have hml := CC.2.2.1
  have hown : s.vm.findClass RX6 = some m.cls := CC.2.2.2.1
  have hts := CC.2.2.2.2
  have hl : lv_has ls 3 [(0, .ref (Rowsa_self a)), (1, .int x0), (2, .int x1)] := hl
  have k0 := hts (.fieldLink RX6 7 "OneDidAll$Rows" "size" "I") (by decide +kernel)
  have k1 := (show ∀ w ∈ u_ws RX6 TX6 3, w ∈ wsX6_add by decide +kernel)
  have k2 := hts (.fieldLink RX6 19 "OneDidAll$Rows" "firsts" "[I") (by decide +kernel)
  have k3 := hts (.fieldLink RX6 23 "OneDidAll$Rows" "seconds" "[I") (by decide +kernel)
  have hP : va_P E.1 vwCl (Rows_c E a v) s.heap := hP
  obtain ⟨H, hH⟩ : ∃ H, H = s.heap := ⟨_, rfl⟩
  obtain ⟨locs, hlc⟩ : ∃ z : List Loc, z = [] := ⟨_, rfl⟩
  rw [← hH] at hP
  rw [← hlc] at hS
  have hS : va_S A s.heap H locs := by rw [hH]; exact hS
  rw [← hH, ← hlc]
  unfold fn_X6_add at hF
  refine lv_aload_n hx hb dX6_add_0 rfl (lv_at hl 0 rfl) ?_
  obtain ⟨t1, ht1, hF⟩ := m_bnd hF
  refine mVP (ci := 6) (n := 0) (rest := []) (As := []) CC hKN hGl hS (c_X6_isFull l E a v t1 ht1) gX6_add_X6_isFull rfl ⟨rfl, rfl⟩ (by decide +kernel) ⟨Nat.le_of_ble_eq_true rfl, Nat.le_of_ble_eq_true rfl⟩ hP rfl rfl rfl rfl hl.1 rfl (Nat.le_of_ble_eq_true rfl) ⟨Nat.zero_le _, Nat.zero_le _⟩ dX6_add_1 ?_
  refine W.eq (g2 := F0 m 4 ls [.int t1]) rfl ?_
  obtain ⟨j37, hjd37, hF⟩ := m_jp hF
  have hj37 : ∀ (wx_37 : RowsV) (H : Heap) (locs : List Loc) (ls : Array Slot), j37 wx_37 = some t → va_P E.1 vwCl (Rows_c E a wx_37) H → va_D A (Rows_c E a wx_37) → va_S A s.heap H locs → lv_has ls 3 [(0, .ref (Rowsa_self a))] → W p l e_ rmX6_add s m args below meth c H locs 0 0 Q (F0 m 37 ls []) := by
    intro wx_37 H locs ls hF hP hD hS hl
    rw [hjd37] at hF
    refine lv_aload_n hx hb dX6_add_37 rfl (lv_at hl 0 rfl) ?_
    refine va_get (D := E.1) (ci := 6) (v := .int (Rows_size wx_37)) (C := RX6) (T := TX6) (N := 3) hx hb hts k1 hown hK hP 0 rfl rfl 2 (by decide) k0 (fun _ h9 => h9) rfl dX6_add_38 ?_
    have hF := Option.some.inj hF
    subst hF
    rw [hQ]
    exact W.iret hx hb hr (fun t ht _ => ⟨⟨rfl, by rw [ht]; exact hP, hD⟩, hS.F ht⟩) hS.2.2 dX6_add_41
  clear hjd37
  refine lv_if_ne (tgt := 37) hx hb dX6_add_4 (by decide) (fun c2 => ?_) (fun c2 => ?_)
  · have hF := m_pos c2 hF
    exact hj37 v H locs ls hF hP hD hS (lv_sub hl [0] rfl)
  · have hF := m_neg (fun n9 => n9 c2) hF
    refine lv_aload_n hx hb dX6_add_7 rfl (lv_at hl 0 rfl) ?_
    refine va_get (D := E.1) (ci := 6) (v := .ref (Rowsa_firsts a)) (C := RX6) (T := TX6) (N := 3) hx hb hts k1 hown hK hP 0 rfl rfl 0 (by decide) k2 (fun _ h9 => h9) rfl dX6_add_8 ?_
    refine lv_aload_n hx hb dX6_add_11 rfl (lv_at hl 0 rfl) ?_
    refine va_get (D := E.1) (ci := 6) (v := .int (Rows_size v)) (C := RX6) (T := TX6) (N := 3) hx hb hts k1 hown hK hP 0 rfl rfl 2 (by decide) k0 (fun _ h9 => h9) rfl dX6_add_12 ?_
    refine lv_iload_n hx hb dX6_add_15 rfl (lv_at hl 1 rfl) ?_
    obtain ⟨h3, hF⟩ := m_chk hF
    refine va_iast (f := (Rows_firsts v)) hx hb hK hP hD hS 1 1 rfl rfl (mIn_ok h3) dX6_add_16 (fun H locs hP hD hS => ?_)
    have hP : va_P E.1 vwCl (Rows_c E a (Rows_firsts_s v (upd (Rows_firsts v) ((Rows_size v)).toNatClampNeg x0))) H := hP
    have hD : va_D A (Rows_c E a (Rows_firsts_s v (upd (Rows_firsts v) ((Rows_size v)).toNatClampNeg x0))) := hD
    refine lv_aload_n hx hb dX6_add_17 rfl (lv_at hl 0 rfl) ?_
    refine va_get (D := E.1) (ci := 6) (v := .ref (Rowsa_seconds a)) (C := RX6) (T := TX6) (N := 3) hx hb hts k1 hown hK hP 0 rfl rfl 1 (by decide) k3 (fun _ h9 => h9) rfl dX6_add_18 ?_
    refine lv_aload_n hx hb dX6_add_21 rfl (lv_at hl 0 rfl) ?_
    refine va_get (D := E.1) (ci := 6) (v := .int (Rows_size v)) (C := RX6) (T := TX6) (N := 3) hx hb hts k1 hown hK hP 0 rfl rfl 2 (by decide) k0 (fun _ h9 => h9) rfl dX6_add_22 ?_
    refine lv_iload_n hx hb dX6_add_25 rfl (lv_at hl 2 rfl) ?_
    obtain ⟨h4, hF⟩ := m_chk hF
    refine va_iast (f := (Rows_seconds v)) hx hb hK hP hD hS 2 1 rfl rfl (mIn_ok h4) dX6_add_26 (fun H locs hP hD hS => ?_)
    have hP : va_P E.1 vwCl (Rows_c E a (Rows_seconds_s (Rows_firsts_s v (upd (Rows_firsts v) ((Rows_size v)).toNatClampNeg x0)) (upd (Rows_seconds v) ((Rows_size v)).toNatClampNeg x1))) H := hP
    have hD : va_D A (Rows_c E a (Rows_seconds_s (Rows_firsts_s v (upd (Rows_firsts v) ((Rows_size v)).toNatClampNeg x0)) (upd (Rows_seconds v) ((Rows_size v)).toNatClampNeg x1))) := hD
    refine lv_aload_n hx hb dX6_add_27 rfl (lv_at hl 0 rfl) ?_
    refine lv_dup hx hb dX6_add_28 rfl ?_
    refine va_get (D := E.1) (ci := 6) (v := .int (Rows_size v)) (C := RX6) (T := TX6) (N := 3) hx hb hts k1 hown hK hP 0 rfl rfl 2 (by decide) k0 (fun _ h9 => h9) rfl dX6_add_29 ?_
    refine lv_iconst (v := 1) hx hb dX6_add_32 (by decide) ?_
    refine lv_iadd hx hb dX6_add_33 ?_
    refine va_put (D := E.1) (ci := 6) (v := .int ((Rows_size v) + 1)) (ty := .int) (C := RX6) (T := TX6) (N := 3) hx hb hts k1 tyX6 tyX6_ok nmX6 hown hK hP hD hS 0 rfl rfl 2 (by decide) k0 (fun _ h9 => h9) rfl (by decide +kernel) rfl rfl (Nat.le_of_ble_eq_true rfl) dX6_add_34 (fun H locs hP hD hS => ?_)
    have hP : va_P E.1 vwCl (Rows_c E a (Rows_size_s (Rows_seconds_s (Rows_firsts_s v (upd (Rows_firsts v) ((Rows_size v)).toNatClampNeg x0)) (upd (Rows_seconds v) ((Rows_size v)).toNatClampNeg x1)) ((Rows_size v) + 1))) H := hP
    have hD : va_D A (Rows_c E a (Rows_size_s (Rows_seconds_s (Rows_firsts_s v (upd (Rows_firsts v) ((Rows_size v)).toNatClampNeg x0)) (upd (Rows_seconds v) ((Rows_size v)).toNatClampNeg x1)) ((Rows_size v) + 1))) := hD
    exact hj37 (Rows_size_s (Rows_seconds_s (Rows_firsts_s v (upd (Rows_firsts v) ((Rows_size v)).toNatClampNeg x0)) (upd (Rows_seconds v) ((Rows_size v)).toNatClampNeg x1)) ((Rows_size v) + 1)) H locs ls hF hP hD hS (lv_sub hl [0] rfl)

def fn_X6_clear (v : RowsV) : Option (Int32 × RowsV) :=
  some (0, (Rows_size_s v 0))
abbrev rmX6_clear : Room := { frames := 0, cells := 0, slots := 0, locals := 0 }
set_option maxRecDepth 100000 in
set_option maxHeartbeats 4000000 in
theorem c_X6_clear (l : Launch) (E : mE) (a : RowsA) (v : RowsV) (t : (Int32 × RowsV)) (hF : fn_X6_clear v = some t) (sz : Nat) : Met l yX6_clear wsX6_clear rmX6_clear (mPm E [.ref (Rowsa_self a)] sz ((Rows_c E a v)) (([] : va_W))) (mSm E (some (.int t.1)) ((Rows_c E a t.2)) (va_A ((Rows_c E a v)) sz)) 0 0 (va_A ((Rows_c E a v)) sz) := by
  refine mOfM (cc := cX6_clear) (maxL := 1) (ret := (some .int)) (by decide) rfl (Nat.le_of_ble_eq_true rfl) ?_
  intro p e_ s m args below meth c Q A hQ CC hr hlocks hin hA hP hD hKN hGl hR0 hRA ls hl
  have hS : va_S A s.heap s.heap [] := va_S.rf
  have hK := hKN.1
  have hx := CC.1
  have hb := CC.2.1
  have hml := CC.2.2.1
  have hown : s.vm.findClass RX6 = some m.cls := CC.2.2.2.1
  have hts := CC.2.2.2.2
  have hl : lv_has ls 1 [(0, .ref (Rowsa_self a))] := hl
  have k0 := hts (.fieldLink RX6 7 "OneDidAll$Rows" "size" "I") (by decide +kernel)
  have k1 := (show ∀ w ∈ u_ws RX6 TX6 3, w ∈ wsX6_clear by decide +kernel)
  have hP : va_P E.1 vwCl (Rows_c E a v) s.heap := hP
  obtain ⟨H, hH⟩ : ∃ H, H = s.heap := ⟨_, rfl⟩
  obtain ⟨locs, hlc⟩ : ∃ z : List Loc, z = [] := ⟨_, rfl⟩
  rw [← hH] at hP
  rw [← hlc] at hS
  have hS : va_S A s.heap H locs := by rw [hH]; exact hS
  rw [← hH, ← hlc]
  unfold fn_X6_clear at hF
  refine lv_aload_n hx hb dX6_clear_0 rfl (lv_at hl 0 rfl) ?_
  refine lv_iconst (v := 0) hx hb dX6_clear_1 (by decide) ?_
  refine va_put (D := E.1) (ci := 6) (v := .int 0) (ty := .int) (C := RX6) (T := TX6) (N := 3) hx hb hts k1 tyX6 tyX6_ok nmX6 hown hK hP hD hS 0 rfl rfl 2 (by decide) k0 (fun _ h9 => h9) rfl (by decide +kernel) rfl rfl (Nat.le_of_ble_eq_true rfl) dX6_clear_2 (fun H locs hP hD hS => ?_)
  have hP : va_P E.1 vwCl (Rows_c E a (Rows_size_s v 0)) H := hP
  have hD : va_D A (Rows_c E a (Rows_size_s v 0)) := hD
  refine lv_aload_n hx hb dX6_clear_5 rfl (lv_at hl 0 rfl) ?_
  refine va_get (D := E.1) (ci := 6) (v := .int 0) (C := RX6) (T := TX6) (N := 3) hx hb hts k1 hown hK hP 0 rfl rfl 2 (by decide) k0 (fun _ h9 => h9) rfl dX6_clear_6 ?_
  have hF := Option.some.inj hF
  subst hF
  rw [hQ]
  exact W.iret hx hb hr (fun t ht _ => ⟨⟨rfl, by rw [ht]; exact hP, hD⟩, hS.F ht⟩) hS.2.2 dX6_clear_9

def st_X6_copyFrom_7 (v0 : RowsV) (rec7 : Int32 → RowsV → Option RowsV) (y2_7 : Int32) (wy_7 : RowsV) : Option RowsV :=
  (if (Rows_size v0) ≤ y2_7 then some wy_7 else (if mIn y2_7 (Rows_len v0) = true then (if mIn y2_7 (Rows_len v0) = true then (Option.bind (fn_X6_add wy_7 ((Rows_firsts v0) (y2_7).toNatClampNeg) ((Rows_seconds v0) (y2_7).toNatClampNeg)) (fun t4 => rec7 (y2_7 + 1) t4.2)) else none) else none))
def lp_X6_copyFrom_7 (v0 : RowsV) : Nat → Int32 → RowsV → Option RowsV
  | 0 => fun _ _ => none
  | n + 1 => st_X6_copyFrom_7 v0 (lp_X6_copyFrom_7 v0 n)
def fn_X6_copyFrom (v : RowsV) (v0 : RowsV) : Option RowsV :=
  lp_X6_copyFrom_7 v0 m_N 0 (Rows_size_s v 0)
abbrev rmX6_copyFrom : Room := { frames := 2, cells := 0, slots := 0, locals := 42 }
set_option maxRecDepth 100000 in
set_option maxHeartbeats 4000000 in
theorem c_X6_copyFrom (l : Launch) (E : mE) (a : RowsA) (v : RowsV) (a0 : RowsA) (v0 : RowsV) (t : RowsV) (hF : fn_X6_copyFrom v v0 = some t) (sz : Nat) : Met l yX6_copyFrom wsX6_copyFrom rmX6_copyFrom (mPm E [.ref (Rowsa_self a), .ref (Rowsa_self a0)] sz (((Rows_c E a v) ++ (Rows_c E a0 v0))) (([] : va_W))) (mSm E (none) (((Rows_c E a t) ++ (Rows_c E a0 v0))) (va_A (((Rows_c E a v) ++ (Rows_c E a0 v0))) sz)) 0 0 (va_A (((Rows_c E a v) ++ (Rows_c E a0 v0))) sz) := by
  refine mOfM (cc := cX6_copyFrom) (maxL := 3) (ret := none) (by decide) rfl (Nat.le_of_ble_eq_true rfl) ?_
  intro p e_ s m args below meth c Q A hQ CC hr hlocks hin hA hP hD hKN hGl hR0 hRA ls hl
  have hS : va_S A s.heap s.heap [] := va_S.rf
  have hK := hKN.1
  have hx := CC.1
  have hb := CC.2.1
  have hml := CC.2.2.1
  have hown : s.vm.findClass RX6 = some m.cls := CC.2.2.2.1
  have hts := CC.2.2.2.2
  have hl : lv_has ls 3 [(0, .ref (Rowsa_self a)), (1, .ref (Rowsa_self a0))] := hl
  have k0 := hts (.fieldLink RX6 7 "OneDidAll$Rows" "size" "I") (by decide +kernel)
  have k1 := (show ∀ w ∈ u_ws RX6 TX6 3, w ∈ wsX6_copyFrom by decide +kernel)
  have k2 := hts (.fieldLink RX6 19 "OneDidAll$Rows" "firsts" "[I") (by decide +kernel)
  have k3 := hts (.fieldLink RX6 23 "OneDidAll$Rows" "seconds" "[I") (by decide +kernel)
  have hP : va_P E.1 vwCl ((Rows_c E a v) ++ (Rows_c E a0 v0)) s.heap := hP
  obtain ⟨H, hH⟩ : ∃ H, H = s.heap := ⟨_, rfl⟩
  obtain ⟨locs, hlc⟩ : ∃ z : List Loc, z = [] := ⟨_, rfl⟩
  rw [← hH] at hP
  rw [← hlc] at hS
  have hS : va_S A s.heap H locs := by rw [hH]; exact hS
  rw [← hH, ← hlc]
  unfold fn_X6_copyFrom at hF
  refine lv_aload_n hx hb dX6_copyFrom_0 rfl (lv_at hl 0 rfl) ?_
  refine lv_iconst (v := 0) hx hb dX6_copyFrom_1 (by decide) ?_
  refine va_put (D := E.1) (ci := 6) (v := .int 0) (ty := .int) (C := RX6) (T := TX6) (N := 3) hx hb hts k1 tyX6 tyX6_ok nmX6 hown hK hP hD hS 0 rfl rfl 2 (by decide) k0 (fun _ h9 => h9) rfl (by decide +kernel) rfl rfl (Nat.le_of_ble_eq_true rfl) dX6_copyFrom_2 (fun H locs hP hD hS => ?_)
  have hP : va_P E.1 vwCl ((Rows_c E a (Rows_size_s v 0)) ++ (Rows_c E a0 v0)) H := hP
  have hD : va_D A ((Rows_c E a (Rows_size_s v 0)) ++ (Rows_c E a0 v0)) := hD
  refine lv_iconst (v := 0) hx hb dX6_copyFrom_5 (by decide) ?_
  refine lv_istore_n (lv' := [(2, .int 0), (0, .ref (Rowsa_self a)), (1, .ref (Rowsa_self a0))]) hx hb dX6_copyFrom_6 rfl hl (by decide) rfl (fun ls hl => ?_)
  have hL7 : ∀ (n : Nat) (y2_7 : Int32) (wy_7 : RowsV) (H : Heap) (locs : List Loc) (ls : Array Slot), lp_X6_copyFrom_7 v0 n y2_7 wy_7 = some t → va_P E.1 vwCl ((Rows_c E a wy_7) ++ (Rows_c E a0 v0)) H → va_D A ((Rows_c E a wy_7) ++ (Rows_c E a0 v0)) → va_S A s.heap H locs → lv_has ls 3 [(0, .ref (Rowsa_self a)), (1, .ref (Rowsa_self a0)), (2, .int y2_7)] → W p l e_ rmX6_copyFrom s m args below meth c H locs 0 0 Q (F0 m 7 ls []) := by
    intro n
    induction n with
    | zero =>
      intro y2_7 wy_7 H locs ls hF
      exact nomatch (show (none : Option RowsV) = some t from hF)
    | succ n ih7 =>
      intro y2_7 wy_7 H locs ls hF hP hD hS hl
      have hF : st_X6_copyFrom_7 v0 (lp_X6_copyFrom_7 v0 n) y2_7 wy_7 = some t := hF
      unfold st_X6_copyFrom_7 at hF
      refine lv_iload_n hx hb dX6_copyFrom_7 rfl (lv_at hl 2 rfl) ?_
      refine lv_aload_n hx hb dX6_copyFrom_8 rfl (lv_at hl 1 rfl) ?_
      refine va_get (D := E.1) (ci := 6) (v := .int (Rows_size v0)) (C := RX6) (T := TX6) (N := 3) hx hb hts k1 hown hK hP 3 rfl rfl 2 (by decide) k0 (fun _ h9 => h9) rfl dX6_copyFrom_9 ?_
      refine lv_icmp_ge (tgt := 38) hx hb dX6_copyFrom_12 (by decide) (fun c1 => ?_) (fun c1 => ?_)
      · have hF := m_pos c1 hF
        have hF := Option.some.inj hF
        subst hF
        rw [hQ]
        exact W.vret hx hb hr (fun t ht _ => ⟨⟨rfl, by rw [ht]; exact hP, hD⟩, hS.F ht⟩) hS.2.2 dX6_copyFrom_38
      · have hF := m_neg c1 hF
        refine lv_aload_n hx hb dX6_copyFrom_15 rfl (lv_at hl 0 rfl) ?_
        refine lv_aload_n hx hb dX6_copyFrom_16 rfl (lv_at hl 1 rfl) ?_
        refine va_get (D := E.1) (ci := 6) (v := .ref (Rowsa_firsts a0)) (C := RX6) (T := TX6) (N := 3) hx hb hts k1 hown hK hP 3 rfl rfl 0 (by decide) k2 (fun _ h9 => h9) rfl dX6_copyFrom_17 ?_
        refine lv_iload_n hx hb dX6_copyFrom_20 rfl (lv_at hl 2 rfl) ?_
        obtain ⟨h2, hF⟩ := m_chk hF
        refine va_iald (f := (Rows_firsts v0)) hx hb hK hP 4 1 rfl rfl (mIn_ok h2) dX6_copyFrom_21 ?_
        refine W.eq (g2 := F0 m 22 ls [.int ((Rows_firsts v0) (y2_7).toNatClampNeg), .ref (Rowsa_self a)]) rfl ?_
        refine lv_aload_n hx hb dX6_copyFrom_22 rfl (lv_at hl 1 rfl) ?_
        refine va_get (D := E.1) (ci := 6) (v := .ref (Rowsa_seconds a0)) (C := RX6) (T := TX6) (N := 3) hx hb hts k1 hown hK hP 3 rfl rfl 1 (by decide) k3 (fun _ h9 => h9) rfl dX6_copyFrom_23 ?_
        refine lv_iload_n hx hb dX6_copyFrom_26 rfl (lv_at hl 2 rfl) ?_
        obtain ⟨h3, hF⟩ := m_chk hF
        refine va_iald (f := (Rows_seconds v0)) hx hb hK hP 5 1 rfl rfl (mIn_ok h3) dX6_copyFrom_27 ?_
        refine W.eq (g2 := F0 m 28 ls [.int ((Rows_seconds v0) (y2_7).toNatClampNeg), .int ((Rows_firsts v0) (y2_7).toNatClampNeg), .ref (Rowsa_self a)]) rfl ?_
        obtain ⟨t4, ht4, hF⟩ := m_bnd hF
        have hPc := hP.sub (ws' := (Rows_c E a wy_7)) [0, 1, 2] rfl
        have hDc := hD.sub (ws' := (Rows_c E a wy_7)) [0, 1, 2] (by decide) rfl
        have hFc := va_free (wc := (Rows_c E a wy_7)) hD hS hA [0, 1, 2] rfl
        refine mVM (ci := 6) (n := 2) (rest := []) (As := [.int ((Rows_firsts v0) (y2_7).toNatClampNeg), .int ((Rows_seconds v0) (y2_7).toNatClampNeg)]) CC hKN hGl (c_X6_add l E a wy_7 ((Rows_firsts v0) (y2_7).toNatClampNeg) ((Rows_seconds v0) (y2_7).toNatClampNeg) t4 ht4 _) gX6_copyFrom_X6_add rfl ⟨rfl, rfl⟩ (by decide +kernel) ⟨Nat.le_of_ble_eq_true rfl, Nat.le_of_ble_eq_true rfl⟩ hPc hDc m_nil m_nilA hS hFc rfl rfl rfl rfl hl.1 rfl (Nat.le_of_ble_eq_true rfl) ⟨Nat.zero_le _, Nat.zero_le _⟩ dX6_copyFrom_28 (fun H1 locs hP1 hD1 hz1 hk1 hS => ?_)
        have hjn := m_join (ws' := ((Rows_c E a t4.2) ++ (Rows_c E a0 v0))) (w1 := (Rows_c E a t4.2)) hP hD [0, 1, 2] [3, 4, 5] [3, 4, 5, 0, 1, 2] rfl rfl (by decide) (by decide) (by decide) rfl rfl hk1 hFc hP1 hD1
        obtain ⟨hP, hD⟩ := hjn
        generalize H1 = H at hP hS ⊢
        refine W.eq (g2 := F0 m 31 ls [.int t4.1]) rfl ?_
        refine lv_pop hx hb dX6_copyFrom_31 rfl ?_
        refine lv_iinc (v := (y2_7 + 1)) (lv' := [(2, .int (y2_7 + 1)), (0, .ref (Rowsa_self a)), (1, .ref (Rowsa_self a0))]) hx hb dX6_copyFrom_32 hl (k := 2) rfl rfl (by decide) rfl (fun ls hl => ?_)
        refine lv_goto (tgt := 7) hx hb dX6_copyFrom_35 (by decide) ?_
        exact ih7 (y2_7 + 1) t4.2 H locs ls hF hP hD hS (lv_sub hl [1, 2, 0] rfl)
  exact hL7 m_N 0 (Rows_size_s v 0) H locs ls hF hP hD hS (lv_sub hl [1, 2, 0] rfl)

def fn_X7_isPupil (v : OneV) (x0 : Int32) : Option Int32 :=
  (if x0 < 0 then some 0 else (if (Group_size (Room_group (One_now v))) ≤ x0 then some 0 else (if 6 ≤ x0 then some 0 else some 1)))
abbrev rmX7_isPupil : Room := { frames := 0, cells := 0, slots := 0, locals := 0 }
set_option maxRecDepth 100000 in
set_option maxHeartbeats 4000000 in
theorem c_X7_isPupil (l : Launch) (E : mE) (a : OneA) (v : OneV) (x0 : Int32) (t : Int32) (hF : fn_X7_isPupil v x0 = some t) : Met l yX7_isPupil wsX7_isPupil rmX7_isPupil (mPp E [.ref (Onea_self a), .int x0] (One_c E a v)) (mSp (some (.int t))) 0 0 (fun _ => False) := by
  refine mOfP (cc := cX7_isPupil) (maxL := 2) (ret := (some .boolean)) (by decide) rfl (Nat.le_of_ble_eq_true rfl) ?_
  intro p e_ s m args below meth c Q hQ CC hr hlocks hP hKN hGl ls hl
  have hS : va_S (fun _ => False) s.heap s.heap [] := va_S.rf
  have hK := hKN.1
  have hx := CC.1
  have hb := CC.2.1
  have hml := CC.2.2.1
  have hown : s.vm.findClass RX7 = some m.cls := CC.2.2.2.1
  have hts := CC.2.2.2.2
  have hl : lv_has ls 2 [(0, .ref (Onea_self a)), (1, .int x0)] := hl
  have k0 := hts (.fieldLink RX7 12 "OneDidAll" "now" "LOneDidAll$Room;") (by decide +kernel)
  have k1 := (show ∀ w ∈ u_ws RX7 TX7 5, w ∈ wsX7_isPupil by decide +kernel)
  have k2 := (va_Nw.use rfl (hKN.2.1 ("OneDidAll", 74, "OneDidAll$Room", "group", "LOneDidAll$Group;", "OneDidAll") (by decide +kernel)) : (Cond.fieldLinkNest "OneDidAll" 74 "OneDidAll$Room" "group" "LOneDidAll$Group;" "OneDidAll").before args s = true)
  have k3 := (show ∀ w ∈ u_ws RX5 TX5 9, w ∈ wsX7_isPupil by decide +kernel)
  have k4 := (va_Nw.use rfl (hKN.2.1 ("OneDidAll", 78, "OneDidAll$Group", "size", "I", "OneDidAll") (by decide +kernel)) : (Cond.fieldLinkNest "OneDidAll" 78 "OneDidAll$Group" "size" "I" "OneDidAll").before args s = true)
  have k5 := (show ∀ w ∈ u_ws RX2 TX2 11, w ∈ wsX7_isPupil by decide +kernel)
  unfold fn_X7_isPupil at hF
  refine lv_iload_n hx hb dX7_isPupil_0 rfl (lv_at hl 1 rfl) ?_
  refine lv_if_lt (tgt := 28) hx hb dX7_isPupil_1 (by decide) (fun c1 => ?_) (fun c1 => ?_)
  · have hF := m_pos c1 hF
    refine lv_iconst (v := 0) hx hb dX7_isPupil_28 (by decide) ?_
    have hF := Option.some.inj hF
    subst hF
    rw [hQ]
    exact W.zret hx hb hr rfl (fun t ht _ => ⟨rfl, ht⟩) (fun _ h => by cases h) dX7_isPupil_29
  · have hF := m_neg c1 hF
    refine lv_iload_n hx hb dX7_isPupil_4 rfl (lv_at hl 1 rfl) ?_
    refine lv_aload_n hx hb dX7_isPupil_5 rfl (lv_at hl 0 rfl) ?_
    refine va_get (D := E.1) (ci := 7) (v := .ref (Rooma_self (Onea_now a))) (C := RX7) (T := TX7) (N := 5) hx hb hts k1 hown hK hP 0 rfl rfl 0 (by decide) k0 (fun _ h9 => h9) rfl dX7_isPupil_6 ?_
    refine va_getN (D := E.1) (ci := 5) (v := .ref (Groupa_self (Rooma_group (Onea_now a)))) (C := RX5) (T := TX5) (N := 9) hx hb hts k3 hown hK hP 1 rfl rfl 0 (by decide) k2 (fun _ h9 => h9) rfl dX7_isPupil_9 ?_
    refine va_getN (D := E.1) (ci := 2) (v := .int (Group_size (Room_group (One_now v)))) (C := RX2) (T := TX2) (N := 11) hx hb hts k5 hown hK hP 2 rfl rfl 0 (by decide) k4 (fun _ h9 => h9) rfl dX7_isPupil_12 ?_
    refine lv_icmp_ge (tgt := 28) hx hb dX7_isPupil_15 (by decide) (fun c2 => ?_) (fun c2 => ?_)
    · have hF := m_pos c2 hF
      refine lv_iconst (v := 0) hx hb dX7_isPupil_28 (by decide) ?_
      have hF := Option.some.inj hF
      subst hF
      rw [hQ]
      exact W.zret hx hb hr rfl (fun t ht _ => ⟨rfl, ht⟩) (fun _ h => by cases h) dX7_isPupil_29
    · have hF := m_neg c2 hF
      refine lv_iload_n hx hb dX7_isPupil_18 rfl (lv_at hl 1 rfl) ?_
      refine lv_bipush (v := 6) hx hb dX7_isPupil_19 (by decide) ?_
      refine lv_icmp_ge (tgt := 28) hx hb dX7_isPupil_21 (by decide) (fun c3 => ?_) (fun c3 => ?_)
      · have hF := m_pos c3 hF
        refine lv_iconst (v := 0) hx hb dX7_isPupil_28 (by decide) ?_
        have hF := Option.some.inj hF
        subst hF
        rw [hQ]
        exact W.zret hx hb hr rfl (fun t ht _ => ⟨rfl, ht⟩) (fun _ h => by cases h) dX7_isPupil_29
      · have hF := m_neg c3 hF
        refine lv_iconst (v := 1) hx hb dX7_isPupil_24 (by decide) ?_
        refine lv_goto (tgt := 29) hx hb dX7_isPupil_25 (by decide) ?_
        have hF := Option.some.inj hF
        subst hF
        rw [hQ]
        exact W.zret hx hb hr rfl (fun t ht _ => ⟨rfl, ht⟩) (fun _ h => by cases h) dX7_isPupil_29

def fn_X7_isRule (x0 : Int32) : Option Int32 :=
  (if x0 < 0 then some 0 else (if 4 ≤ x0 then some 0 else some 1))
abbrev rmX7_isRule : Room := { frames := 0, cells := 0, slots := 0, locals := 0 }
set_option maxRecDepth 100000 in
set_option maxHeartbeats 4000000 in
theorem c_X7_isRule (l : Launch) (E : mE) (x0 : Int32) (t : Int32) (hF : fn_X7_isRule x0 = some t) : Met l yX7_isRule wsX7_isRule rmX7_isRule (mPp E [.int x0] ([] : va_W)) (mSp (some (.int t))) 0 0 (fun _ => False) := by
  refine mOfP (cc := cX7_isRule) (maxL := 1) (ret := (some .boolean)) (by decide) rfl (Nat.le_of_ble_eq_true rfl) ?_
  intro p e_ s m args below meth c Q hQ CC hr hlocks hP hKN hGl ls hl
  have hS : va_S (fun _ => False) s.heap s.heap [] := va_S.rf
  have hK := hKN.1
  have hx := CC.1
  have hb := CC.2.1
  have hml := CC.2.2.1
  have hown : s.vm.findClass RX7 = some m.cls := CC.2.2.2.1
  have hts := CC.2.2.2.2
  have hl : lv_has ls 1 [(0, .int x0)] := hl
  unfold fn_X7_isRule at hF
  refine lv_iload_n hx hb dX7_isRule_0 rfl (lv_at hl 0 rfl) ?_
  refine lv_if_lt (tgt := 13) hx hb dX7_isRule_1 (by decide) (fun c1 => ?_) (fun c1 => ?_)
  · have hF := m_pos c1 hF
    refine lv_iconst (v := 0) hx hb dX7_isRule_13 (by decide) ?_
    have hF := Option.some.inj hF
    subst hF
    rw [hQ]
    exact W.zret hx hb hr rfl (fun t ht _ => ⟨rfl, ht⟩) (fun _ h => by cases h) dX7_isRule_14
  · have hF := m_neg c1 hF
    refine lv_iload_n hx hb dX7_isRule_4 rfl (lv_at hl 0 rfl) ?_
    refine lv_iconst (v := 4) hx hb dX7_isRule_5 (by decide) ?_
    refine lv_icmp_ge (tgt := 13) hx hb dX7_isRule_6 (by decide) (fun c2 => ?_) (fun c2 => ?_)
    · have hF := m_pos c2 hF
      refine lv_iconst (v := 0) hx hb dX7_isRule_13 (by decide) ?_
      have hF := Option.some.inj hF
      subst hF
      rw [hQ]
      exact W.zret hx hb hr rfl (fun t ht _ => ⟨rfl, ht⟩) (fun _ h => by cases h) dX7_isRule_14
    · have hF := m_neg c2 hF
      refine lv_iconst (v := 1) hx hb dX7_isRule_9 (by decide) ?_
      refine lv_goto (tgt := 14) hx hb dX7_isRule_10 (by decide) ?_
      have hF := Option.some.inj hF
      subst hF
      rw [hQ]
      exact W.zret hx hb hr rfl (fun t ht _ => ⟨rfl, ht⟩) (fun _ h => by cases h) dX7_isRule_14

