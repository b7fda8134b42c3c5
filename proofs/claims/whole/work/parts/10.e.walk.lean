def fn_X7_alone (v : OneV) (le : LessonV) (ea : Nat) (x0 : Int32) : Option (Int32 × OneV) :=
  (Option.bind (fn_X7_isPupil v x0) (fun t1 => (if ¬ t1 = 0 then (Option.bind (fn_X1_workOf (One_forecast v) (One_now v) le ea ((1 : Int32) <<< (x0 &&& 31)) 20) (fun t3 => some (t3.1, (One_forecast_s v t3.2)))) else some ((-1), v))))
abbrev rmX7_alone : Room := { frames := 6, cells := 0, slots := 0, locals := 150 }
set_option maxRecDepth 100000 in
set_option maxHeartbeats 400000 in
theorem c_X7_alone (l : Launch) (E : mE) (a : OneA) (v : OneV) (e : LessonA) (le : LessonV) (x0 : Int32) (t : (Int32 × OneV)) (hF : fn_X7_alone v le (Lessona_self e) x0 = some t) (sz : Nat) : Met l yX7_alone wsX7_alone rmX7_alone (mPm E [.ref (Onea_self a), .int x0] sz ((One_c E a v)) ((Lesson_c E e le))) (mSm E (some (.int t.1)) ((One_c E a t.2)) (va_A ((One_c E a v)) sz)) 0 0 (va_A ((One_c E a v)) sz) := by
  refine mOfM (cc := cX7_alone) (maxL := 2) (ret := (some .int)) (by decide) rfl (Nat.le_of_ble_eq_true rfl) ?_
  intro p e_ s m args below meth c Q A hQ CC hr hlocks hin hA hP hD hKN hGl hR0 hRA ls hl
  have hS : va_S A s.heap s.heap [] := va_S.rf
  have hK := hKN.1
  have hx := CC.1
  have hb := CC.2.1
  have hml := CC.2.2.1
  have hown : s.vm.findClass RX7 = some m.cls := CC.2.2.2.1
  have hts := CC.2.2.2.2
  have hl : lv_has ls 2 [(0, .ref (Onea_self a)), (1, .int x0)] := hl
  have k0 := hts (.fieldLink RX7 28 "OneDidAll" "forecast" "LOneDidAll$Forecast;") (by decide +kernel)
  have k1 := (show ∀ w ∈ u_ws RX7 TX7 5, w ∈ wsX7_alone by decide +kernel)
  have k2 := hts (.fieldLink RX7 12 "OneDidAll" "now" "LOneDidAll$Room;") (by decide +kernel)
  have hP : va_P E.1 vwCl (One_c E a v) s.heap := hP
  obtain ⟨H, hH⟩ : ∃ H, H = s.heap := ⟨_, rfl⟩
  obtain ⟨locs, hlc⟩ : ∃ z : List Loc, z = [] := ⟨_, rfl⟩
  rw [← hH] at hP
  rw [← hlc] at hS
  have hS : va_S A s.heap H locs := by rw [hH]; exact hS
  rw [← hH, ← hlc]
  unfold fn_X7_alone at hF
  refine lv_aload_n hx hb dX7_alone_0 rfl (lv_at hl 0 rfl) ?_
  refine lv_iload_n hx hb dX7_alone_1 rfl (lv_at hl 1 rfl) ?_
  obtain ⟨t1, ht1, hF⟩ := m_bnd hF
  refine mVP (ci := 7) (n := 1) (rest := []) (As := [.int x0]) CC hKN hGl hS (c_X7_isPupil l E a v x0 t1 ht1) gX7_alone_X7_isPupil rfl ⟨rfl, rfl⟩ (by decide +kernel) ⟨Nat.le_of_ble_eq_true rfl, Nat.le_of_ble_eq_true rfl⟩ hP rfl rfl rfl rfl hl.1 rfl (Nat.le_of_ble_eq_true rfl) ⟨Nat.zero_le _, Nat.zero_le _⟩ dX7_alone_2 ?_
  refine W.eq (g2 := F0 m 5 ls [.int t1]) rfl ?_
  refine lv_if_ne (tgt := 10) hx hb dX7_alone_5 (by decide) (fun c2 => ?_) (fun c2 => ?_)
  · have hF := m_pos c2 hF
    refine lv_aload_n hx hb dX7_alone_10 rfl (lv_at hl 0 rfl) ?_
    refine va_get (D := E.1) (ci := 7) (v := .ref (Forecasta_self (Onea_forecast a))) (C := RX7) (T := TX7) (N := 5) hx hb hts k1 hown hK hP 0 rfl rfl 3 (by decide) k0 (fun _ h9 => h9) rfl dX7_alone_11 ?_
    refine lv_aload_n hx hb dX7_alone_14 rfl (lv_at hl 0 rfl) ?_
    refine va_get (D := E.1) (ci := 7) (v := .ref (Rooma_self (Onea_now a))) (C := RX7) (T := TX7) (N := 5) hx hb hts k1 hown hK hP 0 rfl rfl 0 (by decide) k2 (fun _ h9 => h9) rfl dX7_alone_15 ?_
    refine lv_iconst (v := 1) hx hb dX7_alone_18 (by decide) ?_
    refine lv_iload_n hx hb dX7_alone_19 rfl (lv_at hl 1 rfl) ?_
    refine lv_ishl hx hb dX7_alone_20 ?_
    refine lv_bipush (v := 20) hx hb dX7_alone_21 (by decide) ?_
    obtain ⟨t3, ht3, hF⟩ := m_bnd hF
    have hpm : List.Perm (One_c E a v) (((Forecast_c E (Onea_forecast a) (One_forecast v)) ++ (Room_c E (Onea_now a) (One_now v))) ++ ((List.take 1 (One_c E a v)) ++ ((List.take 21 (List.drop 22 (One_c E a v))) ++ (List.drop 62 (One_c E a v))))) := m_p2s (A := (List.take 1 (One_c E a v))) (m1 := (Room_c E (Onea_now a) (One_now v))) (B := (List.take 21 (List.drop 22 (One_c E a v)))) (m2 := (Forecast_c E (Onea_forecast a) (One_forecast v))) (C := (List.drop 62 (One_c E a v)))
    obtain ⟨hPc, hDc, hFc⟩ := m_pre hpm hP hD hS hA
    have hp4 := (m_ro hR0 hRA hS).sub (ws' := Lesson_c E e le) [0, 1, 2, 3] rfl
    have ha5 := m_roA (wr := Lesson_c E e le) hRA hFc [0, 1, 2, 3] rfl
    refine mVM (ci := 1) (n := 3) (rest := []) (As := [.ref (Rooma_self (Onea_now a)), .int ((1 : Int32) <<< (x0 &&& 31)), .int 20]) CC hKN hGl (c_X1_workOf l E (Onea_forecast a) (One_forecast v) (Onea_now a) (One_now v) e le ((1 : Int32) <<< (x0 &&& 31)) 20 t3 ht3 _) gX7_alone_X1_workOf rfl ⟨rfl, rfl⟩ (by decide +kernel) ⟨Nat.le_of_ble_eq_true rfl, Nat.le_of_ble_eq_true rfl⟩ hPc hDc hp4 ha5 hS hFc rfl rfl rfl rfl hl.1 rfl (Nat.le_of_ble_eq_true rfl) ⟨Nat.zero_le _, Nat.zero_le _⟩ dX7_alone_23 (fun H1 locs hP1 hD1 hz1 hk1 hS => ?_)
    have hpn : List.Perm (One_c E a (One_forecast_s v t3.2)) (((Forecast_c E (Onea_forecast a) t3.2) ++ (Room_c E (Onea_now a) (One_now v))) ++ ((List.take 1 (One_c E a v)) ++ ((List.take 21 (List.drop 22 (One_c E a v))) ++ (List.drop 62 (One_c E a v))))) := m_p2s (A := (List.take 1 (One_c E a v))) (m1 := (Room_c E (Onea_now a) (One_now v))) (B := (List.take 21 (List.drop 22 (One_c E a v)))) (m2 := (Forecast_c E (Onea_forecast a) t3.2)) (C := (List.drop 62 (One_c E a v)))
    obtain ⟨hP, hD⟩ := m_spl hpm hpn hP hD hk1 hFc hP1 hD1
    generalize H1 = H at hP hS ⊢
    refine W.eq (g2 := F0 m 26 ls [.int t3.1]) rfl ?_
    have hF := Option.some.inj hF
    subst hF
    rw [hQ]
    exact W.iret hx hb hr (fun t ht _ => ⟨⟨rfl, by rw [ht]; exact hP, hD⟩, hS.F ht⟩) hS.2.2 dX7_alone_26
  · have hF := m_neg (fun n9 => n9 c2) hF
    refine lv_iconst (v := (-1)) hx hb dX7_alone_8 (by decide) ?_
    have hF := Option.some.inj hF
    subst hF
    rw [hQ]
    exact W.iret hx hb hr (fun t ht _ => ⟨⟨rfl, by rw [ht]; exact hP, hD⟩, hS.F ht⟩) hS.2.2 dX7_alone_9

def st_X7_split_51 (v : OneV) (le : LessonV) (ea : Nat) (j119 : Int32 → Int32 → OneV → Option (Int32 × OneV)) (rec51 : Int32 → Int32 → Int32 → OneV → Option (Int32 × OneV)) (y3_51 : Int32) (y4_51 : Int32) (y5_51 : Int32) (wy_51 : OneV) : Option (Int32 × OneV) :=
  (if (((1 : Int32) <<< ((Group_size (Room_group (One_now v))) &&& 31)) - 1) ≤ y5_51 then j119 y3_51 y4_51 wy_51 else (Option.bind (fn_X1_workOf (One_forecast wy_51) (One_now wy_51) le ea y5_51 10) (fun t4 => (Option.bind (fn_X1_workOf t4.2 (One_now wy_51) le ea ((((1 : Int32) <<< ((Group_size (Room_group (One_now v))) &&& 31)) - 1) - y5_51) 10) (fun t7 => jp (fun (x3_113 : Int32) (x4_113 : Int32) => rec51 x3_113 x4_113 (y5_51 + 2) (One_forecast_s wy_51 t7.2)) (fun j113 => jp (fun (_ : Unit) => j113 (mAbs (t4.1 - t7.1)) y5_51) (fun j106 => (if y4_51 = 0 then j106 () else (if y3_51 ≤ (mAbs (t4.1 - t7.1)) then j113 y3_51 y4_51 else j106 ())))))))))
def lp_X7_split_51 (v : OneV) (le : LessonV) (ea : Nat) (j119 : Int32 → Int32 → OneV → Option (Int32 × OneV)) : Nat → Int32 → Int32 → Int32 → OneV → Option (Int32 × OneV)
  | 0 => fun _ _ _ _ => none
  | n + 1 => st_X7_split_51 v le ea j119 (lp_X7_split_51 v le ea j119 n)
def fn_X7_split (v : OneV) (le : LessonV) (ea : Nat) (x0 : Int32) : Option (Int32 × OneV) :=
  jp (fun (_ : Unit) => (if 2 ≤ (Group_size (Room_group (One_now v))) then jp (fun (x3_119 : Int32) (x4_119 : Int32) (wx_119 : OneV) => (if ¬ x0 = 0 then some (x3_119, wx_119) else some (x4_119, wx_119))) (fun j119 => lp_X7_split_51 v le ea j119 m_N 0 0 1 v) else some ((-5), v))) (fun j11 => (if x0 = 0 then j11 () else (if x0 = 1 then j11 () else some ((-1), v))))
abbrev rmX7_split : Room := { frames := 6, cells := 0, slots := 0, locals := 150 }
set_option maxRecDepth 100000 in
set_option maxHeartbeats 400000 in
theorem c_X7_split (l : Launch) (E : mE) (a : OneA) (v : OneV) (e : LessonA) (le : LessonV) (x0 : Int32) (t : (Int32 × OneV)) (hF : fn_X7_split v le (Lessona_self e) x0 = some t) (sz : Nat) : Met l yX7_split wsX7_split rmX7_split (mPm E [.ref (Onea_self a), .int x0] sz ((One_c E a v)) ((Lesson_c E e le))) (mSm E (some (.int t.1)) ((One_c E a t.2)) (va_A ((One_c E a v)) sz)) 0 0 (va_A ((One_c E a v)) sz) := by
  refine mOfM (cc := cX7_split) (maxL := 7) (ret := (some .int)) (by decide) rfl (Nat.le_of_ble_eq_true rfl) ?_
  intro p e_ s m args below meth c Q A hQ CC hr hlocks hin hA hP hD hKN hGl hR0 hRA ls hl
  have hS : va_S A s.heap s.heap [] := va_S.rf
  have hK := hKN.1
  have hx := CC.1
  have hb := CC.2.1
  have hml := CC.2.2.1
  have hown : s.vm.findClass RX7 = some m.cls := CC.2.2.2.1
  have hts := CC.2.2.2.2
  have hl : lv_has ls 7 [(0, .ref (Onea_self a)), (1, .int x0)] := hl
  have k0 := hts (.fieldLink RX7 12 "OneDidAll" "now" "LOneDidAll$Room;") (by decide +kernel)
  have k1 := (show ∀ w ∈ u_ws RX7 TX7 5, w ∈ wsX7_split by decide +kernel)
  have k2 := (va_Nw.use rfl (hKN.2.1 ("OneDidAll", 74, "OneDidAll$Room", "group", "LOneDidAll$Group;", "OneDidAll") (by decide +kernel)) : (Cond.fieldLinkNest "OneDidAll" 74 "OneDidAll$Room" "group" "LOneDidAll$Group;" "OneDidAll").before args s = true)
  have k3 := (show ∀ w ∈ u_ws RX5 TX5 9, w ∈ wsX7_split by decide +kernel)
  have k4 := (va_Nw.use rfl (hKN.2.1 ("OneDidAll", 78, "OneDidAll$Group", "size", "I", "OneDidAll") (by decide +kernel)) : (Cond.fieldLinkNest "OneDidAll" 78 "OneDidAll$Group" "size" "I" "OneDidAll").before args s = true)
  have k5 := (show ∀ w ∈ u_ws RX2 TX2 11, w ∈ wsX7_split by decide +kernel)
  have k6 := hts (.fieldLink RX7 28 "OneDidAll" "forecast" "LOneDidAll$Forecast;") (by decide +kernel)
  have k7 := hts (.methodLink RX7 206 Lib.Math.abs.name) (by decide +kernel)
  have k8 := hts (.static Lib.Math.abs.name) (by decide +kernel)
  have k9 := hts (.initialized "java/lang/Math") (by decide +kernel)
  have k10 := hts (.code Lib.Math.abs.name Lib.Math.abs.code 1 (some .int)) (by decide +kernel)
  have hP : va_P E.1 vwCl (One_c E a v) s.heap := hP
  obtain ⟨H, hH⟩ : ∃ H, H = s.heap := ⟨_, rfl⟩
  obtain ⟨locs, hlc⟩ : ∃ z : List Loc, z = [] := ⟨_, rfl⟩
  rw [← hH] at hP
  rw [← hlc] at hS
  have hS : va_S A s.heap H locs := by rw [hH]; exact hS
  rw [← hH, ← hlc]
  unfold fn_X7_split at hF
  refine lv_iload_n hx hb dX7_split_0 rfl (lv_at hl 1 rfl) ?_
  obtain ⟨j11, hjd11, hF⟩ := m_jp hF
  have hj11 : ∀ (H : Heap) (locs : List Loc) (ls : Array Slot), j11 () = some t → va_P E.1 vwCl (One_c E a v) H → va_D A (One_c E a v) → va_S A s.heap H locs → lv_has ls 7 [(0, .ref (Onea_self a)), (1, .int x0)] → W p l e_ rmX7_split s m args below meth c H locs 0 0 Q (F0 m 11 ls []) := by
    intro H locs ls hF hP hD hS hl
    rw [hjd11] at hF
    refine lv_aload_n hx hb dX7_split_11 rfl (lv_at hl 0 rfl) ?_
    refine va_get (D := E.1) (ci := 7) (v := .ref (Rooma_self (Onea_now a))) (C := RX7) (T := TX7) (N := 5) hx hb hts k1 hown hK hP 0 rfl rfl 0 (by decide) k0 (fun _ h9 => h9) rfl dX7_split_12 ?_
    refine va_getN (D := E.1) (ci := 5) (v := .ref (Groupa_self (Rooma_group (Onea_now a)))) (C := RX5) (T := TX5) (N := 9) hx hb hts k3 hown hK hP 1 rfl rfl 0 (by decide) k2 (fun _ h9 => h9) rfl dX7_split_15 ?_
    refine va_getN (D := E.1) (ci := 2) (v := .int (Group_size (Room_group (One_now v)))) (C := RX2) (T := TX2) (N := 11) hx hb hts k5 hown hK hP 2 rfl rfl 0 (by decide) k4 (fun _ h9 => h9) rfl dX7_split_18 ?_
    refine lv_iconst (v := 2) hx hb dX7_split_21 (by decide) ?_
    refine lv_icmp_ge (tgt := 28) hx hb dX7_split_22 (by decide) (fun c1 => ?_) (fun c1 => ?_)
    · have hF := m_pos c1 hF
      refine lv_iconst (v := 1) hx hb dX7_split_28 (by decide) ?_
      refine lv_aload_n hx hb dX7_split_29 rfl (lv_at hl 0 rfl) ?_
      refine va_get (D := E.1) (ci := 7) (v := .ref (Rooma_self (Onea_now a))) (C := RX7) (T := TX7) (N := 5) hx hb hts k1 hown hK hP 0 rfl rfl 0 (by decide) k0 (fun _ h9 => h9) rfl dX7_split_30 ?_
      refine va_getN (D := E.1) (ci := 5) (v := .ref (Groupa_self (Rooma_group (Onea_now a)))) (C := RX5) (T := TX5) (N := 9) hx hb hts k3 hown hK hP 1 rfl rfl 0 (by decide) k2 (fun _ h9 => h9) rfl dX7_split_33 ?_
      refine va_getN (D := E.1) (ci := 2) (v := .int (Group_size (Room_group (One_now v)))) (C := RX2) (T := TX2) (N := 11) hx hb hts k5 hown hK hP 2 rfl rfl 0 (by decide) k4 (fun _ h9 => h9) rfl dX7_split_36 ?_
      refine lv_ishl hx hb dX7_split_39 ?_
      refine lv_iconst (v := 1) hx hb dX7_split_40 (by decide) ?_
      refine lv_isub hx hb dX7_split_41 ?_
      refine lv_istore_n (lv' := [(2, .int (((1 : Int32) <<< ((Group_size (Room_group (One_now v))) &&& 31)) - 1)), (0, .ref (Onea_self a)), (1, .int x0)]) hx hb dX7_split_42 rfl hl (by decide) rfl (fun ls hl => ?_)
      refine lv_iconst (v := 0) hx hb dX7_split_43 (by decide) ?_
      refine lv_istore_n (lv' := [(3, .int 0), (2, .int (((1 : Int32) <<< ((Group_size (Room_group (One_now v))) &&& 31)) - 1)), (0, .ref (Onea_self a)), (1, .int x0)]) hx hb dX7_split_44 rfl hl (by decide) rfl (fun ls hl => ?_)
      refine lv_iconst (v := 0) hx hb dX7_split_45 (by decide) ?_
      refine lv_istore (lv' := [(4, .int 0), (3, .int 0), (2, .int (((1 : Int32) <<< ((Group_size (Room_group (One_now v))) &&& 31)) - 1)), (0, .ref (Onea_self a)), (1, .int x0)]) hx hb dX7_split_46 hl (by decide) rfl (fun ls hl => ?_)
      refine lv_iconst (v := 1) hx hb dX7_split_48 (by decide) ?_
      refine lv_istore (lv' := [(5, .int 1), (4, .int 0), (3, .int 0), (2, .int (((1 : Int32) <<< ((Group_size (Room_group (One_now v))) &&& 31)) - 1)), (0, .ref (Onea_self a)), (1, .int x0)]) hx hb dX7_split_49 hl (by decide) rfl (fun ls hl => ?_)
      obtain ⟨j119, hjd119, hF⟩ := m_jp hF
      have hj119 : ∀ (x3_119 : Int32) (x4_119 : Int32) (wx_119 : OneV) (H : Heap) (locs : List Loc) (ls : Array Slot), j119 x3_119 x4_119 wx_119 = some t → va_P E.1 vwCl (One_c E a wx_119) H → va_D A (One_c E a wx_119) → va_S A s.heap H locs → lv_has ls 7 [(1, .int x0), (3, .int x3_119), (4, .int x4_119)] → W p l e_ rmX7_split s m args below meth c H locs 0 0 Q (F0 m 119 ls []) := by
        intro x3_119 x4_119 wx_119 H locs ls hF hP hD hS hl
        rw [hjd119] at hF
        refine lv_iload_n hx hb dX7_split_119 rfl (lv_at hl 0 rfl) ?_
        refine lv_if_ne (tgt := 128) hx hb dX7_split_120 (by decide) (fun c2 => ?_) (fun c2 => ?_)
        · have hF := m_pos c2 hF
          refine lv_iload_n hx hb dX7_split_128 rfl (lv_at hl 1 rfl) ?_
          have hF := Option.some.inj hF
          subst hF
          rw [hQ]
          exact W.iret hx hb hr (fun t ht _ => ⟨⟨rfl, by rw [ht]; exact hP, hD⟩, hS.F ht⟩) hS.2.2 dX7_split_129
        · have hF := m_neg (fun n9 => n9 c2) hF
          refine lv_iload hx hb dX7_split_123 (lv_at hl 2 rfl) ?_
          refine lv_goto (tgt := 129) hx hb dX7_split_125 (by decide) ?_
          have hF := Option.some.inj hF
          subst hF
          rw [hQ]
          exact W.iret hx hb hr (fun t ht _ => ⟨⟨rfl, by rw [ht]; exact hP, hD⟩, hS.F ht⟩) hS.2.2 dX7_split_129
      clear hjd119
      have hL51 : ∀ (n : Nat) (y3_51 : Int32) (y4_51 : Int32) (y5_51 : Int32) (wy_51 : OneV) (H : Heap) (locs : List Loc) (ls : Array Slot), lp_X7_split_51 v le (Lessona_self e) j119 n y3_51 y4_51 y5_51 wy_51 = some t → va_P E.1 vwCl (One_c E a wy_51) H → va_D A (One_c E a wy_51) → va_S A s.heap H locs → lv_has ls 7 [(0, .ref (Onea_self a)), (1, .int x0), (2, .int (((1 : Int32) <<< ((Group_size (Room_group (One_now v))) &&& 31)) - 1)), (3, .int y3_51), (4, .int y4_51), (5, .int y5_51)] → W p l e_ rmX7_split s m args below meth c H locs 0 0 Q (F0 m 51 ls []) := by
        intro n
        induction n with
        | zero =>
          intro y3_51 y4_51 y5_51 wy_51 H locs ls hF
          exact nomatch (show (none : Option (Int32 × OneV)) = some t from hF)
        | succ n ih51 =>
          intro y3_51 y4_51 y5_51 wy_51 H locs ls hF hP hD hS hl
          have hF : st_X7_split_51 v le (Lessona_self e) j119 (lp_X7_split_51 v le (Lessona_self e) j119 n) y3_51 y4_51 y5_51 wy_51 = some t := hF
          unfold st_X7_split_51 at hF
          refine lv_iload hx hb dX7_split_51 (lv_at hl 5 rfl) ?_
          refine lv_iload_n hx hb dX7_split_53 rfl (lv_at hl 2 rfl) ?_
          refine lv_icmp_ge (tgt := 119) hx hb dX7_split_54 (by decide) (fun c3 => ?_) (fun c3 => ?_)
          · have hF := m_pos c3 hF
            exact hj119 y3_51 y4_51 wy_51 H locs ls hF hP hD hS (lv_sub hl [1, 3, 4] rfl)
          · have hF := m_neg c3 hF
            refine lv_aload_n hx hb dX7_split_57 rfl (lv_at hl 0 rfl) ?_
            refine va_get (D := E.1) (ci := 7) (v := .ref (Forecasta_self (Onea_forecast a))) (C := RX7) (T := TX7) (N := 5) hx hb hts k1 hown hK hP 0 rfl rfl 3 (by decide) k6 (fun _ h9 => h9) rfl dX7_split_58 ?_
            refine lv_aload_n hx hb dX7_split_61 rfl (lv_at hl 0 rfl) ?_
            refine va_get (D := E.1) (ci := 7) (v := .ref (Rooma_self (Onea_now a))) (C := RX7) (T := TX7) (N := 5) hx hb hts k1 hown hK hP 0 rfl rfl 0 (by decide) k0 (fun _ h9 => h9) rfl dX7_split_62 ?_
            refine lv_iload hx hb dX7_split_65 (lv_at hl 5 rfl) ?_
            refine lv_bipush (v := 10) hx hb dX7_split_67 (by decide) ?_
            obtain ⟨t4, ht4, hF⟩ := m_bnd hF
            have hpm : List.Perm (One_c E a wy_51) (((Forecast_c E (Onea_forecast a) (One_forecast wy_51)) ++ (Room_c E (Onea_now a) (One_now wy_51))) ++ ((List.take 1 (One_c E a wy_51)) ++ ((List.take 21 (List.drop 22 (One_c E a wy_51))) ++ (List.drop 62 (One_c E a wy_51))))) := m_p2s (A := (List.take 1 (One_c E a wy_51))) (m1 := (Room_c E (Onea_now a) (One_now wy_51))) (B := (List.take 21 (List.drop 22 (One_c E a wy_51)))) (m2 := (Forecast_c E (Onea_forecast a) (One_forecast wy_51))) (C := (List.drop 62 (One_c E a wy_51)))
            obtain ⟨hPc, hDc, hFc⟩ := m_pre hpm hP hD hS hA
            have hp5 := (m_ro hR0 hRA hS).sub (ws' := Lesson_c E e le) [0, 1, 2, 3] rfl
            have ha6 := m_roA (wr := Lesson_c E e le) hRA hFc [0, 1, 2, 3] rfl
            refine mVM (ci := 1) (n := 3) (rest := []) (As := [.ref (Rooma_self (Onea_now a)), .int y5_51, .int 10]) CC hKN hGl (c_X1_workOf l E (Onea_forecast a) (One_forecast wy_51) (Onea_now a) (One_now wy_51) e le y5_51 10 t4 ht4 _) gX7_split_X1_workOf rfl ⟨rfl, rfl⟩ (by decide +kernel) ⟨Nat.le_of_ble_eq_true rfl, Nat.le_of_ble_eq_true rfl⟩ hPc hDc hp5 ha6 hS hFc rfl rfl rfl rfl hl.1 rfl (Nat.le_of_ble_eq_true rfl) ⟨Nat.zero_le _, Nat.zero_le _⟩ dX7_split_69 (fun H1 locs hP1 hD1 hz1 hk1 hS => ?_)
            have hpn : List.Perm (One_c E a (One_forecast_s wy_51 t4.2)) (((Forecast_c E (Onea_forecast a) t4.2) ++ (Room_c E (Onea_now a) (One_now wy_51))) ++ ((List.take 1 (One_c E a wy_51)) ++ ((List.take 21 (List.drop 22 (One_c E a wy_51))) ++ (List.drop 62 (One_c E a wy_51))))) := m_p2s (A := (List.take 1 (One_c E a wy_51))) (m1 := (Room_c E (Onea_now a) (One_now wy_51))) (B := (List.take 21 (List.drop 22 (One_c E a wy_51)))) (m2 := (Forecast_c E (Onea_forecast a) t4.2)) (C := (List.drop 62 (One_c E a wy_51)))
            obtain ⟨hP, hD⟩ := m_spl hpm hpn hP hD hk1 hFc hP1 hD1
            generalize H1 = H at hP hS ⊢
            refine W.eq (g2 := F0 m 72 ls [.int t4.1]) rfl ?_
            refine lv_aload_n hx hb dX7_split_72 rfl (lv_at hl 0 rfl) ?_
            refine va_get (D := E.1) (ci := 7) (v := .ref (Forecasta_self (Onea_forecast a))) (C := RX7) (T := TX7) (N := 5) hx hb hts k1 hown hK hP 0 rfl rfl 3 (by decide) k6 (fun _ h9 => h9) rfl dX7_split_73 ?_
            refine lv_aload_n hx hb dX7_split_76 rfl (lv_at hl 0 rfl) ?_
            refine va_get (D := E.1) (ci := 7) (v := .ref (Rooma_self (Onea_now a))) (C := RX7) (T := TX7) (N := 5) hx hb hts k1 hown hK hP 0 rfl rfl 0 (by decide) k0 (fun _ h9 => h9) rfl dX7_split_77 ?_
            refine lv_iload_n hx hb dX7_split_80 rfl (lv_at hl 2 rfl) ?_
            refine lv_iload hx hb dX7_split_81 (lv_at hl 5 rfl) ?_
            refine lv_isub hx hb dX7_split_83 ?_
            refine lv_bipush (v := 10) hx hb dX7_split_84 (by decide) ?_
            obtain ⟨t7, ht7, hF⟩ := m_bnd hF
            have hpm : List.Perm (One_c E a (One_forecast_s wy_51 t4.2)) (((Forecast_c E (Onea_forecast a) t4.2) ++ (Room_c E (Onea_now a) (One_now wy_51))) ++ ((List.take 1 (One_c E a (One_forecast_s wy_51 t4.2))) ++ ((List.take 21 (List.drop 22 (One_c E a (One_forecast_s wy_51 t4.2)))) ++ (List.drop 62 (One_c E a (One_forecast_s wy_51 t4.2)))))) := m_p2s (A := (List.take 1 (One_c E a (One_forecast_s wy_51 t4.2)))) (m1 := (Room_c E (Onea_now a) (One_now wy_51))) (B := (List.take 21 (List.drop 22 (One_c E a (One_forecast_s wy_51 t4.2))))) (m2 := (Forecast_c E (Onea_forecast a) t4.2)) (C := (List.drop 62 (One_c E a (One_forecast_s wy_51 t4.2))))
            obtain ⟨hPc, hDc, hFc⟩ := m_pre hpm hP hD hS hA
            have hp8 := (m_ro hR0 hRA hS).sub (ws' := Lesson_c E e le) [0, 1, 2, 3] rfl
            have ha9 := m_roA (wr := Lesson_c E e le) hRA hFc [0, 1, 2, 3] rfl
            refine mVM (ci := 1) (n := 3) (rest := [.int t4.1]) (As := [.ref (Rooma_self (Onea_now a)), .int ((((1 : Int32) <<< ((Group_size (Room_group (One_now v))) &&& 31)) - 1) - y5_51), .int 10]) CC hKN hGl (c_X1_workOf l E (Onea_forecast a) t4.2 (Onea_now a) (One_now wy_51) e le ((((1 : Int32) <<< ((Group_size (Room_group (One_now v))) &&& 31)) - 1) - y5_51) 10 t7 ht7 _) gX7_split_X1_workOf rfl ⟨rfl, rfl⟩ (by decide +kernel) ⟨Nat.le_of_ble_eq_true rfl, Nat.le_of_ble_eq_true rfl⟩ hPc hDc hp8 ha9 hS hFc rfl rfl rfl rfl hl.1 rfl (Nat.le_of_ble_eq_true rfl) ⟨Nat.zero_le _, Nat.zero_le _⟩ dX7_split_86 (fun H1 locs hP1 hD1 hz1 hk1 hS => ?_)
            have hpn : List.Perm (One_c E a (One_forecast_s wy_51 t7.2)) (((Forecast_c E (Onea_forecast a) t7.2) ++ (Room_c E (Onea_now a) (One_now wy_51))) ++ ((List.take 1 (One_c E a (One_forecast_s wy_51 t4.2))) ++ ((List.take 21 (List.drop 22 (One_c E a (One_forecast_s wy_51 t4.2)))) ++ (List.drop 62 (One_c E a (One_forecast_s wy_51 t4.2)))))) := m_p2s (A := (List.take 1 (One_c E a (One_forecast_s wy_51 t4.2)))) (m1 := (Room_c E (Onea_now a) (One_now wy_51))) (B := (List.take 21 (List.drop 22 (One_c E a (One_forecast_s wy_51 t4.2))))) (m2 := (Forecast_c E (Onea_forecast a) t7.2)) (C := (List.drop 62 (One_c E a (One_forecast_s wy_51 t4.2))))
            obtain ⟨hP, hD⟩ := m_spl hpm hpn hP hD hk1 hFc hP1 hD1
            generalize H1 = H at hP hS ⊢
            refine W.eq (g2 := F0 m 89 ls [.int t7.1, .int t4.1]) rfl ?_
            refine lv_isub hx hb dX7_split_89 ?_
            refine va_mabs hx hb (hml.trans hl.1.symm) hown k7 k8 k9 k10 (Nat.le_of_ble_eq_true rfl) (Nat.le_of_ble_eq_true rfl) (Nat.zero_le _) (Nat.zero_le _) dX7_split_90 ?_
            refine W.eq (g2 := F0 m 93 ls [.int (mAbs (t4.1 - t7.1))]) rfl ?_
            refine lv_istore (lv' := [(6, .int (mAbs (t4.1 - t7.1))), (0, .ref (Onea_self a)), (1, .int x0), (2, .int (((1 : Int32) <<< ((Group_size (Room_group (One_now v))) &&& 31)) - 1)), (3, .int y3_51), (4, .int y4_51), (5, .int y5_51)]) hx hb dX7_split_93 hl (by decide) rfl (fun ls hl => ?_)
            refine lv_iload hx hb dX7_split_95 (lv_at hl 5 rfl) ?_
            obtain ⟨j113, hjd113, hF⟩ := m_jp hF
            have hj113 : ∀ (x3_113 : Int32) (x4_113 : Int32) (H : Heap) (locs : List Loc) (ls : Array Slot), j113 x3_113 x4_113 = some t → va_P E.1 vwCl (One_c E a (One_forecast_s wy_51 t7.2)) H → va_D A (One_c E a (One_forecast_s wy_51 t7.2)) → va_S A s.heap H locs → lv_has ls 7 [(0, .ref (Onea_self a)), (1, .int x0), (2, .int (((1 : Int32) <<< ((Group_size (Room_group (One_now v))) &&& 31)) - 1)), (3, .int x3_113), (4, .int x4_113), (5, .int y5_51)] → W p l e_ rmX7_split s m args below meth c H locs 0 0 Q (F0 m 113 ls []) := by
              intro x3_113 x4_113 H locs ls hF hP hD hS hl
              rw [hjd113] at hF
              refine lv_iinc (v := (y5_51 + 2)) (lv' := [(5, .int (y5_51 + 2)), (0, .ref (Onea_self a)), (1, .int x0), (2, .int (((1 : Int32) <<< ((Group_size (Room_group (One_now v))) &&& 31)) - 1)), (3, .int x3_113), (4, .int x4_113)]) hx hb dX7_split_113 hl (k := 5) rfl rfl (by decide) rfl (fun ls hl => ?_)
              refine lv_goto (tgt := 51) hx hb dX7_split_116 (by decide) ?_
              exact ih51 x3_113 x4_113 (y5_51 + 2) (One_forecast_s wy_51 t7.2) H locs ls hF hP hD hS (lv_sub hl [1, 2, 3, 4, 5, 0] rfl)
            clear hjd113
            obtain ⟨j106, hjd106, hF⟩ := m_jp hF
            have hj106 : ∀ (H : Heap) (locs : List Loc) (ls : Array Slot), j106 () = some t → va_P E.1 vwCl (One_c E a (One_forecast_s wy_51 t7.2)) H → va_D A (One_c E a (One_forecast_s wy_51 t7.2)) → va_S A s.heap H locs → lv_has ls 7 [(0, .ref (Onea_self a)), (1, .int x0), (2, .int (((1 : Int32) <<< ((Group_size (Room_group (One_now v))) &&& 31)) - 1)), (5, .int y5_51), (6, .int (mAbs (t4.1 - t7.1)))] → W p l e_ rmX7_split s m args below meth c H locs 0 0 Q (F0 m 106 ls []) := by
              intro H locs ls hF hP hD hS hl
              rw [hjd106] at hF
              refine lv_iload hx hb dX7_split_106 (lv_at hl 4 rfl) ?_
              refine lv_istore_n (lv' := [(3, .int (mAbs (t4.1 - t7.1))), (0, .ref (Onea_self a)), (1, .int x0), (2, .int (((1 : Int32) <<< ((Group_size (Room_group (One_now v))) &&& 31)) - 1)), (5, .int y5_51), (6, .int (mAbs (t4.1 - t7.1)))]) hx hb dX7_split_108 rfl hl (by decide) rfl (fun ls hl => ?_)
              refine lv_iload hx hb dX7_split_109 (lv_at hl 4 rfl) ?_
              refine lv_istore (lv' := [(4, .int y5_51), (3, .int (mAbs (t4.1 - t7.1))), (0, .ref (Onea_self a)), (1, .int x0), (2, .int (((1 : Int32) <<< ((Group_size (Room_group (One_now v))) &&& 31)) - 1)), (5, .int y5_51), (6, .int (mAbs (t4.1 - t7.1)))]) hx hb dX7_split_111 hl (by decide) rfl (fun ls hl => ?_)
              exact hj113 (mAbs (t4.1 - t7.1)) y5_51 H locs ls hF hP hD hS (lv_sub hl [2, 3, 4, 1, 0, 5] rfl)
            clear hjd106
            refine lv_if_eq (tgt := 106) hx hb dX7_split_97 (by decide) (fun c10 => ?_) (fun c10 => ?_)
            · have hF := m_pos c10 hF
              exact hj106 H locs ls hF hP hD hS (lv_sub hl [1, 2, 3, 6, 0] rfl)
            · have hF := m_neg c10 hF
              refine lv_iload hx hb dX7_split_100 (lv_at hl 0 rfl) ?_
              refine lv_iload_n hx hb dX7_split_102 rfl (lv_at hl 4 rfl) ?_
              refine lv_icmp_ge (tgt := 113) hx hb dX7_split_103 (by decide) (fun c11 => ?_) (fun c11 => ?_)
              · have hF := m_pos c11 hF
                exact hj113 y3_51 y4_51 H locs ls hF hP hD hS (lv_sub hl [1, 2, 3, 4, 5, 6] rfl)
              · have hF := m_neg c11 hF
                exact hj106 H locs ls hF hP hD hS (lv_sub hl [1, 2, 3, 6, 0] rfl)
      exact hL51 m_N 0 0 1 v H locs ls hF hP hD hS (lv_sub hl [4, 5, 3, 2, 1, 0] rfl)
    · have hF := m_neg c1 hF
      refine lv_bipush (v := (-5)) hx hb dX7_split_25 (by decide) ?_
      have hF := Option.some.inj hF
      subst hF
      rw [hQ]
      exact W.iret hx hb hr (fun t ht _ => ⟨⟨rfl, by rw [ht]; exact hP, hD⟩, hS.F ht⟩) hS.2.2 dX7_split_27
  clear hjd11
  refine lv_if_eq (tgt := 11) hx hb dX7_split_1 (by decide) (fun c12 => ?_) (fun c12 => ?_)
  · have hF := m_pos c12 hF
    exact hj11 H locs ls hF hP hD hS (lv_sub hl [0, 1] rfl)
  · have hF := m_neg c12 hF
    refine lv_iload_n hx hb dX7_split_4 rfl (lv_at hl 1 rfl) ?_
    refine lv_iconst (v := 1) hx hb dX7_split_5 (by decide) ?_
    refine lv_icmp_eq (tgt := 11) hx hb dX7_split_6 (by decide) (fun c13 => ?_) (fun c13 => ?_)
    · have hF := m_pos c13 hF
      exact hj11 H locs ls hF hP hD hS (lv_sub hl [0, 1] rfl)
    · have hF := m_neg c13 hF
      refine lv_iconst (v := (-1)) hx hb dX7_split_9 (by decide) ?_
      have hF := Option.some.inj hF
      subst hF
      rw [hQ]
      exact W.iret hx hb hr (fun t ht _ => ⟨⟨rfl, by rw [ht]; exact hP, hD⟩, hS.F ht⟩) hS.2.2 dX7_split_10

def st_X7_odds_54 (le : LessonV) (ea : Nat) (x0 : Int32) (x1 : Int32) (j110 : Int32 → OneV → Option (Int64 × OneV)) (rec54 : Int32 → Int32 → OneV → Option (Int64 × OneV)) (y4_54 : Int32) (y5_54 : Int32) (wy_54 : OneV) : Option (Int64 × OneV) :=
  (if (Group_size (Room_group (One_now wy_54))) ≤ y5_54 then j110 y4_54 wy_54 else (Option.bind (fn_X1_beginWithout (One_forecast wy_54) (One_now wy_54) y5_54) (fun t10 => (Option.bind (fn_X1_go t10 le ea x0) (fun t11 => (Option.bind (fn_X1_workMore t11) (fun t14 => jp (fun (x4_104 : Int32) => rec54 x4_104 (y5_54 + 1) (One_forecast_s wy_54 t11)) (fun j104 => (if t14 < x1 then j104 y4_54 else j104 (y4_54 + 1))))))))))
def lp_X7_odds_54 (le : LessonV) (ea : Nat) (x0 : Int32) (x1 : Int32) (j110 : Int32 → OneV → Option (Int64 × OneV)) : Nat → Int32 → Int32 → OneV → Option (Int64 × OneV)
  | 0 => fun _ _ _ => none
  | n + 1 => st_X7_odds_54 le ea x0 x1 j110 (lp_X7_odds_54 le ea x0 x1 j110 n)
def fn_X7_odds (v : OneV) (le : LessonV) (ea : Nat) (x0 : Int32) (x1 : Int32) (x2 : Int32) : Option (Int64 × OneV) :=
  jp (fun (_ : Unit) => some ((-9223372036854775808 : Int64), v)) (fun j27 => (if x0 < 0 then j27 () else (if 60 < x0 then j27 () else (if x1 < 0 then j27 () else (if 99999 < x1 then j27 () else (Option.bind (fn_X7_isPart x2) (fun t5 => (if ¬ t5 = 0 then (if ¬ (Group_size (Room_group (One_now v))) = 0 then jp (fun (x4_110 : Int32) (wx_110 : OneV) => (Option.bind (fn_X7_inLowestTerms (x4_110).toInt64 ((Group_size (Room_group (One_now wx_110)))).toInt64 x2) (fun t8 => some (t8, wx_110)))) (fun j110 => lp_X7_odds_54 le ea x0 x1 j110 m_N 0 0 v) else some ((-9223372036854775808 : Int64), v)) else j27 ()))))))))
abbrev rmX7_odds : Room := { frames := 6, cells := 0, slots := 0, locals := 147 }
set_option maxRecDepth 100000 in
set_option maxHeartbeats 400000 in
theorem c_X7_odds (l : Launch) (E : mE) (a : OneA) (v : OneV) (e : LessonA) (le : LessonV) (x0 : Int32) (x1 : Int32) (x2 : Int32) (t : (Int64 × OneV)) (hF : fn_X7_odds v le (Lessona_self e) x0 x1 x2 = some t) (sz : Nat) : Met l yX7_odds wsX7_odds rmX7_odds (mPm E [.ref (Onea_self a), .int x0, .int x1, .int x2] sz ((One_c E a v)) ((Lesson_c E e le))) (mSm E (some (.long t.1)) ((One_c E a t.2)) (va_A ((One_c E a v)) sz)) 0 0 (va_A ((One_c E a v)) sz) := by
  refine mOfM (cc := cX7_odds) (maxL := 6) (ret := (some .long)) (by decide) rfl (Nat.le_of_ble_eq_true rfl) ?_
  intro p e_ s m args below meth c Q A hQ CC hr hlocks hin hA hP hD hKN hGl hR0 hRA ls hl
  have hS : va_S A s.heap s.heap [] := va_S.rf
  have hK := hKN.1
  have hx := CC.1
  have hb := CC.2.1
  have hml := CC.2.2.1
  have hown : s.vm.findClass RX7 = some m.cls := CC.2.2.2.1
  have hts := CC.2.2.2.2
  have hl : lv_has ls 6 [(0, .ref (Onea_self a)), (1, .int x0), (2, .int x1), (3, .int x2)] := hl
  have k0 := hts (.constantLong RX7 214 (-9223372036854775808)) (by decide +kernel)
  have k1 := hts (.constant RX7 232 (99999)) (by decide +kernel)
  have k2 := hts (.fieldLink RX7 12 "OneDidAll" "now" "LOneDidAll$Room;") (by decide +kernel)
  have k3 := (show ∀ w ∈ u_ws RX7 TX7 5, w ∈ wsX7_odds by decide +kernel)
  have k4 := (va_Nw.use rfl (hKN.2.1 ("OneDidAll", 74, "OneDidAll$Room", "group", "LOneDidAll$Group;", "OneDidAll") (by decide +kernel)) : (Cond.fieldLinkNest "OneDidAll" 74 "OneDidAll$Room" "group" "LOneDidAll$Group;" "OneDidAll").before args s = true)
  have k5 := (show ∀ w ∈ u_ws RX5 TX5 9, w ∈ wsX7_odds by decide +kernel)
  have k6 := (va_Nw.use rfl (hKN.2.1 ("OneDidAll", 78, "OneDidAll$Group", "size", "I", "OneDidAll") (by decide +kernel)) : (Cond.fieldLinkNest "OneDidAll" 78 "OneDidAll$Group" "size" "I" "OneDidAll").before args s = true)
  have k7 := (show ∀ w ∈ u_ws RX2 TX2 11, w ∈ wsX7_odds by decide +kernel)
  have k8 := hts (.fieldLink RX7 28 "OneDidAll" "forecast" "LOneDidAll$Forecast;") (by decide +kernel)
  have hP : va_P E.1 vwCl (One_c E a v) s.heap := hP
  obtain ⟨H, hH⟩ : ∃ H, H = s.heap := ⟨_, rfl⟩
  obtain ⟨locs, hlc⟩ : ∃ z : List Loc, z = [] := ⟨_, rfl⟩
  rw [← hH] at hP
  rw [← hlc] at hS
  have hS : va_S A s.heap H locs := by rw [hH]; exact hS
  rw [← hH, ← hlc]
  unfold fn_X7_odds at hF
  refine lv_iload_n hx hb dX7_odds_0 rfl (lv_at hl 1 rfl) ?_
  obtain ⟨j27, hjd27, hF⟩ := m_jp hF
  have hj27 : ∀ (H : Heap) (locs : List Loc) (ls : Array Slot), j27 () = some t → va_P E.1 vwCl (One_c E a v) H → va_D A (One_c E a v) → va_S A s.heap H locs → lv_has ls 6 [] → W p l e_ rmX7_odds s m args below meth c H locs 0 0 Q (F0 m 27 ls []) := by
    intro H locs ls hF hP hD hS hl
    rw [hjd27] at hF
    refine lv_ldc2 (v := (-9223372036854775808 : Int64)) hx hb hown k0 dX7_odds_27 ?_
    have hF := Option.some.inj hF
    subst hF
    rw [hQ]
    exact W.lret hx hb hr (fun t ht _ => ⟨⟨rfl, by rw [ht]; exact hP, hD⟩, hS.F ht⟩) hS.2.2 dX7_odds_30
  clear hjd27
  refine lv_if_lt (tgt := 27) hx hb dX7_odds_1 (by decide) (fun c1 => ?_) (fun c1 => ?_)
  · have hF := m_pos c1 hF
    exact hj27 H locs ls hF hP hD hS (lv_sub hl [] rfl)
  · have hF := m_neg c1 hF
    refine lv_iload_n hx hb dX7_odds_4 rfl (lv_at hl 1 rfl) ?_
    refine lv_bipush (v := 60) hx hb dX7_odds_5 (by decide) ?_
    refine lv_icmp_gt (tgt := 27) hx hb dX7_odds_7 (by decide) (fun c2 => ?_) (fun c2 => ?_)
    · have hF := m_pos c2 hF
      exact hj27 H locs ls hF hP hD hS (lv_sub hl [] rfl)
    · have hF := m_neg c2 hF
      refine lv_iload_n hx hb dX7_odds_10 rfl (lv_at hl 2 rfl) ?_
      refine lv_if_lt (tgt := 27) hx hb dX7_odds_11 (by decide) (fun c3 => ?_) (fun c3 => ?_)
      · have hF := m_pos c3 hF
        exact hj27 H locs ls hF hP hD hS (lv_sub hl [] rfl)
      · have hF := m_neg c3 hF
        refine lv_iload_n hx hb dX7_odds_14 rfl (lv_at hl 2 rfl) ?_
        refine lv_ldc (v := 99999) hx hb hown k1 dX7_odds_15 ?_
        refine lv_icmp_gt (tgt := 27) hx hb dX7_odds_17 (by decide) (fun c4 => ?_) (fun c4 => ?_)
        · have hF := m_pos c4 hF
          exact hj27 H locs ls hF hP hD hS (lv_sub hl [] rfl)
        · have hF := m_neg c4 hF
          refine lv_iload_n hx hb dX7_odds_20 rfl (lv_at hl 3 rfl) ?_
          obtain ⟨t5, ht5, hF⟩ := m_bnd hF
          refine mSP (n := 1) (rest := []) (As := [.int x2]) CC hKN hGl hS (c_X7_isPart l E x2 t5 ht5) gX7_odds_X7_isPart rfl ⟨rfl, rfl⟩ (by decide +kernel) ⟨Nat.le_of_ble_eq_true rfl, Nat.le_of_ble_eq_true rfl⟩ m_nil rfl hl.1 rfl (Nat.le_of_ble_eq_true rfl) ⟨Nat.zero_le _, Nat.zero_le _⟩ dX7_odds_21 ?_
          refine W.eq (g2 := F0 m 24 ls [.int t5]) rfl ?_
          refine lv_if_ne (tgt := 31) hx hb dX7_odds_24 (by decide) (fun c6 => ?_) (fun c6 => ?_)
          · have hF := m_pos c6 hF
            refine lv_aload_n hx hb dX7_odds_31 rfl (lv_at hl 0 rfl) ?_
            refine va_get (D := E.1) (ci := 7) (v := .ref (Rooma_self (Onea_now a))) (C := RX7) (T := TX7) (N := 5) hx hb hts k3 hown hK hP 0 rfl rfl 0 (by decide) k2 (fun _ h9 => h9) rfl dX7_odds_32 ?_
            refine va_getN (D := E.1) (ci := 5) (v := .ref (Groupa_self (Rooma_group (Onea_now a)))) (C := RX5) (T := TX5) (N := 9) hx hb hts k5 hown hK hP 1 rfl rfl 0 (by decide) k4 (fun _ h9 => h9) rfl dX7_odds_35 ?_
            refine va_getN (D := E.1) (ci := 2) (v := .int (Group_size (Room_group (One_now v)))) (C := RX2) (T := TX2) (N := 11) hx hb hts k7 hown hK hP 2 rfl rfl 0 (by decide) k6 (fun _ h9 => h9) rfl dX7_odds_38 ?_
            refine lv_if_ne (tgt := 48) hx hb dX7_odds_41 (by decide) (fun c7 => ?_) (fun c7 => ?_)
            · have hF := m_pos c7 hF
              refine lv_iconst (v := 0) hx hb dX7_odds_48 (by decide) ?_
              refine lv_istore (lv' := [(4, .int 0), (0, .ref (Onea_self a)), (1, .int x0), (2, .int x1), (3, .int x2)]) hx hb dX7_odds_49 hl (by decide) rfl (fun ls hl => ?_)
              refine lv_iconst (v := 0) hx hb dX7_odds_51 (by decide) ?_
              refine lv_istore (lv' := [(5, .int 0), (4, .int 0), (0, .ref (Onea_self a)), (1, .int x0), (2, .int x1), (3, .int x2)]) hx hb dX7_odds_52 hl (by decide) rfl (fun ls hl => ?_)
              obtain ⟨j110, hjd110, hF⟩ := m_jp hF
              have hj110 : ∀ (x4_110 : Int32) (wx_110 : OneV) (H : Heap) (locs : List Loc) (ls : Array Slot), j110 x4_110 wx_110 = some t → va_P E.1 vwCl (One_c E a wx_110) H → va_D A (One_c E a wx_110) → va_S A s.heap H locs → lv_has ls 6 [(0, .ref (Onea_self a)), (3, .int x2), (4, .int x4_110)] → W p l e_ rmX7_odds s m args below meth c H locs 0 0 Q (F0 m 110 ls []) := by
                intro x4_110 wx_110 H locs ls hF hP hD hS hl
                rw [hjd110] at hF
                refine lv_iload hx hb dX7_odds_110 (lv_at hl 2 rfl) ?_
                refine lv_i2l (v := (x4_110).toInt64) hx hb dX7_odds_112 rfl ?_
                refine lv_aload_n hx hb dX7_odds_113 rfl (lv_at hl 0 rfl) ?_
                refine va_get (D := E.1) (ci := 7) (v := .ref (Rooma_self (Onea_now a))) (C := RX7) (T := TX7) (N := 5) hx hb hts k3 hown hK hP 0 rfl rfl 0 (by decide) k2 (fun _ h9 => h9) rfl dX7_odds_114 ?_
                refine va_getN (D := E.1) (ci := 5) (v := .ref (Groupa_self (Rooma_group (Onea_now a)))) (C := RX5) (T := TX5) (N := 9) hx hb hts k5 hown hK hP 1 rfl rfl 0 (by decide) k4 (fun _ h9 => h9) rfl dX7_odds_117 ?_
                refine va_getN (D := E.1) (ci := 2) (v := .int (Group_size (Room_group (One_now wx_110)))) (C := RX2) (T := TX2) (N := 11) hx hb hts k7 hown hK hP 2 rfl rfl 0 (by decide) k6 (fun _ h9 => h9) rfl dX7_odds_120 ?_
                refine lv_i2l (v := ((Group_size (Room_group (One_now wx_110)))).toInt64) hx hb dX7_odds_123 rfl ?_
                refine lv_iload_n hx hb dX7_odds_124 rfl (lv_at hl 1 rfl) ?_
                obtain ⟨t8, ht8, hF⟩ := m_bnd hF
                refine mSP (n := 3) (rest := []) (As := [.long (x4_110).toInt64, .long ((Group_size (Room_group (One_now wx_110)))).toInt64, .int x2]) CC hKN hGl hS (c_X7_inLowestTerms l E (x4_110).toInt64 ((Group_size (Room_group (One_now wx_110)))).toInt64 x2 t8 ht8) gX7_odds_X7_inLowestTerms rfl ⟨rfl, rfl⟩ (by decide +kernel) ⟨Nat.le_of_ble_eq_true rfl, Nat.le_of_ble_eq_true rfl⟩ m_nil rfl hl.1 rfl (Nat.le_of_ble_eq_true rfl) ⟨Nat.zero_le _, Nat.zero_le _⟩ dX7_odds_125 ?_
                refine W.eq (g2 := F0 m 128 ls [.long t8]) rfl ?_
                have hF := Option.some.inj hF
                subst hF
                rw [hQ]
                exact W.lret hx hb hr (fun t ht _ => ⟨⟨rfl, by rw [ht]; exact hP, hD⟩, hS.F ht⟩) hS.2.2 dX7_odds_128
              clear hjd110
              have hL54 : ∀ (n : Nat) (y4_54 : Int32) (y5_54 : Int32) (wy_54 : OneV) (H : Heap) (locs : List Loc) (ls : Array Slot), lp_X7_odds_54 le (Lessona_self e) x0 x1 j110 n y4_54 y5_54 wy_54 = some t → va_P E.1 vwCl (One_c E a wy_54) H → va_D A (One_c E a wy_54) → va_S A s.heap H locs → lv_has ls 6 [(0, .ref (Onea_self a)), (1, .int x0), (2, .int x1), (3, .int x2), (4, .int y4_54), (5, .int y5_54)] → W p l e_ rmX7_odds s m args below meth c H locs 0 0 Q (F0 m 54 ls []) := by
                intro n
                induction n with
                | zero =>
                  intro y4_54 y5_54 wy_54 H locs ls hF
                  exact nomatch (show (none : Option (Int64 × OneV)) = some t from hF)
                | succ n ih54 =>
                  intro y4_54 y5_54 wy_54 H locs ls hF hP hD hS hl
                  have hF : st_X7_odds_54 le (Lessona_self e) x0 x1 j110 (lp_X7_odds_54 le (Lessona_self e) x0 x1 j110 n) y4_54 y5_54 wy_54 = some t := hF
                  unfold st_X7_odds_54 at hF
                  refine lv_iload hx hb dX7_odds_54 (lv_at hl 5 rfl) ?_
                  refine lv_aload_n hx hb dX7_odds_56 rfl (lv_at hl 0 rfl) ?_
                  refine va_get (D := E.1) (ci := 7) (v := .ref (Rooma_self (Onea_now a))) (C := RX7) (T := TX7) (N := 5) hx hb hts k3 hown hK hP 0 rfl rfl 0 (by decide) k2 (fun _ h9 => h9) rfl dX7_odds_57 ?_
                  refine va_getN (D := E.1) (ci := 5) (v := .ref (Groupa_self (Rooma_group (Onea_now a)))) (C := RX5) (T := TX5) (N := 9) hx hb hts k5 hown hK hP 1 rfl rfl 0 (by decide) k4 (fun _ h9 => h9) rfl dX7_odds_60 ?_
                  refine va_getN (D := E.1) (ci := 2) (v := .int (Group_size (Room_group (One_now wy_54)))) (C := RX2) (T := TX2) (N := 11) hx hb hts k7 hown hK hP 2 rfl rfl 0 (by decide) k6 (fun _ h9 => h9) rfl dX7_odds_63 ?_
                  refine lv_icmp_ge (tgt := 110) hx hb dX7_odds_66 (by decide) (fun c9 => ?_) (fun c9 => ?_)
                  · have hF := m_pos c9 hF
                    exact hj110 y4_54 wy_54 H locs ls hF hP hD hS (lv_sub hl [0, 3, 4] rfl)
                  · have hF := m_neg c9 hF
                    refine lv_aload_n hx hb dX7_odds_69 rfl (lv_at hl 0 rfl) ?_
                    refine va_get (D := E.1) (ci := 7) (v := .ref (Forecasta_self (Onea_forecast a))) (C := RX7) (T := TX7) (N := 5) hx hb hts k3 hown hK hP 0 rfl rfl 3 (by decide) k8 (fun _ h9 => h9) rfl dX7_odds_70 ?_
                    refine lv_aload_n hx hb dX7_odds_73 rfl (lv_at hl 0 rfl) ?_
                    refine va_get (D := E.1) (ci := 7) (v := .ref (Rooma_self (Onea_now a))) (C := RX7) (T := TX7) (N := 5) hx hb hts k3 hown hK hP 0 rfl rfl 0 (by decide) k2 (fun _ h9 => h9) rfl dX7_odds_74 ?_
                    refine lv_iload hx hb dX7_odds_77 (lv_at hl 5 rfl) ?_
                    obtain ⟨t10, ht10, hF⟩ := m_bnd hF
                    have hpm : List.Perm (One_c E a wy_54) (((Forecast_c E (Onea_forecast a) (One_forecast wy_54)) ++ (Room_c E (Onea_now a) (One_now wy_54))) ++ ((List.take 1 (One_c E a wy_54)) ++ ((List.take 21 (List.drop 22 (One_c E a wy_54))) ++ (List.drop 62 (One_c E a wy_54))))) := m_p2s (A := (List.take 1 (One_c E a wy_54))) (m1 := (Room_c E (Onea_now a) (One_now wy_54))) (B := (List.take 21 (List.drop 22 (One_c E a wy_54)))) (m2 := (Forecast_c E (Onea_forecast a) (One_forecast wy_54))) (C := (List.drop 62 (One_c E a wy_54)))
                    obtain ⟨hPc, hDc, hFc⟩ := m_pre hpm hP hD hS hA
                    refine mVM (ci := 1) (n := 2) (rest := []) (As := [.ref (Rooma_self (Onea_now a)), .int y5_54]) CC hKN hGl (c_X1_beginWithout l E (Onea_forecast a) (One_forecast wy_54) (Onea_now a) (One_now wy_54) y5_54 t10 ht10 _) gX7_odds_X1_beginWithout rfl ⟨rfl, rfl⟩ (by decide +kernel) ⟨Nat.le_of_ble_eq_true rfl, Nat.le_of_ble_eq_true rfl⟩ hPc hDc m_nil m_nilA hS hFc rfl rfl rfl rfl hl.1 rfl (Nat.le_of_ble_eq_true rfl) ⟨Nat.zero_le _, Nat.zero_le _⟩ dX7_odds_79 (fun H1 locs hP1 hD1 hz1 hk1 hS => ?_)
                    have hpn : List.Perm (One_c E a (One_forecast_s wy_54 t10)) (((Forecast_c E (Onea_forecast a) t10) ++ (Room_c E (Onea_now a) (One_now wy_54))) ++ ((List.take 1 (One_c E a wy_54)) ++ ((List.take 21 (List.drop 22 (One_c E a wy_54))) ++ (List.drop 62 (One_c E a wy_54))))) := m_p2s (A := (List.take 1 (One_c E a wy_54))) (m1 := (Room_c E (Onea_now a) (One_now wy_54))) (B := (List.take 21 (List.drop 22 (One_c E a wy_54)))) (m2 := (Forecast_c E (Onea_forecast a) t10)) (C := (List.drop 62 (One_c E a wy_54)))
                    obtain ⟨hP, hD⟩ := m_spl hpm hpn hP hD hk1 hFc hP1 hD1
                    generalize H1 = H at hP hS ⊢
                    refine W.eq (g2 := F0 m 82 ls []) rfl ?_
                    refine lv_aload_n hx hb dX7_odds_82 rfl (lv_at hl 0 rfl) ?_
                    refine va_get (D := E.1) (ci := 7) (v := .ref (Forecasta_self (Onea_forecast a))) (C := RX7) (T := TX7) (N := 5) hx hb hts k3 hown hK hP 0 rfl rfl 3 (by decide) k8 (fun _ h9 => h9) rfl dX7_odds_83 ?_
                    refine lv_iload_n hx hb dX7_odds_86 rfl (lv_at hl 1 rfl) ?_
                    obtain ⟨t11, ht11, hF⟩ := m_bnd hF
                    have hpm : List.Perm (One_c E a (One_forecast_s wy_54 t10)) ((Forecast_c E (Onea_forecast a) t10) ++ ((List.take 43 (One_c E a (One_forecast_s wy_54 t10))) ++ (List.drop 62 (One_c E a (One_forecast_s wy_54 t10))))) := m_p1 (A := (List.take 43 (One_c E a (One_forecast_s wy_54 t10)))) (m := (Forecast_c E (Onea_forecast a) t10)) (C := (List.drop 62 (One_c E a (One_forecast_s wy_54 t10))))
                    obtain ⟨hPc, hDc, hFc⟩ := m_pre hpm hP hD hS hA
                    have hp12 := (m_ro hR0 hRA hS).sub (ws' := Lesson_c E e le) [0, 1, 2, 3] rfl
                    have ha13 := m_roA (wr := Lesson_c E e le) hRA hFc [0, 1, 2, 3] rfl
                    refine mVM (ci := 1) (n := 1) (rest := []) (As := [.int x0]) CC hKN hGl (c_X1_go l E (Onea_forecast a) t10 e le x0 t11 ht11 _) gX7_odds_X1_go rfl ⟨rfl, rfl⟩ (by decide +kernel) ⟨Nat.le_of_ble_eq_true rfl, Nat.le_of_ble_eq_true rfl⟩ hPc hDc hp12 ha13 hS hFc rfl rfl rfl rfl hl.1 rfl (Nat.le_of_ble_eq_true rfl) ⟨Nat.zero_le _, Nat.zero_le _⟩ dX7_odds_87 (fun H1 locs hP1 hD1 hz1 hk1 hS => ?_)
                    have hpn : List.Perm (One_c E a (One_forecast_s wy_54 t11)) ((Forecast_c E (Onea_forecast a) t11) ++ ((List.take 43 (One_c E a (One_forecast_s wy_54 t10))) ++ (List.drop 62 (One_c E a (One_forecast_s wy_54 t10))))) := m_p1 (A := (List.take 43 (One_c E a (One_forecast_s wy_54 t10)))) (m := (Forecast_c E (Onea_forecast a) t11)) (C := (List.drop 62 (One_c E a (One_forecast_s wy_54 t10))))
                    obtain ⟨hP, hD⟩ := m_spl hpm hpn hP hD hk1 hFc hP1 hD1
                    generalize H1 = H at hP hS ⊢
                    refine W.eq (g2 := F0 m 90 ls []) rfl ?_
                    refine lv_aload_n hx hb dX7_odds_90 rfl (lv_at hl 0 rfl) ?_
                    refine va_get (D := E.1) (ci := 7) (v := .ref (Forecasta_self (Onea_forecast a))) (C := RX7) (T := TX7) (N := 5) hx hb hts k3 hown hK hP 0 rfl rfl 3 (by decide) k8 (fun _ h9 => h9) rfl dX7_odds_91 ?_
                    obtain ⟨t14, ht14, hF⟩ := m_bnd hF
                    have hPc := m_cutP (mid := (Forecast_c E (Onea_forecast a) t11)) hP 43 19 rfl
                    refine mVP (ci := 1) (n := 0) (rest := []) (As := []) CC hKN hGl hS (c_X1_workMore l E (Onea_forecast a) t11 t14 ht14) gX7_odds_X1_workMore rfl ⟨rfl, rfl⟩ (by decide +kernel) ⟨Nat.le_of_ble_eq_true rfl, Nat.le_of_ble_eq_true rfl⟩ hPc rfl rfl rfl rfl hl.1 rfl (Nat.le_of_ble_eq_true rfl) ⟨Nat.zero_le _, Nat.zero_le _⟩ dX7_odds_94 ?_
                    refine W.eq (g2 := F0 m 97 ls [.int t14]) rfl ?_
                    refine lv_iload_n hx hb dX7_odds_97 rfl (lv_at hl 2 rfl) ?_
                    obtain ⟨j104, hjd104, hF⟩ := m_jp hF
                    have hj104 : ∀ (x4_104 : Int32) (H : Heap) (locs : List Loc) (ls : Array Slot), j104 x4_104 = some t → va_P E.1 vwCl (One_c E a (One_forecast_s wy_54 t11)) H → va_D A (One_c E a (One_forecast_s wy_54 t11)) → va_S A s.heap H locs → lv_has ls 6 [(0, .ref (Onea_self a)), (1, .int x0), (2, .int x1), (3, .int x2), (4, .int x4_104), (5, .int y5_54)] → W p l e_ rmX7_odds s m args below meth c H locs 0 0 Q (F0 m 104 ls []) := by
                      intro x4_104 H locs ls hF hP hD hS hl
                      rw [hjd104] at hF
                      refine lv_iinc (v := (y5_54 + 1)) (lv' := [(5, .int (y5_54 + 1)), (0, .ref (Onea_self a)), (1, .int x0), (2, .int x1), (3, .int x2), (4, .int x4_104)]) hx hb dX7_odds_104 hl (k := 5) rfl rfl (by decide) rfl (fun ls hl => ?_)
                      refine lv_goto (tgt := 54) hx hb dX7_odds_107 (by decide) ?_
                      exact ih54 x4_104 (y5_54 + 1) (One_forecast_s wy_54 t11) H locs ls hF hP hD hS (lv_sub hl [1, 2, 3, 4, 5, 0] rfl)
                    clear hjd104
                    refine lv_icmp_lt (tgt := 104) hx hb dX7_odds_98 (by decide) (fun c15 => ?_) (fun c15 => ?_)
                    · have hF := m_pos c15 hF
                      exact hj104 y4_54 H locs ls hF hP hD hS (lv_sub hl [0, 1, 2, 3, 4, 5] rfl)
                    · have hF := m_neg c15 hF
                      refine lv_iinc (v := (y4_54 + 1)) (lv' := [(4, .int (y4_54 + 1)), (0, .ref (Onea_self a)), (1, .int x0), (2, .int x1), (3, .int x2), (5, .int y5_54)]) hx hb dX7_odds_101 hl (k := 4) rfl rfl (by decide) rfl (fun ls hl => ?_)
                      exact hj104 (y4_54 + 1) H locs ls hF hP hD hS (lv_sub hl [1, 2, 3, 4, 0, 5] rfl)
              exact hL54 m_N 0 0 v H locs ls hF hP hD hS (lv_sub hl [2, 3, 4, 5, 1, 0] rfl)
            · have hF := m_neg (fun n9 => n9 c7) hF
              refine lv_ldc2 (v := (-9223372036854775808 : Int64)) hx hb hown k0 dX7_odds_44 ?_
              have hF := Option.some.inj hF
              subst hF
              rw [hQ]
              exact W.lret hx hb hr (fun t ht _ => ⟨⟨rfl, by rw [ht]; exact hP, hD⟩, hS.F ht⟩) hS.2.2 dX7_odds_47
          · have hF := m_neg (fun n9 => n9 c6) hF
            exact hj27 H locs ls hF hP hD hS (lv_sub hl [] rfl)

def fn_X7_mean (v : OneV) (le : LessonV) (ea : Nat) (x0 : Int32) (x1 : Int32) : Option (Int64 × OneV) :=
  jp (fun (_ : Unit) => some ((-9223372036854775808 : Int64), v)) (fun j17 => (if x0 < 0 then j17 () else (if 60 < x0 then j17 () else (Option.bind (fn_X7_isPart x1) (fun t3 => (if ¬ t3 = 0 then (if ¬ (Group_size (Room_group (One_now v))) = 0 then (Option.bind (fn_X1_begin (One_forecast v) (One_now v)) (fun t6 => (Option.bind (fn_X1_go t6 le ea x0) (fun t7 => (Option.bind (fn_X1_hoursMore t7) (fun t10 => (Option.bind (fn_X7_inLowestTerms (t10).toInt64 ((Group_size (Room_group (One_now v)))).toInt64 x1) (fun t11 => some (t11, (One_forecast_s v t7)))))))))) else some ((-9223372036854775808 : Int64), v)) else j17 ()))))))
abbrev rmX7_mean : Room := { frames := 6, cells := 0, slots := 0, locals := 147 }
set_option maxRecDepth 100000 in
set_option maxHeartbeats 400000 in
theorem c_X7_mean (l : Launch) (E : mE) (a : OneA) (v : OneV) (e : LessonA) (le : LessonV) (x0 : Int32) (x1 : Int32) (t : (Int64 × OneV)) (hF : fn_X7_mean v le (Lessona_self e) x0 x1 = some t) (sz : Nat) : Met l yX7_mean wsX7_mean rmX7_mean (mPm E [.ref (Onea_self a), .int x0, .int x1] sz ((One_c E a v)) ((Lesson_c E e le))) (mSm E (some (.long t.1)) ((One_c E a t.2)) (va_A ((One_c E a v)) sz)) 0 0 (va_A ((One_c E a v)) sz) := by
  refine mOfM (cc := cX7_mean) (maxL := 3) (ret := (some .long)) (by decide) rfl (Nat.le_of_ble_eq_true rfl) ?_
  intro p e_ s m args below meth c Q A hQ CC hr hlocks hin hA hP hD hKN hGl hR0 hRA ls hl
  have hS : va_S A s.heap s.heap [] := va_S.rf
  have hK := hKN.1
  have hx := CC.1
  have hb := CC.2.1
  have hml := CC.2.2.1
  have hown : s.vm.findClass RX7 = some m.cls := CC.2.2.2.1
  have hts := CC.2.2.2.2
  have hl : lv_has ls 3 [(0, .ref (Onea_self a)), (1, .int x0), (2, .int x1)] := hl
  have k0 := hts (.constantLong RX7 214 (-9223372036854775808)) (by decide +kernel)
  have k1 := hts (.fieldLink RX7 12 "OneDidAll" "now" "LOneDidAll$Room;") (by decide +kernel)
  have k2 := (show ∀ w ∈ u_ws RX7 TX7 5, w ∈ wsX7_mean by decide +kernel)
  have k3 := (va_Nw.use rfl (hKN.2.1 ("OneDidAll", 74, "OneDidAll$Room", "group", "LOneDidAll$Group;", "OneDidAll") (by decide +kernel)) : (Cond.fieldLinkNest "OneDidAll" 74 "OneDidAll$Room" "group" "LOneDidAll$Group;" "OneDidAll").before args s = true)
  have k4 := (show ∀ w ∈ u_ws RX5 TX5 9, w ∈ wsX7_mean by decide +kernel)
  have k5 := (va_Nw.use rfl (hKN.2.1 ("OneDidAll", 78, "OneDidAll$Group", "size", "I", "OneDidAll") (by decide +kernel)) : (Cond.fieldLinkNest "OneDidAll" 78 "OneDidAll$Group" "size" "I" "OneDidAll").before args s = true)
  have k6 := (show ∀ w ∈ u_ws RX2 TX2 11, w ∈ wsX7_mean by decide +kernel)
  have k7 := hts (.fieldLink RX7 28 "OneDidAll" "forecast" "LOneDidAll$Forecast;") (by decide +kernel)
  have hP : va_P E.1 vwCl (One_c E a v) s.heap := hP
  obtain ⟨H, hH⟩ : ∃ H, H = s.heap := ⟨_, rfl⟩
  obtain ⟨locs, hlc⟩ : ∃ z : List Loc, z = [] := ⟨_, rfl⟩
  rw [← hH] at hP
  rw [← hlc] at hS
  have hS : va_S A s.heap H locs := by rw [hH]; exact hS
  rw [← hH, ← hlc]
  unfold fn_X7_mean at hF
  refine lv_iload_n hx hb dX7_mean_0 rfl (lv_at hl 1 rfl) ?_
  obtain ⟨j17, hjd17, hF⟩ := m_jp hF
  have hj17 : ∀ (H : Heap) (locs : List Loc) (ls : Array Slot), j17 () = some t → va_P E.1 vwCl (One_c E a v) H → va_D A (One_c E a v) → va_S A s.heap H locs → lv_has ls 3 [] → W p l e_ rmX7_mean s m args below meth c H locs 0 0 Q (F0 m 17 ls []) := by
    intro H locs ls hF hP hD hS hl
    rw [hjd17] at hF
    refine lv_ldc2 (v := (-9223372036854775808 : Int64)) hx hb hown k0 dX7_mean_17 ?_
    have hF := Option.some.inj hF
    subst hF
    rw [hQ]
    exact W.lret hx hb hr (fun t ht _ => ⟨⟨rfl, by rw [ht]; exact hP, hD⟩, hS.F ht⟩) hS.2.2 dX7_mean_20
  clear hjd17
  refine lv_if_lt (tgt := 17) hx hb dX7_mean_1 (by decide) (fun c1 => ?_) (fun c1 => ?_)
  · have hF := m_pos c1 hF
    exact hj17 H locs ls hF hP hD hS (lv_sub hl [] rfl)
  · have hF := m_neg c1 hF
    refine lv_iload_n hx hb dX7_mean_4 rfl (lv_at hl 1 rfl) ?_
    refine lv_bipush (v := 60) hx hb dX7_mean_5 (by decide) ?_
    refine lv_icmp_gt (tgt := 17) hx hb dX7_mean_7 (by decide) (fun c2 => ?_) (fun c2 => ?_)
    · have hF := m_pos c2 hF
      exact hj17 H locs ls hF hP hD hS (lv_sub hl [] rfl)
    · have hF := m_neg c2 hF
      refine lv_iload_n hx hb dX7_mean_10 rfl (lv_at hl 2 rfl) ?_
      obtain ⟨t3, ht3, hF⟩ := m_bnd hF
      refine mSP (n := 1) (rest := []) (As := [.int x1]) CC hKN hGl hS (c_X7_isPart l E x1 t3 ht3) gX7_mean_X7_isPart rfl ⟨rfl, rfl⟩ (by decide +kernel) ⟨Nat.le_of_ble_eq_true rfl, Nat.le_of_ble_eq_true rfl⟩ m_nil rfl hl.1 rfl (Nat.le_of_ble_eq_true rfl) ⟨Nat.zero_le _, Nat.zero_le _⟩ dX7_mean_11 ?_
      refine W.eq (g2 := F0 m 14 ls [.int t3]) rfl ?_
      refine lv_if_ne (tgt := 21) hx hb dX7_mean_14 (by decide) (fun c4 => ?_) (fun c4 => ?_)
      · have hF := m_pos c4 hF
        refine lv_aload_n hx hb dX7_mean_21 rfl (lv_at hl 0 rfl) ?_
        refine va_get (D := E.1) (ci := 7) (v := .ref (Rooma_self (Onea_now a))) (C := RX7) (T := TX7) (N := 5) hx hb hts k2 hown hK hP 0 rfl rfl 0 (by decide) k1 (fun _ h9 => h9) rfl dX7_mean_22 ?_
        refine va_getN (D := E.1) (ci := 5) (v := .ref (Groupa_self (Rooma_group (Onea_now a)))) (C := RX5) (T := TX5) (N := 9) hx hb hts k4 hown hK hP 1 rfl rfl 0 (by decide) k3 (fun _ h9 => h9) rfl dX7_mean_25 ?_
        refine va_getN (D := E.1) (ci := 2) (v := .int (Group_size (Room_group (One_now v)))) (C := RX2) (T := TX2) (N := 11) hx hb hts k6 hown hK hP 2 rfl rfl 0 (by decide) k5 (fun _ h9 => h9) rfl dX7_mean_28 ?_
        refine lv_if_ne (tgt := 38) hx hb dX7_mean_31 (by decide) (fun c5 => ?_) (fun c5 => ?_)
        · have hF := m_pos c5 hF
          refine lv_aload_n hx hb dX7_mean_38 rfl (lv_at hl 0 rfl) ?_
          refine va_get (D := E.1) (ci := 7) (v := .ref (Forecasta_self (Onea_forecast a))) (C := RX7) (T := TX7) (N := 5) hx hb hts k2 hown hK hP 0 rfl rfl 3 (by decide) k7 (fun _ h9 => h9) rfl dX7_mean_39 ?_
          refine lv_aload_n hx hb dX7_mean_42 rfl (lv_at hl 0 rfl) ?_
          refine va_get (D := E.1) (ci := 7) (v := .ref (Rooma_self (Onea_now a))) (C := RX7) (T := TX7) (N := 5) hx hb hts k2 hown hK hP 0 rfl rfl 0 (by decide) k1 (fun _ h9 => h9) rfl dX7_mean_43 ?_
          obtain ⟨t6, ht6, hF⟩ := m_bnd hF
          have hpm : List.Perm (One_c E a v) (((Forecast_c E (Onea_forecast a) (One_forecast v)) ++ (Room_c E (Onea_now a) (One_now v))) ++ ((List.take 1 (One_c E a v)) ++ ((List.take 21 (List.drop 22 (One_c E a v))) ++ (List.drop 62 (One_c E a v))))) := m_p2s (A := (List.take 1 (One_c E a v))) (m1 := (Room_c E (Onea_now a) (One_now v))) (B := (List.take 21 (List.drop 22 (One_c E a v)))) (m2 := (Forecast_c E (Onea_forecast a) (One_forecast v))) (C := (List.drop 62 (One_c E a v)))
          obtain ⟨hPc, hDc, hFc⟩ := m_pre hpm hP hD hS hA
          refine mVM (ci := 1) (n := 1) (rest := []) (As := [.ref (Rooma_self (Onea_now a))]) CC hKN hGl (c_X1_begin l E (Onea_forecast a) (One_forecast v) (Onea_now a) (One_now v) t6 ht6 _) gX7_mean_X1_begin rfl ⟨rfl, rfl⟩ (by decide +kernel) ⟨Nat.le_of_ble_eq_true rfl, Nat.le_of_ble_eq_true rfl⟩ hPc hDc m_nil m_nilA hS hFc rfl rfl rfl rfl hl.1 rfl (Nat.le_of_ble_eq_true rfl) ⟨Nat.zero_le _, Nat.zero_le _⟩ dX7_mean_46 (fun H1 locs hP1 hD1 hz1 hk1 hS => ?_)
          have hpn : List.Perm (One_c E a (One_forecast_s v t6)) (((Forecast_c E (Onea_forecast a) t6) ++ (Room_c E (Onea_now a) (One_now v))) ++ ((List.take 1 (One_c E a v)) ++ ((List.take 21 (List.drop 22 (One_c E a v))) ++ (List.drop 62 (One_c E a v))))) := m_p2s (A := (List.take 1 (One_c E a v))) (m1 := (Room_c E (Onea_now a) (One_now v))) (B := (List.take 21 (List.drop 22 (One_c E a v)))) (m2 := (Forecast_c E (Onea_forecast a) t6)) (C := (List.drop 62 (One_c E a v)))
          obtain ⟨hP, hD⟩ := m_spl hpm hpn hP hD hk1 hFc hP1 hD1
          generalize H1 = H at hP hS ⊢
          refine W.eq (g2 := F0 m 49 ls []) rfl ?_
          refine lv_aload_n hx hb dX7_mean_49 rfl (lv_at hl 0 rfl) ?_
          refine va_get (D := E.1) (ci := 7) (v := .ref (Forecasta_self (Onea_forecast a))) (C := RX7) (T := TX7) (N := 5) hx hb hts k2 hown hK hP 0 rfl rfl 3 (by decide) k7 (fun _ h9 => h9) rfl dX7_mean_50 ?_
          refine lv_iload_n hx hb dX7_mean_53 rfl (lv_at hl 1 rfl) ?_
          obtain ⟨t7, ht7, hF⟩ := m_bnd hF
          have hpm : List.Perm (One_c E a (One_forecast_s v t6)) ((Forecast_c E (Onea_forecast a) t6) ++ ((List.take 43 (One_c E a (One_forecast_s v t6))) ++ (List.drop 62 (One_c E a (One_forecast_s v t6))))) := m_p1 (A := (List.take 43 (One_c E a (One_forecast_s v t6)))) (m := (Forecast_c E (Onea_forecast a) t6)) (C := (List.drop 62 (One_c E a (One_forecast_s v t6))))
          obtain ⟨hPc, hDc, hFc⟩ := m_pre hpm hP hD hS hA
          have hp8 := (m_ro hR0 hRA hS).sub (ws' := Lesson_c E e le) [0, 1, 2, 3] rfl
          have ha9 := m_roA (wr := Lesson_c E e le) hRA hFc [0, 1, 2, 3] rfl
          refine mVM (ci := 1) (n := 1) (rest := []) (As := [.int x0]) CC hKN hGl (c_X1_go l E (Onea_forecast a) t6 e le x0 t7 ht7 _) gX7_mean_X1_go rfl ⟨rfl, rfl⟩ (by decide +kernel) ⟨Nat.le_of_ble_eq_true rfl, Nat.le_of_ble_eq_true rfl⟩ hPc hDc hp8 ha9 hS hFc rfl rfl rfl rfl hl.1 rfl (Nat.le_of_ble_eq_true rfl) ⟨Nat.zero_le _, Nat.zero_le _⟩ dX7_mean_54 (fun H1 locs hP1 hD1 hz1 hk1 hS => ?_)
          have hpn : List.Perm (One_c E a (One_forecast_s v t7)) ((Forecast_c E (Onea_forecast a) t7) ++ ((List.take 43 (One_c E a (One_forecast_s v t6))) ++ (List.drop 62 (One_c E a (One_forecast_s v t6))))) := m_p1 (A := (List.take 43 (One_c E a (One_forecast_s v t6)))) (m := (Forecast_c E (Onea_forecast a) t7)) (C := (List.drop 62 (One_c E a (One_forecast_s v t6))))
          obtain ⟨hP, hD⟩ := m_spl hpm hpn hP hD hk1 hFc hP1 hD1
          generalize H1 = H at hP hS ⊢
          refine W.eq (g2 := F0 m 57 ls []) rfl ?_
          refine lv_aload_n hx hb dX7_mean_57 rfl (lv_at hl 0 rfl) ?_
          refine va_get (D := E.1) (ci := 7) (v := .ref (Forecasta_self (Onea_forecast a))) (C := RX7) (T := TX7) (N := 5) hx hb hts k2 hown hK hP 0 rfl rfl 3 (by decide) k7 (fun _ h9 => h9) rfl dX7_mean_58 ?_
          obtain ⟨t10, ht10, hF⟩ := m_bnd hF
          have hPc := m_cutP (mid := (Forecast_c E (Onea_forecast a) t7)) hP 43 19 rfl
          refine mVP (ci := 1) (n := 0) (rest := []) (As := []) CC hKN hGl hS (c_X1_hoursMore l E (Onea_forecast a) t7 t10 ht10) gX7_mean_X1_hoursMore rfl ⟨rfl, rfl⟩ (by decide +kernel) ⟨Nat.le_of_ble_eq_true rfl, Nat.le_of_ble_eq_true rfl⟩ hPc rfl rfl rfl rfl hl.1 rfl (Nat.le_of_ble_eq_true rfl) ⟨Nat.zero_le _, Nat.zero_le _⟩ dX7_mean_61 ?_
          refine W.eq (g2 := F0 m 64 ls [.int t10]) rfl ?_
          refine lv_i2l (v := (t10).toInt64) hx hb dX7_mean_64 rfl ?_
          refine lv_aload_n hx hb dX7_mean_65 rfl (lv_at hl 0 rfl) ?_
          refine va_get (D := E.1) (ci := 7) (v := .ref (Rooma_self (Onea_now a))) (C := RX7) (T := TX7) (N := 5) hx hb hts k2 hown hK hP 0 rfl rfl 0 (by decide) k1 (fun _ h9 => h9) rfl dX7_mean_66 ?_
          refine va_getN (D := E.1) (ci := 5) (v := .ref (Groupa_self (Rooma_group (Onea_now a)))) (C := RX5) (T := TX5) (N := 9) hx hb hts k4 hown hK hP 1 rfl rfl 0 (by decide) k3 (fun _ h9 => h9) rfl dX7_mean_69 ?_
          refine va_getN (D := E.1) (ci := 2) (v := .int (Group_size (Room_group (One_now v)))) (C := RX2) (T := TX2) (N := 11) hx hb hts k6 hown hK hP 2 rfl rfl 0 (by decide) k5 (fun _ h9 => h9) rfl dX7_mean_72 ?_
          refine lv_i2l (v := ((Group_size (Room_group (One_now v)))).toInt64) hx hb dX7_mean_75 rfl ?_
          refine lv_iload_n hx hb dX7_mean_76 rfl (lv_at hl 2 rfl) ?_
          obtain ⟨t11, ht11, hF⟩ := m_bnd hF
          refine mSP (n := 3) (rest := []) (As := [.long (t10).toInt64, .long ((Group_size (Room_group (One_now v)))).toInt64, .int x1]) CC hKN hGl hS (c_X7_inLowestTerms l E (t10).toInt64 ((Group_size (Room_group (One_now v)))).toInt64 x1 t11 ht11) gX7_mean_X7_inLowestTerms rfl ⟨rfl, rfl⟩ (by decide +kernel) ⟨Nat.le_of_ble_eq_true rfl, Nat.le_of_ble_eq_true rfl⟩ m_nil rfl hl.1 rfl (Nat.le_of_ble_eq_true rfl) ⟨Nat.zero_le _, Nat.zero_le _⟩ dX7_mean_77 ?_
          refine W.eq (g2 := F0 m 80 ls [.long t11]) rfl ?_
          have hF := Option.some.inj hF
          subst hF
          rw [hQ]
          exact W.lret hx hb hr (fun t ht _ => ⟨⟨rfl, by rw [ht]; exact hP, hD⟩, hS.F ht⟩) hS.2.2 dX7_mean_80
        · have hF := m_neg (fun n9 => n9 c5) hF
          refine lv_ldc2 (v := (-9223372036854775808 : Int64)) hx hb hown k0 dX7_mean_34 ?_
          have hF := Option.some.inj hF
          subst hF
          rw [hQ]
          exact W.lret hx hb hr (fun t ht _ => ⟨⟨rfl, by rw [ht]; exact hP, hD⟩, hS.F ht⟩) hS.2.2 dX7_mean_37
      · have hF := m_neg (fun n9 => n9 c4) hF
        exact hj17 H locs ls hF hP hD hS (lv_sub hl [] rfl)

def fn_X7_done (v : OneV) (le : LessonV) (ea : Nat) (x0 : Int32) : Option (Int32 × OneV) :=
  jp (fun (_ : Unit) => (Option.bind (fn_X1_begin (One_forecast v) (One_now v)) (fun t1 => (Option.bind (fn_X1_follow t1 (Room_plan (One_now v)) le ea) (fun t2 => (if ¬ x0 = 0 then (Option.bind (fn_X1_hoursMore t2) (fun t8 => some (t8, (One_forecast_s v t2)))) else (Option.bind (fn_X1_workMore t2) (fun t9 => some (t9, (One_forecast_s v t2)))))))))) (fun j11 => (if x0 = 0 then j11 () else (if x0 = 1 then j11 () else some ((-1), v))))
abbrev rmX7_done : Room := { frames := 6, cells := 0, slots := 0, locals := 150 }
set_option maxRecDepth 100000 in
set_option maxHeartbeats 400000 in
theorem c_X7_done (l : Launch) (E : mE) (a : OneA) (v : OneV) (e : LessonA) (le : LessonV) (x0 : Int32) (t : (Int32 × OneV)) (hF : fn_X7_done v le (Lessona_self e) x0 = some t) (sz : Nat) : Met l yX7_done wsX7_done rmX7_done (mPm E [.ref (Onea_self a), .int x0] sz ((One_c E a v)) ((Lesson_c E e le))) (mSm E (some (.int t.1)) ((One_c E a t.2)) (va_A ((One_c E a v)) sz)) 0 0 (va_A ((One_c E a v)) sz) := by
  refine mOfM (cc := cX7_done) (maxL := 2) (ret := (some .int)) (by decide) rfl (Nat.le_of_ble_eq_true rfl) ?_
  intro p e_ s m args below meth c Q A hQ CC hr hlocks hin hA hP hD hKN hGl hR0 hRA ls hl
  have hS : va_S A s.heap s.heap [] := va_S.rf
  have hK := hKN.1
  have hx := CC.1
  have hb := CC.2.1
  have hml := CC.2.2.1
  have hown : s.vm.findClass RX7 = some m.cls := CC.2.2.2.1
  have hts := CC.2.2.2.2
  have hl : lv_has ls 2 [(0, .ref (Onea_self a)), (1, .int x0)] := hl
  have k0 := hts (.fieldLink RX7 28 "OneDidAll" "forecast" "LOneDidAll$Forecast;") (by decide +kernel)
  have k1 := (show ∀ w ∈ u_ws RX7 TX7 5, w ∈ wsX7_done by decide +kernel)
  have k2 := hts (.fieldLink RX7 12 "OneDidAll" "now" "LOneDidAll$Room;") (by decide +kernel)
  have k3 := (va_Nw.use rfl (hKN.2.1 ("OneDidAll", 245, "OneDidAll$Room", "plan", "LOneDidAll$Rows;", "OneDidAll") (by decide +kernel)) : (Cond.fieldLinkNest "OneDidAll" 245 "OneDidAll$Room" "plan" "LOneDidAll$Rows;" "OneDidAll").before args s = true)
  have k4 := (show ∀ w ∈ u_ws RX5 TX5 9, w ∈ wsX7_done by decide +kernel)
  have hP : va_P E.1 vwCl (One_c E a v) s.heap := hP
  obtain ⟨H, hH⟩ : ∃ H, H = s.heap := ⟨_, rfl⟩
  obtain ⟨locs, hlc⟩ : ∃ z : List Loc, z = [] := ⟨_, rfl⟩
  rw [← hH] at hP
  rw [← hlc] at hS
  have hS : va_S A s.heap H locs := by rw [hH]; exact hS
  rw [← hH, ← hlc]
  unfold fn_X7_done at hF
  refine lv_iload_n hx hb dX7_done_0 rfl (lv_at hl 1 rfl) ?_
  obtain ⟨j11, hjd11, hF⟩ := m_jp hF
  have hj11 : ∀ (H : Heap) (locs : List Loc) (ls : Array Slot), j11 () = some t → va_P E.1 vwCl (One_c E a v) H → va_D A (One_c E a v) → va_S A s.heap H locs → lv_has ls 2 [(0, .ref (Onea_self a)), (1, .int x0)] → W p l e_ rmX7_done s m args below meth c H locs 0 0 Q (F0 m 11 ls []) := by
    intro H locs ls hF hP hD hS hl
    rw [hjd11] at hF
    refine lv_aload_n hx hb dX7_done_11 rfl (lv_at hl 0 rfl) ?_
    refine va_get (D := E.1) (ci := 7) (v := .ref (Forecasta_self (Onea_forecast a))) (C := RX7) (T := TX7) (N := 5) hx hb hts k1 hown hK hP 0 rfl rfl 3 (by decide) k0 (fun _ h9 => h9) rfl dX7_done_12 ?_
    refine lv_aload_n hx hb dX7_done_15 rfl (lv_at hl 0 rfl) ?_
    refine va_get (D := E.1) (ci := 7) (v := .ref (Rooma_self (Onea_now a))) (C := RX7) (T := TX7) (N := 5) hx hb hts k1 hown hK hP 0 rfl rfl 0 (by decide) k2 (fun _ h9 => h9) rfl dX7_done_16 ?_
    obtain ⟨t1, ht1, hF⟩ := m_bnd hF
    have hpm : List.Perm (One_c E a v) (((Forecast_c E (Onea_forecast a) (One_forecast v)) ++ (Room_c E (Onea_now a) (One_now v))) ++ ((List.take 1 (One_c E a v)) ++ ((List.take 21 (List.drop 22 (One_c E a v))) ++ (List.drop 62 (One_c E a v))))) := m_p2s (A := (List.take 1 (One_c E a v))) (m1 := (Room_c E (Onea_now a) (One_now v))) (B := (List.take 21 (List.drop 22 (One_c E a v)))) (m2 := (Forecast_c E (Onea_forecast a) (One_forecast v))) (C := (List.drop 62 (One_c E a v)))
    obtain ⟨hPc, hDc, hFc⟩ := m_pre hpm hP hD hS hA
    refine mVM (ci := 1) (n := 1) (rest := []) (As := [.ref (Rooma_self (Onea_now a))]) CC hKN hGl (c_X1_begin l E (Onea_forecast a) (One_forecast v) (Onea_now a) (One_now v) t1 ht1 _) gX7_done_X1_begin rfl ⟨rfl, rfl⟩ (by decide +kernel) ⟨Nat.le_of_ble_eq_true rfl, Nat.le_of_ble_eq_true rfl⟩ hPc hDc m_nil m_nilA hS hFc rfl rfl rfl rfl hl.1 rfl (Nat.le_of_ble_eq_true rfl) ⟨Nat.zero_le _, Nat.zero_le _⟩ dX7_done_19 (fun H1 locs hP1 hD1 hz1 hk1 hS => ?_)
    have hpn : List.Perm (One_c E a (One_forecast_s v t1)) (((Forecast_c E (Onea_forecast a) t1) ++ (Room_c E (Onea_now a) (One_now v))) ++ ((List.take 1 (One_c E a v)) ++ ((List.take 21 (List.drop 22 (One_c E a v))) ++ (List.drop 62 (One_c E a v))))) := m_p2s (A := (List.take 1 (One_c E a v))) (m1 := (Room_c E (Onea_now a) (One_now v))) (B := (List.take 21 (List.drop 22 (One_c E a v)))) (m2 := (Forecast_c E (Onea_forecast a) t1)) (C := (List.drop 62 (One_c E a v)))
    obtain ⟨hP, hD⟩ := m_spl hpm hpn hP hD hk1 hFc hP1 hD1
    generalize H1 = H at hP hS ⊢
    refine W.eq (g2 := F0 m 22 ls []) rfl ?_
    refine lv_aload_n hx hb dX7_done_22 rfl (lv_at hl 0 rfl) ?_
    refine va_get (D := E.1) (ci := 7) (v := .ref (Forecasta_self (Onea_forecast a))) (C := RX7) (T := TX7) (N := 5) hx hb hts k1 hown hK hP 0 rfl rfl 3 (by decide) k0 (fun _ h9 => h9) rfl dX7_done_23 ?_
    refine lv_aload_n hx hb dX7_done_26 rfl (lv_at hl 0 rfl) ?_
    refine va_get (D := E.1) (ci := 7) (v := .ref (Rooma_self (Onea_now a))) (C := RX7) (T := TX7) (N := 5) hx hb hts k1 hown hK hP 0 rfl rfl 0 (by decide) k2 (fun _ h9 => h9) rfl dX7_done_27 ?_
    refine va_getN (D := E.1) (ci := 5) (v := .ref (Rowsa_self (Rooma_plan (Onea_now a)))) (C := RX5) (T := TX5) (N := 9) hx hb hts k4 hown hK hP 1 rfl rfl 7 (by decide) k3 (fun _ h9 => h9) rfl dX7_done_30 ?_
    obtain ⟨t2, ht2, hF⟩ := m_bnd hF
    have hpm : List.Perm (One_c E a (One_forecast_s v t1)) ((Forecast_c E (Onea_forecast a) t1) ++ ((List.take 43 (One_c E a (One_forecast_s v t1))) ++ (List.drop 62 (One_c E a (One_forecast_s v t1))))) := m_p1 (A := (List.take 43 (One_c E a (One_forecast_s v t1)))) (m := (Forecast_c E (Onea_forecast a) t1)) (C := (List.drop 62 (One_c E a (One_forecast_s v t1))))
    obtain ⟨hPc, hDc, hFc⟩ := m_pre hpm hP hD hS hA
    have hp3 := m_cutP (mid := Rows_c E (Rooma_plan (Onea_now a)) (Room_plan (One_now v))) hP 16 3 rfl
    have ha4 := m_apart2 (wr := Rows_c E (Rooma_plan (Onea_now a)) (Room_plan (One_now v))) hpm hP hD 16 3 rfl
    have hp5 := (m_ro hR0 hRA hS).sub (ws' := Lesson_c E e le) [0, 1, 2, 3] rfl
    have ha6 := m_roA (wr := Lesson_c E e le) hRA hFc [0, 1, 2, 3] rfl
    refine mVM (ci := 1) (n := 1) (rest := []) (As := [.ref (Rowsa_self (Rooma_plan (Onea_now a)))]) CC hKN hGl (c_X1_follow l E (Onea_forecast a) t1 (Rooma_plan (Onea_now a)) (Room_plan (One_now v)) e le t2 ht2 _) gX7_done_X1_follow rfl ⟨rfl, rfl⟩ (by decide +kernel) ⟨Nat.le_of_ble_eq_true rfl, Nat.le_of_ble_eq_true rfl⟩ hPc hDc (va_P.app hp3 hp5) (m_appA ha4 ha6) hS hFc rfl rfl rfl rfl hl.1 rfl (Nat.le_of_ble_eq_true rfl) ⟨Nat.zero_le _, Nat.zero_le _⟩ dX7_done_33 (fun H1 locs hP1 hD1 hz1 hk1 hS => ?_)
    have hpn : List.Perm (One_c E a (One_forecast_s v t2)) ((Forecast_c E (Onea_forecast a) t2) ++ ((List.take 43 (One_c E a (One_forecast_s v t1))) ++ (List.drop 62 (One_c E a (One_forecast_s v t1))))) := m_p1 (A := (List.take 43 (One_c E a (One_forecast_s v t1)))) (m := (Forecast_c E (Onea_forecast a) t2)) (C := (List.drop 62 (One_c E a (One_forecast_s v t1))))
    obtain ⟨hP, hD⟩ := m_spl hpm hpn hP hD hk1 hFc hP1 hD1
    generalize H1 = H at hP hS ⊢
    refine W.eq (g2 := F0 m 36 ls []) rfl ?_
    refine lv_iload_n hx hb dX7_done_36 rfl (lv_at hl 1 rfl) ?_
    refine lv_if_ne (tgt := 50) hx hb dX7_done_37 (by decide) (fun c7 => ?_) (fun c7 => ?_)
    · have hF := m_pos c7 hF
      refine lv_aload_n hx hb dX7_done_50 rfl (lv_at hl 0 rfl) ?_
      refine va_get (D := E.1) (ci := 7) (v := .ref (Forecasta_self (Onea_forecast a))) (C := RX7) (T := TX7) (N := 5) hx hb hts k1 hown hK hP 0 rfl rfl 3 (by decide) k0 (fun _ h9 => h9) rfl dX7_done_51 ?_
      obtain ⟨t8, ht8, hF⟩ := m_bnd hF
      have hPc := m_cutP (mid := (Forecast_c E (Onea_forecast a) t2)) hP 43 19 rfl
      refine mVP (ci := 1) (n := 0) (rest := []) (As := []) CC hKN hGl hS (c_X1_hoursMore l E (Onea_forecast a) t2 t8 ht8) gX7_done_X1_hoursMore rfl ⟨rfl, rfl⟩ (by decide +kernel) ⟨Nat.le_of_ble_eq_true rfl, Nat.le_of_ble_eq_true rfl⟩ hPc rfl rfl rfl rfl hl.1 rfl (Nat.le_of_ble_eq_true rfl) ⟨Nat.zero_le _, Nat.zero_le _⟩ dX7_done_54 ?_
      refine W.eq (g2 := F0 m 57 ls [.int t8]) rfl ?_
      have hF := Option.some.inj hF
      subst hF
      rw [hQ]
      exact W.iret hx hb hr (fun t ht _ => ⟨⟨rfl, by rw [ht]; exact hP, hD⟩, hS.F ht⟩) hS.2.2 dX7_done_57
    · have hF := m_neg (fun n9 => n9 c7) hF
      refine lv_aload_n hx hb dX7_done_40 rfl (lv_at hl 0 rfl) ?_
      refine va_get (D := E.1) (ci := 7) (v := .ref (Forecasta_self (Onea_forecast a))) (C := RX7) (T := TX7) (N := 5) hx hb hts k1 hown hK hP 0 rfl rfl 3 (by decide) k0 (fun _ h9 => h9) rfl dX7_done_41 ?_
      obtain ⟨t9, ht9, hF⟩ := m_bnd hF
      have hPc := m_cutP (mid := (Forecast_c E (Onea_forecast a) t2)) hP 43 19 rfl
      refine mVP (ci := 1) (n := 0) (rest := []) (As := []) CC hKN hGl hS (c_X1_workMore l E (Onea_forecast a) t2 t9 ht9) gX7_done_X1_workMore rfl ⟨rfl, rfl⟩ (by decide +kernel) ⟨Nat.le_of_ble_eq_true rfl, Nat.le_of_ble_eq_true rfl⟩ hPc rfl rfl rfl rfl hl.1 rfl (Nat.le_of_ble_eq_true rfl) ⟨Nat.zero_le _, Nat.zero_le _⟩ dX7_done_44 ?_
      refine W.eq (g2 := F0 m 47 ls [.int t9]) rfl ?_
      refine lv_goto (tgt := 57) hx hb dX7_done_47 (by decide) ?_
      have hF := Option.some.inj hF
      subst hF
      rw [hQ]
      exact W.iret hx hb hr (fun t ht _ => ⟨⟨rfl, by rw [ht]; exact hP, hD⟩, hS.F ht⟩) hS.2.2 dX7_done_57
  clear hjd11
  refine lv_if_eq (tgt := 11) hx hb dX7_done_1 (by decide) (fun c10 => ?_) (fun c10 => ?_)
  · have hF := m_pos c10 hF
    exact hj11 H locs ls hF hP hD hS (lv_sub hl [0, 1] rfl)
  · have hF := m_neg c10 hF
    refine lv_iload_n hx hb dX7_done_4 rfl (lv_at hl 1 rfl) ?_
    refine lv_iconst (v := 1) hx hb dX7_done_5 (by decide) ?_
    refine lv_icmp_eq (tgt := 11) hx hb dX7_done_6 (by decide) (fun c11 => ?_) (fun c11 => ?_)
    · have hF := m_pos c11 hF
      exact hj11 H locs ls hF hP hD hS (lv_sub hl [0, 1] rfl)
    · have hF := m_neg c11 hF
      refine lv_iconst (v := (-1)) hx hb dX7_done_9 (by decide) ?_
      have hF := Option.some.inj hF
      subst hF
      rw [hQ]
      exact W.iret hx hb hr (fun t ht _ => ⟨⟨rfl, by rw [ht]; exact hP, hD⟩, hS.F ht⟩) hS.2.2 dX7_done_10

