abbrev rmX7_throwOut : Room := { frames := 6, cells := 0, slots := 0, locals := 147 }
set_option maxRecDepth 100000 in
set_option maxHeartbeats 400000 in
theorem c_X7_throwOut (l : Launch) (E : mE) (a : OneA) (v : OneV) (e : LessonA) (le : LessonV) (t : (Int32 × OneV)) (hF : fn_X7_throwOut v le (Lessona_self e) = some t) (sz : Nat) : Met l yX7_throwOut wsX7_throwOut rmX7_throwOut (mPm E [.ref (Onea_self a)] sz ((One_c E a v)) ((Lesson_c E e le))) (mSm E (some (.int t.1)) ((One_c E a t.2)) (va_A ((One_c E a v)) sz)) 0 0 (va_A ((One_c E a v)) sz) := by
  refine mOfM (cc := cX7_throwOut) (maxL := 4) (ret := (some .int)) (by decide) rfl (Nat.le_of_ble_eq_true rfl) ?_
  intro p e_ s m args below meth c Q A hQ CC hr hlocks hin hA hP hD hKN hGl hR0 hRA ls hl
  have hS : va_S A s.heap s.heap [] := va_S.rf
  have hK := hKN.1
  have hx := CC.1
  have hb := CC.2.1
  have hml := CC.2.2.1
  have hown : s.vm.findClass RX7 = some m.cls := CC.2.2.2.1
  have hts := CC.2.2.2.2
  have hl : lv_has ls 4 [(0, .ref (Onea_self a))] := hl
  have k0 := hts (.fieldLink RX7 28 "OneDidAll" "forecast" "LOneDidAll$Forecast;") (by decide +kernel)
  have k1 := (show ∀ w ∈ u_ws RX7 TX7 5, w ∈ wsX7_throwOut by decide +kernel)
  have k2 := hts (.fieldLink RX7 12 "OneDidAll" "now" "LOneDidAll$Room;") (by decide +kernel)
  have k3 := (va_Nw.use rfl (hKN.2.1 ("OneDidAll", 74, "OneDidAll$Room", "group", "LOneDidAll$Group;", "OneDidAll") (by decide +kernel)) : (Cond.fieldLinkNest "OneDidAll" 74 "OneDidAll$Room" "group" "LOneDidAll$Group;" "OneDidAll").before args s = true)
  have k4 := (show ∀ w ∈ u_ws RX5 TX5 9, w ∈ wsX7_throwOut by decide +kernel)
  have k5 := (va_Nw.use rfl (hKN.2.1 ("OneDidAll", 78, "OneDidAll$Group", "size", "I", "OneDidAll") (by decide +kernel)) : (Cond.fieldLinkNest "OneDidAll" 78 "OneDidAll$Group" "size" "I" "OneDidAll").before args s = true)
  have k6 := (show ∀ w ∈ u_ws RX2 TX2 11, w ∈ wsX7_throwOut by decide +kernel)
  have k7 := (va_Nw.use rfl (hKN.2.1 ("OneDidAll", 106, "OneDidAll$Group", "outs", "[Z", "OneDidAll") (by decide +kernel)) : (Cond.fieldLinkNest "OneDidAll" 106 "OneDidAll$Group" "outs" "[Z" "OneDidAll").before args s = true)
  have hP : va_P E.1 vwCl (One_c E a v) s.heap := hP
  obtain ⟨H, hH⟩ : ∃ H, H = s.heap := ⟨_, rfl⟩
  obtain ⟨locs, hlc⟩ : ∃ z : List Loc, z = [] := ⟨_, rfl⟩
  rw [← hH] at hP
  rw [← hlc] at hS
  have hS : va_S A s.heap H locs := by rw [hH]; exact hS
  rw [← hH, ← hlc]
  unfold fn_X7_throwOut at hF
  refine lv_aload_n hx hb dX7_throwOut_0 rfl (lv_at hl 0 rfl) ?_
  refine va_get (D := E.1) (ci := 7) (v := .ref (Forecasta_self (Onea_forecast a))) (C := RX7) (T := TX7) (N := 5) hx hb hts k1 hown hK hP 0 rfl rfl 3 (by decide) k0 (fun _ h9 => h9) rfl dX7_throwOut_1 ?_
  refine lv_aload_n hx hb dX7_throwOut_4 rfl (lv_at hl 0 rfl) ?_
  refine va_get (D := E.1) (ci := 7) (v := .ref (Rooma_self (Onea_now a))) (C := RX7) (T := TX7) (N := 5) hx hb hts k1 hown hK hP 0 rfl rfl 0 (by decide) k2 (fun _ h9 => h9) rfl dX7_throwOut_5 ?_
  obtain ⟨t1, ht1, hF⟩ := m_bnd hF
  have hpm : List.Perm (One_c E a v) (((Forecast_c E (Onea_forecast a) (One_forecast v)) ++ (Room_c E (Onea_now a) (One_now v))) ++ ((List.take 1 (One_c E a v)) ++ ((List.take 21 (List.drop 22 (One_c E a v))) ++ (List.drop 62 (One_c E a v))))) := m_p2s (A := (List.take 1 (One_c E a v))) (m1 := (Room_c E (Onea_now a) (One_now v))) (B := (List.take 21 (List.drop 22 (One_c E a v)))) (m2 := (Forecast_c E (Onea_forecast a) (One_forecast v))) (C := (List.drop 62 (One_c E a v)))
  obtain ⟨hPc, hDc, hFc⟩ := m_pre hpm hP hD hS hA
  refine mVM (ci := 1) (n := 1) (rest := []) (As := [.ref (Rooma_self (Onea_now a))]) CC hKN hGl (c_X1_begin l E (Onea_forecast a) (One_forecast v) (Onea_now a) (One_now v) t1 ht1 _) gX7_throwOut_X1_begin rfl ⟨rfl, rfl⟩ (by decide +kernel) ⟨Nat.le_of_ble_eq_true rfl, Nat.le_of_ble_eq_true rfl⟩ hPc hDc m_nil m_nilA hS hFc rfl rfl rfl rfl hl.1 rfl (Nat.le_of_ble_eq_true rfl) ⟨Nat.zero_le _, Nat.zero_le _⟩ dX7_throwOut_8 (fun H1 locs hP1 hD1 hz1 hk1 hS => ?_)
  have hpn : List.Perm (One_c E a (One_forecast_s v t1)) (((Forecast_c E (Onea_forecast a) t1) ++ (Room_c E (Onea_now a) (One_now v))) ++ ((List.take 1 (One_c E a v)) ++ ((List.take 21 (List.drop 22 (One_c E a v))) ++ (List.drop 62 (One_c E a v))))) := m_p2s (A := (List.take 1 (One_c E a v))) (m1 := (Room_c E (Onea_now a) (One_now v))) (B := (List.take 21 (List.drop 22 (One_c E a v)))) (m2 := (Forecast_c E (Onea_forecast a) t1)) (C := (List.drop 62 (One_c E a v)))
  obtain ⟨hP, hD⟩ := m_spl hpm hpn hP hD hk1 hFc hP1 hD1
  generalize H1 = H at hP hS ⊢
  refine W.eq (g2 := F0 m 11 ls []) rfl ?_
  refine lv_aload_n hx hb dX7_throwOut_11 rfl (lv_at hl 0 rfl) ?_
  refine va_get (D := E.1) (ci := 7) (v := .ref (Forecasta_self (Onea_forecast a))) (C := RX7) (T := TX7) (N := 5) hx hb hts k1 hown hK hP 0 rfl rfl 3 (by decide) k0 (fun _ h9 => h9) rfl dX7_throwOut_12 ?_
  refine lv_bipush (v := 20) hx hb dX7_throwOut_15 (by decide) ?_
  obtain ⟨t2, ht2, hF⟩ := m_bnd hF
  have hpm : List.Perm (One_c E a (One_forecast_s v t1)) ((Forecast_c E (Onea_forecast a) t1) ++ ((List.take 43 (One_c E a (One_forecast_s v t1))) ++ (List.drop 62 (One_c E a (One_forecast_s v t1))))) := m_p1 (A := (List.take 43 (One_c E a (One_forecast_s v t1)))) (m := (Forecast_c E (Onea_forecast a) t1)) (C := (List.drop 62 (One_c E a (One_forecast_s v t1))))
  obtain ⟨hPc, hDc, hFc⟩ := m_pre hpm hP hD hS hA
  have hp3 := (m_ro hR0 hRA hS).sub (ws' := Lesson_c E e le) [0, 1, 2, 3] rfl
  have ha4 := m_roA (wr := Lesson_c E e le) hRA hFc [0, 1, 2, 3] rfl
  refine mVM (ci := 1) (n := 1) (rest := []) (As := [.int 20]) CC hKN hGl (c_X1_go l E (Onea_forecast a) t1 e le 20 t2 ht2 _) gX7_throwOut_X1_go rfl ⟨rfl, rfl⟩ (by decide +kernel) ⟨Nat.le_of_ble_eq_true rfl, Nat.le_of_ble_eq_true rfl⟩ hPc hDc hp3 ha4 hS hFc rfl rfl rfl rfl hl.1 rfl (Nat.le_of_ble_eq_true rfl) ⟨Nat.zero_le _, Nat.zero_le _⟩ dX7_throwOut_17 (fun H1 locs hP1 hD1 hz1 hk1 hS => ?_)
  have hpn : List.Perm (One_c E a (One_forecast_s v t2)) ((Forecast_c E (Onea_forecast a) t2) ++ ((List.take 43 (One_c E a (One_forecast_s v t1))) ++ (List.drop 62 (One_c E a (One_forecast_s v t1))))) := m_p1 (A := (List.take 43 (One_c E a (One_forecast_s v t1)))) (m := (Forecast_c E (Onea_forecast a) t2)) (C := (List.drop 62 (One_c E a (One_forecast_s v t1))))
  obtain ⟨hP, hD⟩ := m_spl hpm hpn hP hD hk1 hFc hP1 hD1
  generalize H1 = H at hP hS ⊢
  refine W.eq (g2 := F0 m 20 ls []) rfl ?_
  refine lv_aload_n hx hb dX7_throwOut_20 rfl (lv_at hl 0 rfl) ?_
  refine va_get (D := E.1) (ci := 7) (v := .ref (Forecasta_self (Onea_forecast a))) (C := RX7) (T := TX7) (N := 5) hx hb hts k1 hown hK hP 0 rfl rfl 3 (by decide) k0 (fun _ h9 => h9) rfl dX7_throwOut_21 ?_
  obtain ⟨t5, ht5, hF⟩ := m_bnd hF
  have hPc := m_cutP (mid := (Forecast_c E (Onea_forecast a) t2)) hP 43 19 rfl
  refine mVP (ci := 1) (n := 0) (rest := []) (As := []) CC hKN hGl hS (c_X1_workMore l E (Onea_forecast a) t2 t5 ht5) gX7_throwOut_X1_workMore rfl ⟨rfl, rfl⟩ (by decide +kernel) ⟨Nat.le_of_ble_eq_true rfl, Nat.le_of_ble_eq_true rfl⟩ hPc rfl rfl rfl rfl hl.1 rfl (Nat.le_of_ble_eq_true rfl) ⟨Nat.zero_le _, Nat.zero_le _⟩ dX7_throwOut_24 ?_
  refine W.eq (g2 := F0 m 27 ls [.int t5]) rfl ?_
  refine lv_istore_n (lv' := [(1, .int t5), (0, .ref (Onea_self a))]) hx hb dX7_throwOut_27 rfl hl (by decide) rfl (fun ls hl => ?_)
  refine lv_bipush (v := (-5)) hx hb dX7_throwOut_28 (by decide) ?_
  refine lv_istore_n (lv' := [(2, .int (-5)), (1, .int t5), (0, .ref (Onea_self a))]) hx hb dX7_throwOut_30 rfl hl (by decide) rfl (fun ls hl => ?_)
  refine lv_iconst (v := 0) hx hb dX7_throwOut_31 (by decide) ?_
  refine lv_istore_n (lv' := [(3, .int 0), (2, .int (-5)), (1, .int t5), (0, .ref (Onea_self a))]) hx hb dX7_throwOut_32 rfl hl (by decide) rfl (fun ls hl => ?_)
  have hL33 : ∀ (n : Nat) (y1_33 : Int32) (y2_33 : Int32) (y3_33 : Int32) (wy_33 : OneV) (H : Heap) (locs : List Loc) (ls : Array Slot), lp_X7_throwOut_33 le (Lessona_self e) n y1_33 y2_33 y3_33 wy_33 = some t → va_P E.1 vwCl (One_c E a wy_33) H → va_D A (One_c E a wy_33) → va_S A s.heap H locs → lv_has ls 4 [(0, .ref (Onea_self a)), (1, .int y1_33), (2, .int y2_33), (3, .int y3_33)] → W p l e_ rmX7_throwOut s m args below meth c H locs 0 0 Q (F0 m 33 ls []) := by
    intro n
    induction n with
    | zero =>
      intro y1_33 y2_33 y3_33 wy_33 H locs ls hF
      exact nomatch (show (none : Option (Int32 × OneV)) = some t from hF)
    | succ n ih33 =>
      intro y1_33 y2_33 y3_33 wy_33 H locs ls hF hP hD hS hl
      have hF : st_X7_throwOut_33 le (Lessona_self e) (lp_X7_throwOut_33 le (Lessona_self e) n) y1_33 y2_33 y3_33 wy_33 = some t := hF
      unfold st_X7_throwOut_33 at hF
      refine lv_iload_n hx hb dX7_throwOut_33 rfl (lv_at hl 3 rfl) ?_
      refine lv_aload_n hx hb dX7_throwOut_34 rfl (lv_at hl 0 rfl) ?_
      refine va_get (D := E.1) (ci := 7) (v := .ref (Rooma_self (Onea_now a))) (C := RX7) (T := TX7) (N := 5) hx hb hts k1 hown hK hP 0 rfl rfl 0 (by decide) k2 (fun _ h9 => h9) rfl dX7_throwOut_35 ?_
      refine va_getN (D := E.1) (ci := 5) (v := .ref (Groupa_self (Rooma_group (Onea_now a)))) (C := RX5) (T := TX5) (N := 9) hx hb hts k4 hown hK hP 1 rfl rfl 0 (by decide) k3 (fun _ h9 => h9) rfl dX7_throwOut_38 ?_
      refine va_getN (D := E.1) (ci := 2) (v := .int (Group_size (Room_group (One_now wy_33)))) (C := RX2) (T := TX2) (N := 11) hx hb hts k6 hown hK hP 2 rfl rfl 0 (by decide) k5 (fun _ h9 => h9) rfl dX7_throwOut_41 ?_
      refine lv_icmp_ge (tgt := 113) hx hb dX7_throwOut_44 (by decide) (fun c6 => ?_) (fun c6 => ?_)
      · have hF := m_pos c6 hF
        refine lv_iload_n hx hb dX7_throwOut_113 rfl (lv_at hl 2 rfl) ?_
        have hF := Option.some.inj hF
        subst hF
        rw [hQ]
        exact W.iret hx hb hr (fun t ht _ => ⟨⟨rfl, by rw [ht]; exact hP, hD⟩, hS.F ht⟩) hS.2.2 dX7_throwOut_114
      · have hF := m_neg c6 hF
        refine lv_aload_n hx hb dX7_throwOut_47 rfl (lv_at hl 0 rfl) ?_
        refine va_get (D := E.1) (ci := 7) (v := .ref (Rooma_self (Onea_now a))) (C := RX7) (T := TX7) (N := 5) hx hb hts k1 hown hK hP 0 rfl rfl 0 (by decide) k2 (fun _ h9 => h9) rfl dX7_throwOut_48 ?_
        refine va_getN (D := E.1) (ci := 5) (v := .ref (Groupa_self (Rooma_group (Onea_now a)))) (C := RX5) (T := TX5) (N := 9) hx hb hts k4 hown hK hP 1 rfl rfl 0 (by decide) k3 (fun _ h9 => h9) rfl dX7_throwOut_51 ?_
        refine va_getN (D := E.1) (ci := 2) (v := .ref (Groupa_outs (Rooma_group (Onea_now a)))) (C := RX2) (T := TX2) (N := 11) hx hb hts k6 hown hK hP 2 rfl rfl 8 (by decide) k7 (fun _ h9 => h9) rfl dX7_throwOut_54 ?_
        refine lv_iload_n hx hb dX7_throwOut_57 rfl (lv_at hl 3 rfl) ?_
        obtain ⟨h7, hF⟩ := m_chk hF
        refine va_zald (f := (Group_outs (Room_group (One_now wy_33)))) hx hb hK hP 8 2 rfl rfl (mIn_ok h7) dX7_throwOut_58 ?_
        refine W.eq (g2 := F0 m 59 ls [.int ((Group_outs (Room_group (One_now wy_33))) (y3_33).toNatClampNeg)]) rfl ?_
        obtain ⟨j107, hjd107, hF⟩ := m_jp hF
        have hj107 : ∀ (x1_107 : Int32) (x2_107 : Int32) (wx_107 : OneV) (H : Heap) (locs : List Loc) (ls : Array Slot), j107 x1_107 x2_107 wx_107 = some t → va_P E.1 vwCl (One_c E a wx_107) H → va_D A (One_c E a wx_107) → va_S A s.heap H locs → lv_has ls 4 [(0, .ref (Onea_self a)), (1, .int x1_107), (2, .int x2_107), (3, .int y3_33)] → W p l e_ rmX7_throwOut s m args below meth c H locs 0 0 Q (F0 m 107 ls []) := by
          intro x1_107 x2_107 wx_107 H locs ls hF hP hD hS hl
          rw [hjd107] at hF
          refine lv_iinc (v := (y3_33 + 1)) (lv' := [(3, .int (y3_33 + 1)), (0, .ref (Onea_self a)), (1, .int x1_107), (2, .int x2_107)]) hx hb dX7_throwOut_107 hl (k := 3) rfl rfl (by decide) rfl (fun ls hl => ?_)
          refine lv_goto (tgt := 33) hx hb dX7_throwOut_110 (by decide) ?_
          exact ih33 x1_107 x2_107 (y3_33 + 1) wx_107 H locs ls hF hP hD hS (lv_sub hl [1, 2, 3, 0] rfl)
        clear hjd107
        refine lv_if_eq (tgt := 65) hx hb dX7_throwOut_59 (by decide) (fun c8 => ?_) (fun c8 => ?_)
        · have hF := m_pos c8 hF
          refine lv_aload_n hx hb dX7_throwOut_65 rfl (lv_at hl 0 rfl) ?_
          refine va_get (D := E.1) (ci := 7) (v := .ref (Forecasta_self (Onea_forecast a))) (C := RX7) (T := TX7) (N := 5) hx hb hts k1 hown hK hP 0 rfl rfl 3 (by decide) k0 (fun _ h9 => h9) rfl dX7_throwOut_66 ?_
          refine lv_aload_n hx hb dX7_throwOut_69 rfl (lv_at hl 0 rfl) ?_
          refine va_get (D := E.1) (ci := 7) (v := .ref (Rooma_self (Onea_now a))) (C := RX7) (T := TX7) (N := 5) hx hb hts k1 hown hK hP 0 rfl rfl 0 (by decide) k2 (fun _ h9 => h9) rfl dX7_throwOut_70 ?_
          refine lv_iload_n hx hb dX7_throwOut_73 rfl (lv_at hl 3 rfl) ?_
          obtain ⟨t9, ht9, hF⟩ := m_bnd hF
          have hpm : List.Perm (One_c E a wy_33) (((Forecast_c E (Onea_forecast a) (One_forecast wy_33)) ++ (Room_c E (Onea_now a) (One_now wy_33))) ++ ((List.take 1 (One_c E a wy_33)) ++ ((List.take 21 (List.drop 22 (One_c E a wy_33))) ++ (List.drop 62 (One_c E a wy_33))))) := m_p2s (A := (List.take 1 (One_c E a wy_33))) (m1 := (Room_c E (Onea_now a) (One_now wy_33))) (B := (List.take 21 (List.drop 22 (One_c E a wy_33)))) (m2 := (Forecast_c E (Onea_forecast a) (One_forecast wy_33))) (C := (List.drop 62 (One_c E a wy_33)))
          obtain ⟨hPc, hDc, hFc⟩ := m_pre hpm hP hD hS hA
          refine mVM (ci := 1) (n := 2) (rest := []) (As := [.ref (Rooma_self (Onea_now a)), .int y3_33]) CC hKN hGl (c_X1_beginWithout l E (Onea_forecast a) (One_forecast wy_33) (Onea_now a) (One_now wy_33) y3_33 t9 ht9 _) gX7_throwOut_X1_beginWithout rfl ⟨rfl, rfl⟩ (by decide +kernel) ⟨Nat.le_of_ble_eq_true rfl, Nat.le_of_ble_eq_true rfl⟩ hPc hDc m_nil m_nilA hS hFc rfl rfl rfl rfl hl.1 rfl (Nat.le_of_ble_eq_true rfl) ⟨Nat.zero_le _, Nat.zero_le _⟩ dX7_throwOut_74 (fun H1 locs hP1 hD1 hz1 hk1 hS => ?_)
          have hpn : List.Perm (One_c E a (One_forecast_s wy_33 t9)) (((Forecast_c E (Onea_forecast a) t9) ++ (Room_c E (Onea_now a) (One_now wy_33))) ++ ((List.take 1 (One_c E a wy_33)) ++ ((List.take 21 (List.drop 22 (One_c E a wy_33))) ++ (List.drop 62 (One_c E a wy_33))))) := m_p2s (A := (List.take 1 (One_c E a wy_33))) (m1 := (Room_c E (Onea_now a) (One_now wy_33))) (B := (List.take 21 (List.drop 22 (One_c E a wy_33)))) (m2 := (Forecast_c E (Onea_forecast a) t9)) (C := (List.drop 62 (One_c E a wy_33)))
          obtain ⟨hP, hD⟩ := m_spl hpm hpn hP hD hk1 hFc hP1 hD1
          generalize H1 = H at hP hS ⊢
          refine W.eq (g2 := F0 m 77 ls []) rfl ?_
          refine lv_aload_n hx hb dX7_throwOut_77 rfl (lv_at hl 0 rfl) ?_
          refine va_get (D := E.1) (ci := 7) (v := .ref (Forecasta_self (Onea_forecast a))) (C := RX7) (T := TX7) (N := 5) hx hb hts k1 hown hK hP 0 rfl rfl 3 (by decide) k0 (fun _ h9 => h9) rfl dX7_throwOut_78 ?_
          refine lv_bipush (v := 20) hx hb dX7_throwOut_81 (by decide) ?_
          obtain ⟨t10, ht10, hF⟩ := m_bnd hF
          have hpm : List.Perm (One_c E a (One_forecast_s wy_33 t9)) ((Forecast_c E (Onea_forecast a) t9) ++ ((List.take 43 (One_c E a (One_forecast_s wy_33 t9))) ++ (List.drop 62 (One_c E a (One_forecast_s wy_33 t9))))) := m_p1 (A := (List.take 43 (One_c E a (One_forecast_s wy_33 t9)))) (m := (Forecast_c E (Onea_forecast a) t9)) (C := (List.drop 62 (One_c E a (One_forecast_s wy_33 t9))))
          obtain ⟨hPc, hDc, hFc⟩ := m_pre hpm hP hD hS hA
          have hp11 := (m_ro hR0 hRA hS).sub (ws' := Lesson_c E e le) [0, 1, 2, 3] rfl
          have ha12 := m_roA (wr := Lesson_c E e le) hRA hFc [0, 1, 2, 3] rfl
          refine mVM (ci := 1) (n := 1) (rest := []) (As := [.int 20]) CC hKN hGl (c_X1_go l E (Onea_forecast a) t9 e le 20 t10 ht10 _) gX7_throwOut_X1_go rfl ⟨rfl, rfl⟩ (by decide +kernel) ⟨Nat.le_of_ble_eq_true rfl, Nat.le_of_ble_eq_true rfl⟩ hPc hDc hp11 ha12 hS hFc rfl rfl rfl rfl hl.1 rfl (Nat.le_of_ble_eq_true rfl) ⟨Nat.zero_le _, Nat.zero_le _⟩ dX7_throwOut_83 (fun H1 locs hP1 hD1 hz1 hk1 hS => ?_)
          have hpn : List.Perm (One_c E a (One_forecast_s wy_33 t10)) ((Forecast_c E (Onea_forecast a) t10) ++ ((List.take 43 (One_c E a (One_forecast_s wy_33 t9))) ++ (List.drop 62 (One_c E a (One_forecast_s wy_33 t9))))) := m_p1 (A := (List.take 43 (One_c E a (One_forecast_s wy_33 t9)))) (m := (Forecast_c E (Onea_forecast a) t10)) (C := (List.drop 62 (One_c E a (One_forecast_s wy_33 t9))))
          obtain ⟨hP, hD⟩ := m_spl hpm hpn hP hD hk1 hFc hP1 hD1
          generalize H1 = H at hP hS ⊢
          refine W.eq (g2 := F0 m 86 ls []) rfl ?_
          refine lv_aload_n hx hb dX7_throwOut_86 rfl (lv_at hl 0 rfl) ?_
          refine va_get (D := E.1) (ci := 7) (v := .ref (Forecasta_self (Onea_forecast a))) (C := RX7) (T := TX7) (N := 5) hx hb hts k1 hown hK hP 0 rfl rfl 3 (by decide) k0 (fun _ h9 => h9) rfl dX7_throwOut_87 ?_
          obtain ⟨t13, ht13, hF⟩ := m_bnd hF
          have hPc := m_cutP (mid := (Forecast_c E (Onea_forecast a) t10)) hP 43 19 rfl
          refine mVP (ci := 1) (n := 0) (rest := []) (As := []) CC hKN hGl hS (c_X1_workMore l E (Onea_forecast a) t10 t13 ht13) gX7_throwOut_X1_workMore rfl ⟨rfl, rfl⟩ (by decide +kernel) ⟨Nat.le_of_ble_eq_true rfl, Nat.le_of_ble_eq_true rfl⟩ hPc rfl rfl rfl rfl hl.1 rfl (Nat.le_of_ble_eq_true rfl) ⟨Nat.zero_le _, Nat.zero_le _⟩ dX7_throwOut_90 ?_
          refine W.eq (g2 := F0 m 93 ls [.int t13]) rfl ?_
          refine lv_iload_n hx hb dX7_throwOut_93 rfl (lv_at hl 1 rfl) ?_
          refine lv_icmp_le (tgt := 107) hx hb dX7_throwOut_94 (by decide) (fun c14 => ?_) (fun c14 => ?_)
          · have hF := m_pos c14 hF
            exact hj107 y1_33 y2_33 (One_forecast_s wy_33 t10) H locs ls hF hP hD hS (lv_sub hl [0, 1, 2, 3] rfl)
          · have hF := m_neg c14 hF
            refine lv_aload_n hx hb dX7_throwOut_97 rfl (lv_at hl 0 rfl) ?_
            refine va_get (D := E.1) (ci := 7) (v := .ref (Forecasta_self (Onea_forecast a))) (C := RX7) (T := TX7) (N := 5) hx hb hts k1 hown hK hP 0 rfl rfl 3 (by decide) k0 (fun _ h9 => h9) rfl dX7_throwOut_98 ?_
            obtain ⟨t15, ht15, hF⟩ := m_bnd hF
            have hPc := m_cutP (mid := (Forecast_c E (Onea_forecast a) t10)) hP 43 19 rfl
            refine mVP (ci := 1) (n := 0) (rest := []) (As := []) CC hKN hGl hS (c_X1_workMore l E (Onea_forecast a) t10 t15 ht15) gX7_throwOut_X1_workMore rfl ⟨rfl, rfl⟩ (by decide +kernel) ⟨Nat.le_of_ble_eq_true rfl, Nat.le_of_ble_eq_true rfl⟩ hPc rfl rfl rfl rfl hl.1 rfl (Nat.le_of_ble_eq_true rfl) ⟨Nat.zero_le _, Nat.zero_le _⟩ dX7_throwOut_101 ?_
            refine W.eq (g2 := F0 m 104 ls [.int t15]) rfl ?_
            refine lv_istore_n (lv' := [(1, .int t15), (0, .ref (Onea_self a)), (2, .int y2_33), (3, .int y3_33)]) hx hb dX7_throwOut_104 rfl hl (by decide) rfl (fun ls hl => ?_)
            refine lv_iload_n hx hb dX7_throwOut_105 rfl (lv_at hl 3 rfl) ?_
            refine lv_istore_n (lv' := [(2, .int y3_33), (1, .int t15), (0, .ref (Onea_self a)), (3, .int y3_33)]) hx hb dX7_throwOut_106 rfl hl (by decide) rfl (fun ls hl => ?_)
            exact hj107 t15 y3_33 (One_forecast_s wy_33 t10) H locs ls hF hP hD hS (lv_sub hl [2, 1, 0, 3] rfl)
        · have hF := m_neg c8 hF
          refine lv_goto (tgt := 107) hx hb dX7_throwOut_62 (by decide) ?_
          exact hj107 y1_33 y2_33 wy_33 H locs ls hF hP hD hS (lv_sub hl [0, 1, 2, 3] rfl)
  exact hL33 m_N t5 (-5) 0 (One_forecast_s v t2) H locs ls hF hP hD hS (lv_sub hl [3, 2, 1, 0] rfl)

abbrev rmX7_alone : Room := { frames := 6, cells := 0, slots := 0, locals := 150 }
set_option maxRecDepth 100000 in
set_option maxHeartbeats 400000 in
theorem c_X7_alone (l : Launch) (E : mE) (a : OneA) (v : OneV) (e : LessonA) (le : LessonV) (x0 : Int32) (t : (Int32 × OneV)) (hF : fn_X7_alone v le (Lessona_self e) x0 = some t) (sz : Nat) : Met l yX7_alone wsX7_alone rmX7_alone (mPm E [.ref (Onea_self a), .int x0] sz ((One_c E a v)) ((Lesson_c E e le))) (mSm E (some (.int t.1)) ((One_c E a t.2)) (va_A ((One_c E a v)) sz)) 0 0 (va_A ((One_c E a v)) sz) := by
  refine mOfM (cc := cX7_alone) (maxL := 2) (ret := (some .int)) (by decide) rfl (Nat.le_of_ble_eq_true rfl) ?_
  intro p e_ s m args below meth c Q A hQ CC hr hlocks hin hA hP hD hKN hGl hR0 hRA ls hl
  have hS : va_S A s.heap s.heap [] := va_S.rf
  have hK := hKN.1
  have hx := CC.1
  have hb := CC.2.1
  have hml := CC.2.2.1
  have hown : s.vm.findClass RX7 = some m.cls := CC.2.2.2.1
  have hts := CC.2.2.2.2
  have hl : lv_has ls 2 [(0, .ref (Onea_self a)), (1, .int x0)] := hl
  have k0 := hts (.fieldLink RX7 28 "OneDidAll" "forecast" "LOneDidAll$Forecast;") (by decide +kernel)
  have k1 := (show ∀ w ∈ u_ws RX7 TX7 5, w ∈ wsX7_alone by decide +kernel)
  have k2 := hts (.fieldLink RX7 12 "OneDidAll" "now" "LOneDidAll$Room;") (by decide +kernel)
  have hP : va_P E.1 vwCl (One_c E a v) s.heap := hP
  obtain ⟨H, hH⟩ : ∃ H, H = s.heap := ⟨_, rfl⟩
  obtain ⟨locs, hlc⟩ : ∃ z : List Loc, z = [] := ⟨_, rfl⟩
  rw [← hH] at hP
  rw [← hlc] at hS
  have hS : va_S A s.heap H locs := by rw [hH]; exact hS
  rw [← hH, ← hlc]
  unfold fn_X7_alone at hF
  refine lv_aload_n hx hb dX7_alone_0 rfl (lv_at hl 0 rfl) ?_
  refine lv_iload_n hx hb dX7_alone_1 rfl (lv_at hl 1 rfl) ?_
  obtain ⟨t1, ht1, hF⟩ := m_bnd hF
  refine mVP (ci := 7) (n := 1) (rest := []) (As := [.int x0]) CC hKN hGl hS (c_X7_isPupil l E a v x0 t1 ht1) gX7_alone_X7_isPupil rfl ⟨rfl, rfl⟩ (by decide +kernel) ⟨Nat.le_of_ble_eq_true rfl, Nat.le_of_ble_eq_true rfl⟩ hP rfl rfl rfl rfl hl.1 rfl (Nat.le_of_ble_eq_true rfl) ⟨Nat.zero_le _, Nat.zero_le _⟩ dX7_alone_2 ?_
  refine W.eq (g2 := F0 m 5 ls [.int t1]) rfl ?_
  refine lv_if_ne (tgt := 10) hx hb dX7_alone_5 (by decide) (fun c2 => ?_) (fun c2 => ?_)
  · have hF := m_pos c2 hF
    refine lv_aload_n hx hb dX7_alone_10 rfl (lv_at hl 0 rfl) ?_
    refine va_get (D := E.1) (ci := 7) (v := .ref (Forecasta_self (Onea_forecast a))) (C := RX7) (T := TX7) (N := 5) hx hb hts k1 hown hK hP 0 rfl rfl 3 (by decide) k0 (fun _ h9 => h9) rfl dX7_alone_11 ?_
    refine lv_aload_n hx hb dX7_alone_14 rfl (lv_at hl 0 rfl) ?_
    refine va_get (D := E.1) (ci := 7) (v := .ref (Rooma_self (Onea_now a))) (C := RX7) (T := TX7) (N := 5) hx hb hts k1 hown hK hP 0 rfl rfl 0 (by decide) k2 (fun _ h9 => h9) rfl dX7_alone_15 ?_
    refine lv_iconst (v := 1) hx hb dX7_alone_18 (by decide) ?_
    refine lv_iload_n hx hb dX7_alone_19 rfl (lv_at hl 1 rfl) ?_
    refine lv_ishl hx hb dX7_alone_20 ?_
    refine lv_bipush (v := 20) hx hb dX7_alone_21 (by decide) ?_
    obtain ⟨t3, ht3, hF⟩ := m_bnd hF
    have hpm : List.Perm (One_c E a v) (((Forecast_c E (Onea_forecast a) (One_forecast v)) ++ (Room_c E (Onea_now a) (One_now v))) ++ ((List.take 1 (One_c E a v)) ++ ((List.take 21 (List.drop 22 (One_c E a v))) ++ (List.drop 62 (One_c E a v))))) := m_p2s (A := (List.take 1 (One_c E a v))) (m1 := (Room_c E (Onea_now a) (One_now v))) (B := (List.take 21 (List.drop 22 (One_c E a v)))) (m2 := (Forecast_c E (Onea_forecast a) (One_forecast v))) (C := (List.drop 62 (One_c E a v)))
    obtain ⟨hPc, hDc, hFc⟩ := m_pre hpm hP hD hS hA
    have hp4 := (m_ro hR0 hRA hS).sub (ws' := Lesson_c E e le) [0, 1, 2, 3] rfl
    have ha5 := m_roA (wr := Lesson_c E e le) hRA hFc [0, 1, 2, 3] rfl
    refine mVM (ci := 1) (n := 3) (rest := []) (As := [.ref (Rooma_self (Onea_now a)), .int ((1 : Int32) <<< (x0 &&& 31)), .int 20]) CC hKN hGl (c_X1_workOf l E (Onea_forecast a) (One_forecast v) (Onea_now a) (One_now v) e le ((1 : Int32) <<< (x0 &&& 31)) 20 t3 ht3 _) gX7_alone_X1_workOf rfl ⟨rfl, rfl⟩ (by decide +kernel) ⟨Nat.le_of_ble_eq_true rfl, Nat.le_of_ble_eq_true rfl⟩ hPc hDc hp4 ha5 hS hFc rfl rfl rfl rfl hl.1 rfl (Nat.le_of_ble_eq_true rfl) ⟨Nat.zero_le _, Nat.zero_le _⟩ dX7_alone_23 (fun H1 locs hP1 hD1 hz1 hk1 hS => ?_)
    have hpn : List.Perm (One_c E a (One_forecast_s v t3.2)) (((Forecast_c E (Onea_forecast a) t3.2) ++ (Room_c E (Onea_now a) (One_now v))) ++ ((List.take 1 (One_c E a v)) ++ ((List.take 21 (List.drop 22 (One_c E a v))) ++ (List.drop 62 (One_c E a v))))) := m_p2s (A := (List.take 1 (One_c E a v))) (m1 := (Room_c E (Onea_now a) (One_now v))) (B := (List.take 21 (List.drop 22 (One_c E a v)))) (m2 := (Forecast_c E (Onea_forecast a) t3.2)) (C := (List.drop 62 (One_c E a v)))
    obtain ⟨hP, hD⟩ := m_spl hpm hpn hP hD hk1 hFc hP1 hD1
    generalize H1 = H at hP hS ⊢
    refine W.eq (g2 := F0 m 26 ls [.int t3.1]) rfl ?_
    have hF := Option.some.inj hF
    subst hF
    rw [hQ]
    exact W.iret hx hb hr (fun t ht _ => ⟨⟨rfl, by rw [ht]; exact hP, hD⟩, hS.F ht⟩) hS.2.2 dX7_alone_26
  · have hF := m_neg (fun n9 => n9 c2) hF
    refine lv_iconst (v := (-1)) hx hb dX7_alone_8 (by decide) ?_
    have hF := Option.some.inj hF
    subst hF
    rw [hQ]
    exact W.iret hx hb hr (fun t ht _ => ⟨⟨rfl, by rw [ht]; exact hP, hD⟩, hS.F ht⟩) hS.2.2 dX7_alone_9

abbrev rmX7_team : Room := { frames := 6, cells := 0, slots := 0, locals := 150 }
set_option maxRecDepth 100000 in
set_option maxHeartbeats 400000 in
theorem c_X7_team (l : Launch) (E : mE) (a : OneA) (v : OneV) (e : LessonA) (le : LessonV) (x0 : Int32) (x1 : Int32) (t : (Int32 × OneV)) (hF : fn_X7_team v le (Lessona_self e) x0 x1 = some t) (sz : Nat) : Met l yX7_team wsX7_team rmX7_team (mPm E [.ref (Onea_self a), .int x0, .int x1] sz ((One_c E a v)) ((Lesson_c E e le))) (mSm E (some (.int t.1)) ((One_c E a t.2)) (va_A ((One_c E a v)) sz)) 0 0 (va_A ((One_c E a v)) sz) := by
  refine mOfM (cc := cX7_team) (maxL := 7) (ret := (some .int)) (by decide) rfl (Nat.le_of_ble_eq_true rfl) ?_
  intro p e_ s m args below meth c Q A hQ CC hr hlocks hin hA hP hD hKN hGl hR0 hRA ls hl
  have hS : va_S A s.heap s.heap [] := va_S.rf
  have hK := hKN.1
  have hx := CC.1
  have hb := CC.2.1
  have hml := CC.2.2.1
  have hown : s.vm.findClass RX7 = some m.cls := CC.2.2.2.1
  have hts := CC.2.2.2.2
  have hl : lv_has ls 7 [(0, .ref (Onea_self a)), (1, .int x0), (2, .int x1)] := hl
  have k0 := hts (.fieldLink RX7 12 "OneDidAll" "now" "LOneDidAll$Room;") (by decide +kernel)
  have k1 := (show ∀ w ∈ u_ws RX7 TX7 5, w ∈ wsX7_team by decide +kernel)
  have k2 := (va_Nw.use rfl (hKN.2.1 ("OneDidAll", 74, "OneDidAll$Room", "group", "LOneDidAll$Group;", "OneDidAll") (by decide +kernel)) : (Cond.fieldLinkNest "OneDidAll" 74 "OneDidAll$Room" "group" "LOneDidAll$Group;" "OneDidAll").before args s = true)
  have k3 := (show ∀ w ∈ u_ws RX5 TX5 9, w ∈ wsX7_team by decide +kernel)
  have k4 := (va_Nw.use rfl (hKN.2.1 ("OneDidAll", 78, "OneDidAll$Group", "size", "I", "OneDidAll") (by decide +kernel)) : (Cond.fieldLinkNest "OneDidAll" 78 "OneDidAll$Group" "size" "I" "OneDidAll").before args s = true)
  have k5 := (show ∀ w ∈ u_ws RX2 TX2 11, w ∈ wsX7_team by decide +kernel)
  have k6 := hts (.fieldLink RX7 28 "OneDidAll" "forecast" "LOneDidAll$Forecast;") (by decide +kernel)
  have hP : va_P E.1 vwCl (One_c E a v) s.heap := hP
  obtain ⟨H, hH⟩ : ∃ H, H = s.heap := ⟨_, rfl⟩
  obtain ⟨locs, hlc⟩ : ∃ z : List Loc, z = [] := ⟨_, rfl⟩
  rw [← hH] at hP
  rw [← hlc] at hS
  have hS : va_S A s.heap H locs := by rw [hH]; exact hS
  rw [← hH, ← hlc]
  unfold fn_X7_team at hF
  refine lv_iload_n hx hb dX7_team_0 rfl (lv_at hl 2 rfl) ?_
  obtain ⟨j11, hjd11, hF⟩ := m_jp hF
  have hj11 : ∀ (H : Heap) (locs : List Loc) (ls : Array Slot), j11 () = some t → va_P E.1 vwCl (One_c E a v) H → va_D A (One_c E a v) → va_S A s.heap H locs → lv_has ls 7 [(0, .ref (Onea_self a)), (1, .int x0), (2, .int x1)] → W p l e_ rmX7_team s m args below meth c H locs 0 0 Q (F0 m 11 ls []) := by
    intro H locs ls hF hP hD hS hl
    rw [hjd11] at hF
    refine lv_iload_n hx hb dX7_team_11 rfl (lv_at hl 1 rfl) ?_
    refine lv_iconst (v := 1) hx hb dX7_team_12 (by decide) ?_
    refine lv_icmp_lt (tgt := 22) hx hb dX7_team_13 (by decide) (fun c1 => ?_) (fun c1 => ?_)
    · have hF := m_pos c1 hF
      refine lv_bipush (v := (-2)) hx hb dX7_team_22 (by decide) ?_
      have hF := Option.some.inj hF
      subst hF
      rw [hQ]
      exact W.iret hx hb hr (fun t ht _ => ⟨⟨rfl, by rw [ht]; exact hP, hD⟩, hS.F ht⟩) hS.2.2 dX7_team_24
    · have hF := m_neg c1 hF
      refine lv_iload_n hx hb dX7_team_16 rfl (lv_at hl 1 rfl) ?_
      refine lv_bipush (v := 6) hx hb dX7_team_17 (by decide) ?_
      refine lv_icmp_le (tgt := 25) hx hb dX7_team_19 (by decide) (fun c2 => ?_) (fun c2 => ?_)
      · have hF := m_pos c2 hF
        refine lv_iload_n hx hb dX7_team_25 rfl (lv_at hl 1 rfl) ?_
        refine lv_aload_n hx hb dX7_team_26 rfl (lv_at hl 0 rfl) ?_
        refine va_get (D := E.1) (ci := 7) (v := .ref (Rooma_self (Onea_now a))) (C := RX7) (T := TX7) (N := 5) hx hb hts k1 hown hK hP 0 rfl rfl 0 (by decide) k0 (fun _ h9 => h9) rfl dX7_team_27 ?_
        refine va_getN (D := E.1) (ci := 5) (v := .ref (Groupa_self (Rooma_group (Onea_now a)))) (C := RX5) (T := TX5) (N := 9) hx hb hts k3 hown hK hP 1 rfl rfl 0 (by decide) k2 (fun _ h9 => h9) rfl dX7_team_30 ?_
        refine va_getN (D := E.1) (ci := 2) (v := .int (Group_size (Room_group (One_now v)))) (C := RX2) (T := TX2) (N := 11) hx hb hts k5 hown hK hP 2 rfl rfl 0 (by decide) k4 (fun _ h9 => h9) rfl dX7_team_33 ?_
        refine lv_icmp_le (tgt := 42) hx hb dX7_team_36 (by decide) (fun c3 => ?_) (fun c3 => ?_)
        · have hF := m_pos c3 hF
          refine lv_iconst (v := (-1)) hx hb dX7_team_42 (by decide) ?_
          refine lv_istore_n (lv' := [(3, .int (-1)), (0, .ref (Onea_self a)), (1, .int x0), (2, .int x1)]) hx hb dX7_team_43 rfl hl (by decide) rfl (fun ls hl => ?_)
          refine lv_iconst (v := 0) hx hb dX7_team_44 (by decide) ?_
          refine lv_istore (lv' := [(4, .int 0), (3, .int (-1)), (0, .ref (Onea_self a)), (1, .int x0), (2, .int x1)]) hx hb dX7_team_45 hl (by decide) rfl (fun ls hl => ?_)
          refine lv_iconst (v := 0) hx hb dX7_team_47 (by decide) ?_
          refine lv_istore (lv' := [(5, .int 0), (4, .int 0), (3, .int (-1)), (0, .ref (Onea_self a)), (1, .int x0), (2, .int x1)]) hx hb dX7_team_48 hl (by decide) rfl (fun ls hl => ?_)
          obtain ⟨j115, hjd115, hF⟩ := m_jp hF
          have hj115 : ∀ (x3_115 : Int32) (x4_115 : Int32) (wx_115 : OneV) (H : Heap) (locs : List Loc) (ls : Array Slot), j115 x3_115 x4_115 wx_115 = some t → va_P E.1 vwCl (One_c E a wx_115) H → va_D A (One_c E a wx_115) → va_S A s.heap H locs → lv_has ls 7 [(2, .int x1), (3, .int x3_115), (4, .int x4_115)] → W p l e_ rmX7_team s m args below meth c H locs 0 0 Q (F0 m 115 ls []) := by
            intro x3_115 x4_115 wx_115 H locs ls hF hP hD hS hl
            rw [hjd115] at hF
            refine lv_iload_n hx hb dX7_team_115 rfl (lv_at hl 0 rfl) ?_
            refine lv_if_ne (tgt := 124) hx hb dX7_team_116 (by decide) (fun c4 => ?_) (fun c4 => ?_)
            · have hF := m_pos c4 hF
              refine lv_iload_n hx hb dX7_team_124 rfl (lv_at hl 1 rfl) ?_
              have hF := Option.some.inj hF
              subst hF
              rw [hQ]
              exact W.iret hx hb hr (fun t ht _ => ⟨⟨rfl, by rw [ht]; exact hP, hD⟩, hS.F ht⟩) hS.2.2 dX7_team_125
            · have hF := m_neg (fun n9 => n9 c4) hF
              refine lv_iload hx hb dX7_team_119 (lv_at hl 2 rfl) ?_
              refine lv_goto (tgt := 125) hx hb dX7_team_121 (by decide) ?_
              have hF := Option.some.inj hF
              subst hF
              rw [hQ]
              exact W.iret hx hb hr (fun t ht _ => ⟨⟨rfl, by rw [ht]; exact hP, hD⟩, hS.F ht⟩) hS.2.2 dX7_team_125
          clear hjd115
          have hL50 : ∀ (n : Nat) (y3_50 : Int32) (y4_50 : Int32) (y5_50 : Int32) (wy_50 : OneV) (H : Heap) (locs : List Loc) (ls : Array Slot), lp_X7_team_50 le (Lessona_self e) x0 j115 n y3_50 y4_50 y5_50 wy_50 = some t → va_P E.1 vwCl (One_c E a wy_50) H → va_D A (One_c E a wy_50) → va_S A s.heap H locs → lv_has ls 7 [(0, .ref (Onea_self a)), (1, .int x0), (2, .int x1), (3, .int y3_50), (4, .int y4_50), (5, .int y5_50)] → W p l e_ rmX7_team s m args below meth c H locs 0 0 Q (F0 m 50 ls []) := by
            intro n
            induction n with
            | zero =>
              intro y3_50 y4_50 y5_50 wy_50 H locs ls hF
              exact nomatch (show (none : Option (Int32 × OneV)) = some t from hF)
            | succ n ih50 =>
              intro y3_50 y4_50 y5_50 wy_50 H locs ls hF hP hD hS hl
              have hF : st_X7_team_50 le (Lessona_self e) x0 j115 (lp_X7_team_50 le (Lessona_self e) x0 j115 n) y3_50 y4_50 y5_50 wy_50 = some t := hF
              unfold st_X7_team_50 at hF
              refine lv_iload hx hb dX7_team_50 (lv_at hl 5 rfl) ?_
              refine lv_iconst (v := 1) hx hb dX7_team_52 (by decide) ?_
              refine lv_aload_n hx hb dX7_team_53 rfl (lv_at hl 0 rfl) ?_
              refine va_get (D := E.1) (ci := 7) (v := .ref (Rooma_self (Onea_now a))) (C := RX7) (T := TX7) (N := 5) hx hb hts k1 hown hK hP 0 rfl rfl 0 (by decide) k0 (fun _ h9 => h9) rfl dX7_team_54 ?_
              refine va_getN (D := E.1) (ci := 5) (v := .ref (Groupa_self (Rooma_group (Onea_now a)))) (C := RX5) (T := TX5) (N := 9) hx hb hts k3 hown hK hP 1 rfl rfl 0 (by decide) k2 (fun _ h9 => h9) rfl dX7_team_57 ?_
              refine va_getN (D := E.1) (ci := 2) (v := .int (Group_size (Room_group (One_now wy_50)))) (C := RX2) (T := TX2) (N := 11) hx hb hts k5 hown hK hP 2 rfl rfl 0 (by decide) k4 (fun _ h9 => h9) rfl dX7_team_60 ?_
              refine lv_ishl hx hb dX7_team_63 ?_
              refine lv_icmp_ge (tgt := 115) hx hb dX7_team_64 (by decide) (fun c5 => ?_) (fun c5 => ?_)
              · have hF := m_pos c5 hF
                exact hj115 y3_50 y4_50 wy_50 H locs ls hF hP hD hS (lv_sub hl [2, 3, 4] rfl)
              · have hF := m_neg c5 hF
                refine lv_iload hx hb dX7_team_67 (lv_at hl 5 rfl) ?_
                obtain ⟨t6, ht6, hF⟩ := m_bnd hF
                refine mSP (n := 1) (rest := []) (As := [.int y5_50]) CC hKN hGl hS (c_J6_bitCount_0f7a4 l E y5_50 t6 ht6) gX7_team_J6_bitCount_0f7a4 rfl ⟨rfl, rfl⟩ (by decide +kernel) ⟨Nat.le_of_ble_eq_true rfl, Nat.le_of_ble_eq_true rfl⟩ m_nil rfl hl.1 rfl (Nat.le_of_ble_eq_true rfl) ⟨Nat.zero_le _, Nat.zero_le _⟩ dX7_team_69 ?_
                refine W.eq (g2 := F0 m 72 ls [.int t6]) rfl ?_
                refine lv_iload_n hx hb dX7_team_72 rfl (lv_at hl 1 rfl) ?_
                obtain ⟨j109, hjd109, hF⟩ := m_jp hF
                have hj109 : ∀ (x3_109 : Int32) (x4_109 : Int32) (wx_109 : OneV) (H : Heap) (locs : List Loc) (ls : Array Slot), j109 x3_109 x4_109 wx_109 = some t → va_P E.1 vwCl (One_c E a wx_109) H → va_D A (One_c E a wx_109) → va_S A s.heap H locs → lv_has ls 7 [(0, .ref (Onea_self a)), (1, .int x0), (2, .int x1), (3, .int x3_109), (4, .int x4_109), (5, .int y5_50)] → W p l e_ rmX7_team s m args below meth c H locs 0 0 Q (F0 m 109 ls []) := by
                  intro x3_109 x4_109 wx_109 H locs ls hF hP hD hS hl
                  rw [hjd109] at hF
                  refine lv_iinc (v := (y5_50 + 1)) (lv' := [(5, .int (y5_50 + 1)), (0, .ref (Onea_self a)), (1, .int x0), (2, .int x1), (3, .int x3_109), (4, .int x4_109)]) hx hb dX7_team_109 hl (k := 5) rfl rfl (by decide) rfl (fun ls hl => ?_)
                  refine lv_goto (tgt := 50) hx hb dX7_team_112 (by decide) ?_
                  exact ih50 x3_109 x4_109 (y5_50 + 1) wx_109 H locs ls hF hP hD hS (lv_sub hl [1, 2, 3, 4, 5, 0] rfl)
                clear hjd109
                refine lv_icmp_eq (tgt := 79) hx hb dX7_team_73 (by decide) (fun c7 => ?_) (fun c7 => ?_)
                · have hF := m_pos c7 hF
                  refine lv_aload_n hx hb dX7_team_79 rfl (lv_at hl 0 rfl) ?_
                  refine va_get (D := E.1) (ci := 7) (v := .ref (Forecasta_self (Onea_forecast a))) (C := RX7) (T := TX7) (N := 5) hx hb hts k1 hown hK hP 0 rfl rfl 3 (by decide) k6 (fun _ h9 => h9) rfl dX7_team_80 ?_
                  refine lv_aload_n hx hb dX7_team_83 rfl (lv_at hl 0 rfl) ?_
                  refine va_get (D := E.1) (ci := 7) (v := .ref (Rooma_self (Onea_now a))) (C := RX7) (T := TX7) (N := 5) hx hb hts k1 hown hK hP 0 rfl rfl 0 (by decide) k0 (fun _ h9 => h9) rfl dX7_team_84 ?_
                  refine lv_iload hx hb dX7_team_87 (lv_at hl 5 rfl) ?_
                  refine lv_bipush (v := 10) hx hb dX7_team_89 (by decide) ?_
                  obtain ⟨t8, ht8, hF⟩ := m_bnd hF
                  have hpm : List.Perm (One_c E a wy_50) (((Forecast_c E (Onea_forecast a) (One_forecast wy_50)) ++ (Room_c E (Onea_now a) (One_now wy_50))) ++ ((List.take 1 (One_c E a wy_50)) ++ ((List.take 21 (List.drop 22 (One_c E a wy_50))) ++ (List.drop 62 (One_c E a wy_50))))) := m_p2s (A := (List.take 1 (One_c E a wy_50))) (m1 := (Room_c E (Onea_now a) (One_now wy_50))) (B := (List.take 21 (List.drop 22 (One_c E a wy_50)))) (m2 := (Forecast_c E (Onea_forecast a) (One_forecast wy_50))) (C := (List.drop 62 (One_c E a wy_50)))
                  obtain ⟨hPc, hDc, hFc⟩ := m_pre hpm hP hD hS hA
                  have hp9 := (m_ro hR0 hRA hS).sub (ws' := Lesson_c E e le) [0, 1, 2, 3] rfl
                  have ha10 := m_roA (wr := Lesson_c E e le) hRA hFc [0, 1, 2, 3] rfl
                  refine mVM (ci := 1) (n := 3) (rest := []) (As := [.ref (Rooma_self (Onea_now a)), .int y5_50, .int 10]) CC hKN hGl (c_X1_workOf l E (Onea_forecast a) (One_forecast wy_50) (Onea_now a) (One_now wy_50) e le y5_50 10 t8 ht8 _) gX7_team_X1_workOf rfl ⟨rfl, rfl⟩ (by decide +kernel) ⟨Nat.le_of_ble_eq_true rfl, Nat.le_of_ble_eq_true rfl⟩ hPc hDc hp9 ha10 hS hFc rfl rfl rfl rfl hl.1 rfl (Nat.le_of_ble_eq_true rfl) ⟨Nat.zero_le _, Nat.zero_le _⟩ dX7_team_91 (fun H1 locs hP1 hD1 hz1 hk1 hS => ?_)
                  have hpn : List.Perm (One_c E a (One_forecast_s wy_50 t8.2)) (((Forecast_c E (Onea_forecast a) t8.2) ++ (Room_c E (Onea_now a) (One_now wy_50))) ++ ((List.take 1 (One_c E a wy_50)) ++ ((List.take 21 (List.drop 22 (One_c E a wy_50))) ++ (List.drop 62 (One_c E a wy_50))))) := m_p2s (A := (List.take 1 (One_c E a wy_50))) (m1 := (Room_c E (Onea_now a) (One_now wy_50))) (B := (List.take 21 (List.drop 22 (One_c E a wy_50)))) (m2 := (Forecast_c E (Onea_forecast a) t8.2)) (C := (List.drop 62 (One_c E a wy_50)))
                  obtain ⟨hP, hD⟩ := m_spl hpm hpn hP hD hk1 hFc hP1 hD1
                  generalize H1 = H at hP hS ⊢
                  refine W.eq (g2 := F0 m 94 ls [.int t8.1]) rfl ?_
                  refine lv_istore (lv' := [(6, .int t8.1), (0, .ref (Onea_self a)), (1, .int x0), (2, .int x1), (3, .int y3_50), (4, .int y4_50), (5, .int y5_50)]) hx hb dX7_team_94 hl (by decide) rfl (fun ls hl => ?_)
                  refine lv_iload hx hb dX7_team_96 (lv_at hl 0 rfl) ?_
                  refine lv_iload_n hx hb dX7_team_98 rfl (lv_at hl 4 rfl) ?_
                  refine lv_icmp_le (tgt := 109) hx hb dX7_team_99 (by decide) (fun c11 => ?_) (fun c11 => ?_)
                  · have hF := m_pos c11 hF
                    exact hj109 y3_50 y4_50 (One_forecast_s wy_50 t8.2) H locs ls hF hP hD hS (lv_sub hl [1, 2, 3, 4, 5, 6] rfl)
                  · have hF := m_neg c11 hF
                    refine lv_iload hx hb dX7_team_102 (lv_at hl 0 rfl) ?_
                    refine lv_istore_n (lv' := [(3, .int t8.1), (6, .int t8.1), (0, .ref (Onea_self a)), (1, .int x0), (2, .int x1), (4, .int y4_50), (5, .int y5_50)]) hx hb dX7_team_104 rfl hl (by decide) rfl (fun ls hl => ?_)
                    refine lv_iload hx hb dX7_team_105 (lv_at hl 6 rfl) ?_
                    refine lv_istore (lv' := [(4, .int y5_50), (3, .int t8.1), (6, .int t8.1), (0, .ref (Onea_self a)), (1, .int x0), (2, .int x1), (5, .int y5_50)]) hx hb dX7_team_107 hl (by decide) rfl (fun ls hl => ?_)
                    exact hj109 t8.1 y5_50 (One_forecast_s wy_50 t8.2) H locs ls hF hP hD hS (lv_sub hl [3, 4, 5, 1, 0, 6] rfl)
                · have hF := m_neg c7 hF
                  refine lv_goto (tgt := 109) hx hb dX7_team_76 (by decide) ?_
                  exact hj109 y3_50 y4_50 wy_50 H locs ls hF hP hD hS (lv_sub hl [0, 1, 2, 3, 4, 5] rfl)
          exact hL50 m_N (-1) 0 0 v H locs ls hF hP hD hS (lv_sub hl [3, 4, 5, 2, 1, 0] rfl)
        · have hF := m_neg c3 hF
          refine lv_bipush (v := (-5)) hx hb dX7_team_39 (by decide) ?_
          have hF := Option.some.inj hF
          subst hF
          rw [hQ]
          exact W.iret hx hb hr (fun t ht _ => ⟨⟨rfl, by rw [ht]; exact hP, hD⟩, hS.F ht⟩) hS.2.2 dX7_team_41
      · have hF := m_neg c2 hF
        refine lv_bipush (v := (-2)) hx hb dX7_team_22 (by decide) ?_
        have hF := Option.some.inj hF
        subst hF
        rw [hQ]
        exact W.iret hx hb hr (fun t ht _ => ⟨⟨rfl, by rw [ht]; exact hP, hD⟩, hS.F ht⟩) hS.2.2 dX7_team_24
  clear hjd11
  refine lv_if_eq (tgt := 11) hx hb dX7_team_1 (by decide) (fun c12 => ?_) (fun c12 => ?_)
  · have hF := m_pos c12 hF
    exact hj11 H locs ls hF hP hD hS (lv_sub hl [0, 1, 2] rfl)
  · have hF := m_neg c12 hF
    refine lv_iload_n hx hb dX7_team_4 rfl (lv_at hl 2 rfl) ?_
    refine lv_iconst (v := 1) hx hb dX7_team_5 (by decide) ?_
    refine lv_icmp_eq (tgt := 11) hx hb dX7_team_6 (by decide) (fun c13 => ?_) (fun c13 => ?_)
    · have hF := m_pos c13 hF
      exact hj11 H locs ls hF hP hD hS (lv_sub hl [0, 1, 2] rfl)
    · have hF := m_neg c13 hF
      refine lv_iconst (v := (-1)) hx hb dX7_team_9 (by decide) ?_
      have hF := Option.some.inj hF
      subst hF
      rw [hQ]
      exact W.iret hx hb hr (fun t ht _ => ⟨⟨rfl, by rw [ht]; exact hP, hD⟩, hS.F ht⟩) hS.2.2 dX7_team_10

abbrev rmX7_split : Room := { frames := 6, cells := 0, slots := 0, locals := 150 }
set_option maxRecDepth 100000 in
set_option maxHeartbeats 400000 in
theorem c_X7_split (l : Launch) (E : mE) (a : OneA) (v : OneV) (e : LessonA) (le : LessonV) (x0 : Int32) (t : (Int32 × OneV)) (hF : fn_X7_split v le (Lessona_self e) x0 = some t) (sz : Nat) : Met l yX7_split wsX7_split rmX7_split (mPm E [.ref (Onea_self a), .int x0] sz ((One_c E a v)) ((Lesson_c E e le))) (mSm E (some (.int t.1)) ((One_c E a t.2)) (va_A ((One_c E a v)) sz)) 0 0 (va_A ((One_c E a v)) sz) := by
  refine mOfM (cc := cX7_split) (maxL := 7) (ret := (some .int)) (by decide) rfl (Nat.le_of_ble_eq_true rfl) ?_
  intro p e_ s m args below meth c Q A hQ CC hr hlocks hin hA hP hD hKN hGl hR0 hRA ls hl
  have hS : va_S A s.heap s.heap [] := va_S.rf
  have hK := hKN.1
  have hx := CC.1
  have hb := CC.2.1
  have hml := CC.2.2.1
  have hown : s.vm.findClass RX7 = some m.cls := CC.2.2.2.1
  have hts := CC.2.2.2.2
  have hl : lv_has ls 7 [(0, .ref (Onea_self a)), (1, .int x0)] := hl
  have k0 := hts (.fieldLink RX7 12 "OneDidAll" "now" "LOneDidAll$Room;") (by decide +kernel)
  have k1 := (show ∀ w ∈ u_ws RX7 TX7 5, w ∈ wsX7_split by decide +kernel)
  have k2 := (va_Nw.use rfl (hKN.2.1 ("OneDidAll", 74, "OneDidAll$Room", "group", "LOneDidAll$Group;", "OneDidAll") (by decide +kernel)) : (Cond.fieldLinkNest "OneDidAll" 74 "OneDidAll$Room" "group" "LOneDidAll$Group;" "OneDidAll").before args s = true)
  have k3 := (show ∀ w ∈ u_ws RX5 TX5 9, w ∈ wsX7_split by decide +kernel)
  have k4 := (va_Nw.use rfl (hKN.2.1 ("OneDidAll", 78, "OneDidAll$Group", "size", "I", "OneDidAll") (by decide +kernel)) : (Cond.fieldLinkNest "OneDidAll" 78 "OneDidAll$Group" "size" "I" "OneDidAll").before args s = true)
  have k5 := (show ∀ w ∈ u_ws RX2 TX2 11, w ∈ wsX7_split by decide +kernel)
  have k6 := hts (.fieldLink RX7 28 "OneDidAll" "forecast" "LOneDidAll$Forecast;") (by decide +kernel)
  have k7 := hts (.methodLink RX7 206 Lib.Math.abs.name) (by decide +kernel)
  have k8 := hts (.static Lib.Math.abs.name) (by decide +kernel)
  have k9 := hts (.initialized "java/lang/Math") (by decide +kernel)
  have k10 := hts (.code Lib.Math.abs.name Lib.Math.abs.code 1 (some .int)) (by decide +kernel)
  have hP : va_P E.1 vwCl (One_c E a v) s.heap := hP
  obtain ⟨H, hH⟩ : ∃ H, H = s.heap := ⟨_, rfl⟩
  obtain ⟨locs, hlc⟩ : ∃ z : List Loc, z = [] := ⟨_, rfl⟩
  rw [← hH] at hP
  rw [← hlc] at hS
  have hS : va_S A s.heap H locs := by rw [hH]; exact hS
  rw [← hH, ← hlc]
  unfold fn_X7_split at hF
  refine lv_iload_n hx hb dX7_split_0 rfl (lv_at hl 1 rfl) ?_
  obtain ⟨j11, hjd11, hF⟩ := m_jp hF
  have hj11 : ∀ (H : Heap) (locs : List Loc) (ls : Array Slot), j11 () = some t → va_P E.1 vwCl (One_c E a v) H → va_D A (One_c E a v) → va_S A s.heap H locs → lv_has ls 7 [(0, .ref (Onea_self a)), (1, .int x0)] → W p l e_ rmX7_split s m args below meth c H locs 0 0 Q (F0 m 11 ls []) := by
    intro H locs ls hF hP hD hS hl
    rw [hjd11] at hF
    refine lv_aload_n hx hb dX7_split_11 rfl (lv_at hl 0 rfl) ?_
    refine va_get (D := E.1) (ci := 7) (v := .ref (Rooma_self (Onea_now a))) (C := RX7) (T := TX7) (N := 5) hx hb hts k1 hown hK hP 0 rfl rfl 0 (by decide) k0 (fun _ h9 => h9) rfl dX7_split_12 ?_
    refine va_getN (D := E.1) (ci := 5) (v := .ref (Groupa_self (Rooma_group (Onea_now a)))) (C := RX5) (T := TX5) (N := 9) hx hb hts k3 hown hK hP 1 rfl rfl 0 (by decide) k2 (fun _ h9 => h9) rfl dX7_split_15 ?_
    refine va_getN (D := E.1) (ci := 2) (v := .int (Group_size (Room_group (One_now v)))) (C := RX2) (T := TX2) (N := 11) hx hb hts k5 hown hK hP 2 rfl rfl 0 (by decide) k4 (fun _ h9 => h9) rfl dX7_split_18 ?_
    refine lv_iconst (v := 2) hx hb dX7_split_21 (by decide) ?_
    refine lv_icmp_ge (tgt := 28) hx hb dX7_split_22 (by decide) (fun c1 => ?_) (fun c1 => ?_)
    · have hF := m_pos c1 hF
      refine lv_iconst (v := 1) hx hb dX7_split_28 (by decide) ?_
      refine lv_aload_n hx hb dX7_split_29 rfl (lv_at hl 0 rfl) ?_
      refine va_get (D := E.1) (ci := 7) (v := .ref (Rooma_self (Onea_now a))) (C := RX7) (T := TX7) (N := 5) hx hb hts k1 hown hK hP 0 rfl rfl 0 (by decide) k0 (fun _ h9 => h9) rfl dX7_split_30 ?_
      refine va_getN (D := E.1) (ci := 5) (v := .ref (Groupa_self (Rooma_group (Onea_now a)))) (C := RX5) (T := TX5) (N := 9) hx hb hts k3 hown hK hP 1 rfl rfl 0 (by decide) k2 (fun _ h9 => h9) rfl dX7_split_33 ?_
      refine va_getN (D := E.1) (ci := 2) (v := .int (Group_size (Room_group (One_now v)))) (C := RX2) (T := TX2) (N := 11) hx hb hts k5 hown hK hP 2 rfl rfl 0 (by decide) k4 (fun _ h9 => h9) rfl dX7_split_36 ?_
      refine lv_ishl hx hb dX7_split_39 ?_
      refine lv_iconst (v := 1) hx hb dX7_split_40 (by decide) ?_
      refine lv_isub hx hb dX7_split_41 ?_
      refine lv_istore_n (lv' := [(2, .int (((1 : Int32) <<< ((Group_size (Room_group (One_now v))) &&& 31)) - 1)), (0, .ref (Onea_self a)), (1, .int x0)]) hx hb dX7_split_42 rfl hl (by decide) rfl (fun ls hl => ?_)
      refine lv_iconst (v := 0) hx hb dX7_split_43 (by decide) ?_
      refine lv_istore_n (lv' := [(3, .int 0), (2, .int (((1 : Int32) <<< ((Group_size (Room_group (One_now v))) &&& 31)) - 1)), (0, .ref (Onea_self a)), (1, .int x0)]) hx hb dX7_split_44 rfl hl (by decide) rfl (fun ls hl => ?_)
      refine lv_iconst (v := 0) hx hb dX7_split_45 (by decide) ?_
      refine lv_istore (lv' := [(4, .int 0), (3, .int 0), (2, .int (((1 : Int32) <<< ((Group_size (Room_group (One_now v))) &&& 31)) - 1)), (0, .ref (Onea_self a)), (1, .int x0)]) hx hb dX7_split_46 hl (by decide) rfl (fun ls hl => ?_)
      refine lv_iconst (v := 1) hx hb dX7_split_48 (by decide) ?_
      refine lv_istore (lv' := [(5, .int 1), (4, .int 0), (3, .int 0), (2, .int (((1 : Int32) <<< ((Group_size (Room_group (One_now v))) &&& 31)) - 1)), (0, .ref (Onea_self a)), (1, .int x0)]) hx hb dX7_split_49 hl (by decide) rfl (fun ls hl => ?_)
      obtain ⟨j119, hjd119, hF⟩ := m_jp hF
      have hj119 : ∀ (x3_119 : Int32) (x4_119 : Int32) (wx_119 : OneV) (H : Heap) (locs : List Loc) (ls : Array Slot), j119 x3_119 x4_119 wx_119 = some t → va_P E.1 vwCl (One_c E a wx_119) H → va_D A (One_c E a wx_119) → va_S A s.heap H locs → lv_has ls 7 [(1, .int x0), (3, .int x3_119), (4, .int x4_119)] → W p l e_ rmX7_split s m args below meth c H locs 0 0 Q (F0 m 119 ls []) := by
        intro x3_119 x4_119 wx_119 H locs ls hF hP hD hS hl
        rw [hjd119] at hF
        refine lv_iload_n hx hb dX7_split_119 rfl (lv_at hl 0 rfl) ?_
        refine lv_if_ne (tgt := 128) hx hb dX7_split_120 (by decide) (fun c2 => ?_) (fun c2 => ?_)
        · have hF := m_pos c2 hF
          refine lv_iload_n hx hb dX7_split_128 rfl (lv_at hl 1 rfl) ?_
          have hF := Option.some.inj hF
          subst hF
          rw [hQ]
          exact W.iret hx hb hr (fun t ht _ => ⟨⟨rfl, by rw [ht]; exact hP, hD⟩, hS.F ht⟩) hS.2.2 dX7_split_129
        · have hF := m_neg (fun n9 => n9 c2) hF
          refine lv_iload hx hb dX7_split_123 (lv_at hl 2 rfl) ?_
          refine lv_goto (tgt := 129) hx hb dX7_split_125 (by decide) ?_
          have hF := Option.some.inj hF
          subst hF
          rw [hQ]
          exact W.iret hx hb hr (fun t ht _ => ⟨⟨rfl, by rw [ht]; exact hP, hD⟩, hS.F ht⟩) hS.2.2 dX7_split_129
      clear hjd119
      have hL51 : ∀ (n : Nat) (y3_51 : Int32) (y4_51 : Int32) (y5_51 : Int32) (wy_51 : OneV) (H : Heap) (locs : List Loc) (ls : Array Slot), lp_X7_split_51 v le (Lessona_self e) j119 n y3_51 y4_51 y5_51 wy_51 = some t → va_P E.1 vwCl (One_c E a wy_51) H → va_D A (One_c E a wy_51) → va_S A s.heap H locs → lv_has ls 7 [(0, .ref (Onea_self a)), (1, .int x0), (2, .int (((1 : Int32) <<< ((Group_size (Room_group (One_now v))) &&& 31)) - 1)), (3, .int y3_51), (4, .int y4_51), (5, .int y5_51)] → W p l e_ rmX7_split s m args below meth c H locs 0 0 Q (F0 m 51 ls []) := by
        intro n
        induction n with
        | zero =>
          intro y3_51 y4_51 y5_51 wy_51 H locs ls hF
          exact nomatch (show (none : Option (Int32 × OneV)) = some t from hF)
        | succ n ih51 =>
          intro y3_51 y4_51 y5_51 wy_51 H locs ls hF hP hD hS hl
          have hF : st_X7_split_51 v le (Lessona_self e) j119 (lp_X7_split_51 v le (Lessona_self e) j119 n) y3_51 y4_51 y5_51 wy_51 = some t := hF
          unfold st_X7_split_51 at hF
          refine lv_iload hx hb dX7_split_51 (lv_at hl 5 rfl) ?_
          refine lv_iload_n hx hb dX7_split_53 rfl (lv_at hl 2 rfl) ?_
          refine lv_icmp_ge (tgt := 119) hx hb dX7_split_54 (by decide) (fun c3 => ?_) (fun c3 => ?_)
          · have hF := m_pos c3 hF
            exact hj119 y3_51 y4_51 wy_51 H locs ls hF hP hD hS (lv_sub hl [1, 3, 4] rfl)
          · have hF := m_neg c3 hF
            refine lv_aload_n hx hb dX7_split_57 rfl (lv_at hl 0 rfl) ?_
            refine va_get (D := E.1) (ci := 7) (v := .ref (Forecasta_self (Onea_forecast a))) (C := RX7) (T := TX7) (N := 5) hx hb hts k1 hown hK hP 0 rfl rfl 3 (by decide) k6 (fun _ h9 => h9) rfl dX7_split_58 ?_
            refine lv_aload_n hx hb dX7_split_61 rfl (lv_at hl 0 rfl) ?_
            refine va_get (D := E.1) (ci := 7) (v := .ref (Rooma_self (Onea_now a))) (C := RX7) (T := TX7) (N := 5) hx hb hts k1 hown hK hP 0 rfl rfl 0 (by decide) k0 (fun _ h9 => h9) rfl dX7_split_62 ?_
            refine lv_iload hx hb dX7_split_65 (lv_at hl 5 rfl) ?_
            refine lv_bipush (v := 10) hx hb dX7_split_67 (by decide) ?_
            obtain ⟨t4, ht4, hF⟩ := m_bnd hF
            have hpm : List.Perm (One_c E a wy_51) (((Forecast_c E (Onea_forecast a) (One_forecast wy_51)) ++ (Room_c E (Onea_now a) (One_now wy_51))) ++ ((List.take 1 (One_c E a wy_51)) ++ ((List.take 21 (List.drop 22 (One_c E a wy_51))) ++ (List.drop 62 (One_c E a wy_51))))) := m_p2s (A := (List.take 1 (One_c E a wy_51))) (m1 := (Room_c E (Onea_now a) (One_now wy_51))) (B := (List.take 21 (List.drop 22 (One_c E a wy_51)))) (m2 := (Forecast_c E (Onea_forecast a) (One_forecast wy_51))) (C := (List.drop 62 (One_c E a wy_51)))
            obtain ⟨hPc, hDc, hFc⟩ := m_pre hpm hP hD hS hA
            have hp5 := (m_ro hR0 hRA hS).sub (ws' := Lesson_c E e le) [0, 1, 2, 3] rfl
            have ha6 := m_roA (wr := Lesson_c E e le) hRA hFc [0, 1, 2, 3] rfl
            refine mVM (ci := 1) (n := 3) (rest := []) (As := [.ref (Rooma_self (Onea_now a)), .int y5_51, .int 10]) CC hKN hGl (c_X1_workOf l E (Onea_forecast a) (One_forecast wy_51) (Onea_now a) (One_now wy_51) e le y5_51 10 t4 ht4 _) gX7_split_X1_workOf rfl ⟨rfl, rfl⟩ (by decide +kernel) ⟨Nat.le_of_ble_eq_true rfl, Nat.le_of_ble_eq_true rfl⟩ hPc hDc hp5 ha6 hS hFc rfl rfl rfl rfl hl.1 rfl (Nat.le_of_ble_eq_true rfl) ⟨Nat.zero_le _, Nat.zero_le _⟩ dX7_split_69 (fun H1 locs hP1 hD1 hz1 hk1 hS => ?_)
            have hpn : List.Perm (One_c E a (One_forecast_s wy_51 t4.2)) (((Forecast_c E (Onea_forecast a) t4.2) ++ (Room_c E (Onea_now a) (One_now wy_51))) ++ ((List.take 1 (One_c E a wy_51)) ++ ((List.take 21 (List.drop 22 (One_c E a wy_51))) ++ (List.drop 62 (One_c E a wy_51))))) := m_p2s (A := (List.take 1 (One_c E a wy_51))) (m1 := (Room_c E (Onea_now a) (One_now wy_51))) (B := (List.take 21 (List.drop 22 (One_c E a wy_51)))) (m2 := (Forecast_c E (Onea_forecast a) t4.2)) (C := (List.drop 62 (One_c E a wy_51)))
            obtain ⟨hP, hD⟩ := m_spl hpm hpn hP hD hk1 hFc hP1 hD1
            generalize H1 = H at hP hS ⊢
            refine W.eq (g2 := F0 m 72 ls [.int t4.1]) rfl ?_
            refine lv_aload_n hx hb dX7_split_72 rfl (lv_at hl 0 rfl) ?_
            refine va_get (D := E.1) (ci := 7) (v := .ref (Forecasta_self (Onea_forecast a))) (C := RX7) (T := TX7) (N := 5) hx hb hts k1 hown hK hP 0 rfl rfl 3 (by decide) k6 (fun _ h9 => h9) rfl dX7_split_73 ?_
            refine lv_aload_n hx hb dX7_split_76 rfl (lv_at hl 0 rfl) ?_
            refine va_get (D := E.1) (ci := 7) (v := .ref (Rooma_self (Onea_now a))) (C := RX7) (T := TX7) (N := 5) hx hb hts k1 hown hK hP 0 rfl rfl 0 (by decide) k0 (fun _ h9 => h9) rfl dX7_split_77 ?_
            refine lv_iload_n hx hb dX7_split_80 rfl (lv_at hl 2 rfl) ?_
            refine lv_iload hx hb dX7_split_81 (lv_at hl 5 rfl) ?_
            refine lv_isub hx hb dX7_split_83 ?_
            refine lv_bipush (v := 10) hx hb dX7_split_84 (by decide) ?_
            obtain ⟨t7, ht7, hF⟩ := m_bnd hF
            have hpm : List.Perm (One_c E a (One_forecast_s wy_51 t4.2)) (((Forecast_c E (Onea_forecast a) t4.2) ++ (Room_c E (Onea_now a) (One_now wy_51))) ++ ((List.take 1 (One_c E a (One_forecast_s wy_51 t4.2))) ++ ((List.take 21 (List.drop 22 (One_c E a (One_forecast_s wy_51 t4.2)))) ++ (List.drop 62 (One_c E a (One_forecast_s wy_51 t4.2)))))) := m_p2s (A := (List.take 1 (One_c E a (One_forecast_s wy_51 t4.2)))) (m1 := (Room_c E (Onea_now a) (One_now wy_51))) (B := (List.take 21 (List.drop 22 (One_c E a (One_forecast_s wy_51 t4.2))))) (m2 := (Forecast_c E (Onea_forecast a) t4.2)) (C := (List.drop 62 (One_c E a (One_forecast_s wy_51 t4.2))))
            obtain ⟨hPc, hDc, hFc⟩ := m_pre hpm hP hD hS hA
            have hp8 := (m_ro hR0 hRA hS).sub (ws' := Lesson_c E e le) [0, 1, 2, 3] rfl
            have ha9 := m_roA (wr := Lesson_c E e le) hRA hFc [0, 1, 2, 3] rfl
            refine mVM (ci := 1) (n := 3) (rest := [.int t4.1]) (As := [.ref (Rooma_self (Onea_now a)), .int ((((1 : Int32) <<< ((Group_size (Room_group (One_now v))) &&& 31)) - 1) - y5_51), .int 10]) CC hKN hGl (c_X1_workOf l E (Onea_forecast a) t4.2 (Onea_now a) (One_now wy_51) e le ((((1 : Int32) <<< ((Group_size (Room_group (One_now v))) &&& 31)) - 1) - y5_51) 10 t7 ht7 _) gX7_split_X1_workOf rfl ⟨rfl, rfl⟩ (by decide +kernel) ⟨Nat.le_of_ble_eq_true rfl, Nat.le_of_ble_eq_true rfl⟩ hPc hDc hp8 ha9 hS hFc rfl rfl rfl rfl hl.1 rfl (Nat.le_of_ble_eq_true rfl) ⟨Nat.zero_le _, Nat.zero_le _⟩ dX7_split_86 (fun H1 locs hP1 hD1 hz1 hk1 hS => ?_)
            have hpn : List.Perm (One_c E a (One_forecast_s wy_51 t7.2)) (((Forecast_c E (Onea_forecast a) t7.2) ++ (Room_c E (Onea_now a) (One_now wy_51))) ++ ((List.take 1 (One_c E a (One_forecast_s wy_51 t4.2))) ++ ((List.take 21 (List.drop 22 (One_c E a (One_forecast_s wy_51 t4.2)))) ++ (List.drop 62 (One_c E a (One_forecast_s wy_51 t4.2)))))) := m_p2s (A := (List.take 1 (One_c E a (One_forecast_s wy_51 t4.2)))) (m1 := (Room_c E (Onea_now a) (One_now wy_51))) (B := (List.take 21 (List.drop 22 (One_c E a (One_forecast_s wy_51 t4.2))))) (m2 := (Forecast_c E (Onea_forecast a) t7.2)) (C := (List.drop 62 (One_c E a (One_forecast_s wy_51 t4.2))))
            obtain ⟨hP, hD⟩ := m_spl hpm hpn hP hD hk1 hFc hP1 hD1
            generalize H1 = H at hP hS ⊢
            refine W.eq (g2 := F0 m 89 ls [.int t7.1, .int t4.1]) rfl ?_
            refine lv_isub hx hb dX7_split_89 ?_
            refine va_mabs hx hb (hml.trans hl.1.symm) hown k7 k8 k9 k10 (Nat.le_of_ble_eq_true rfl) (Nat.le_of_ble_eq_true rfl) (Nat.zero_le _) (Nat.zero_le _) dX7_split_90 ?_
            refine W.eq (g2 := F0 m 93 ls [.int (mAbs (t4.1 - t7.1))]) rfl ?_
            refine lv_istore (lv' := [(6, .int (mAbs (t4.1 - t7.1))), (0, .ref (Onea_self a)), (1, .int x0), (2, .int (((1 : Int32) <<< ((Group_size (Room_group (One_now v))) &&& 31)) - 1)), (3, .int y3_51), (4, .int y4_51), (5, .int y5_51)]) hx hb dX7_split_93 hl (by decide) rfl (fun ls hl => ?_)
            refine lv_iload hx hb dX7_split_95 (lv_at hl 5 rfl) ?_
            obtain ⟨j113, hjd113, hF⟩ := m_jp hF
            have hj113 : ∀ (x3_113 : Int32) (x4_113 : Int32) (H : Heap) (locs : List Loc) (ls : Array Slot), j113 x3_113 x4_113 = some t → va_P E.1 vwCl (One_c E a (One_forecast_s wy_51 t7.2)) H → va_D A (One_c E a (One_forecast_s wy_51 t7.2)) → va_S A s.heap H locs → lv_has ls 7 [(0, .ref (Onea_self a)), (1, .int x0), (2, .int (((1 : Int32) <<< ((Group_size (Room_group (One_now v))) &&& 31)) - 1)), (3, .int x3_113), (4, .int x4_113), (5, .int y5_51)] → W p l e_ rmX7_split s m args below meth c H locs 0 0 Q (F0 m 113 ls []) := by
              intro x3_113 x4_113 H locs ls hF hP hD hS hl
              rw [hjd113] at hF
              refine lv_iinc (v := (y5_51 + 2)) (lv' := [(5, .int (y5_51 + 2)), (0, .ref (Onea_self a)), (1, .int x0), (2, .int (((1 : Int32) <<< ((Group_size (Room_group (One_now v))) &&& 31)) - 1)), (3, .int x3_113), (4, .int x4_113)]) hx hb dX7_split_113 hl (k := 5) rfl rfl (by decide) rfl (fun ls hl => ?_)
              refine lv_goto (tgt := 51) hx hb dX7_split_116 (by decide) ?_
              exact ih51 x3_113 x4_113 (y5_51 + 2) (One_forecast_s wy_51 t7.2) H locs ls hF hP hD hS (lv_sub hl [1, 2, 3, 4, 5, 0] rfl)
            clear hjd113
            obtain ⟨j106, hjd106, hF⟩ := m_jp hF
            have hj106 : ∀ (H : Heap) (locs : List Loc) (ls : Array Slot), j106 () = some t → va_P E.1 vwCl (One_c E a (One_forecast_s wy_51 t7.2)) H → va_D A (One_c E a (One_forecast_s wy_51 t7.2)) → va_S A s.heap H locs → lv_has ls 7 [(0, .ref (Onea_self a)), (1, .int x0), (2, .int (((1 : Int32) <<< ((Group_size (Room_group (One_now v))) &&& 31)) - 1)), (5, .int y5_51), (6, .int (mAbs (t4.1 - t7.1)))] → W p l e_ rmX7_split s m args below meth c H locs 0 0 Q (F0 m 106 ls []) := by
              intro H locs ls hF hP hD hS hl
              rw [hjd106] at hF
              refine lv_iload hx hb dX7_split_106 (lv_at hl 4 rfl) ?_
              refine lv_istore_n (lv' := [(3, .int (mAbs (t4.1 - t7.1))), (0, .ref (Onea_self a)), (1, .int x0), (2, .int (((1 : Int32) <<< ((Group_size (Room_group (One_now v))) &&& 31)) - 1)), (5, .int y5_51), (6, .int (mAbs (t4.1 - t7.1)))]) hx hb dX7_split_108 rfl hl (by decide) rfl (fun ls hl => ?_)
              refine lv_iload hx hb dX7_split_109 (lv_at hl 4 rfl) ?_
              refine lv_istore (lv' := [(4, .int y5_51), (3, .int (mAbs (t4.1 - t7.1))), (0, .ref (Onea_self a)), (1, .int x0), (2, .int (((1 : Int32) <<< ((Group_size (Room_group (One_now v))) &&& 31)) - 1)), (5, .int y5_51), (6, .int (mAbs (t4.1 - t7.1)))]) hx hb dX7_split_111 hl (by decide) rfl (fun ls hl => ?_)
              exact hj113 (mAbs (t4.1 - t7.1)) y5_51 H locs ls hF hP hD hS (lv_sub hl [2, 3, 4, 1, 0, 5] rfl)
            clear hjd106
            refine lv_if_eq (tgt := 106) hx hb dX7_split_97 (by decide) (fun c10 => ?_) (fun c10 => ?_)
            · have hF := m_pos c10 hF
              exact hj106 H locs ls hF hP hD hS (lv_sub hl [1, 2, 3, 6, 0] rfl)
            · have hF := m_neg c10 hF
              refine lv_iload hx hb dX7_split_100 (lv_at hl 0 rfl) ?_
              refine lv_iload_n hx hb dX7_split_102 rfl (lv_at hl 4 rfl) ?_
              refine lv_icmp_ge (tgt := 113) hx hb dX7_split_103 (by decide) (fun c11 => ?_) (fun c11 => ?_)
              · have hF := m_pos c11 hF
                exact hj113 y3_51 y4_51 H locs ls hF hP hD hS (lv_sub hl [1, 2, 3, 4, 5, 6] rfl)
              · have hF := m_neg c11 hF
                exact hj106 H locs ls hF hP hD hS (lv_sub hl [1, 2, 3, 6, 0] rfl)
      exact hL51 m_N 0 0 1 v H locs ls hF hP hD hS (lv_sub hl [4, 5, 3, 2, 1, 0] rfl)
    · have hF := m_neg c1 hF
      refine lv_bipush (v := (-5)) hx hb dX7_split_25 (by decide) ?_
      have hF := Option.some.inj hF
      subst hF
      rw [hQ]
      exact W.iret hx hb hr (fun t ht _ => ⟨⟨rfl, by rw [ht]; exact hP, hD⟩, hS.F ht⟩) hS.2.2 dX7_split_27
  clear hjd11
  refine lv_if_eq (tgt := 11) hx hb dX7_split_1 (by decide) (fun c12 => ?_) (fun c12 => ?_)
  · have hF := m_pos c12 hF
    exact hj11 H locs ls hF hP hD hS (lv_sub hl [0, 1] rfl)
  · have hF := m_neg c12 hF
    refine lv_iload_n hx hb dX7_split_4 rfl (lv_at hl 1 rfl) ?_
    refine lv_iconst (v := 1) hx hb dX7_split_5 (by decide) ?_
    refine lv_icmp_eq (tgt := 11) hx hb dX7_split_6 (by decide) (fun c13 => ?_) (fun c13 => ?_)
    · have hF := m_pos c13 hF
      exact hj11 H locs ls hF hP hD hS (lv_sub hl [0, 1] rfl)
    · have hF := m_neg c13 hF
      refine lv_iconst (v := (-1)) hx hb dX7_split_9 (by decide) ?_
      have hF := Option.some.inj hF
      subst hF
      rw [hQ]
      exact W.iret hx hb hr (fun t ht _ => ⟨⟨rfl, by rw [ht]; exact hP, hD⟩, hS.F ht⟩) hS.2.2 dX7_split_10

abbrev rmX7_part : Room := { frames := 6, cells := 0, slots := 0, locals := 150 }
set_option maxRecDepth 100000 in
set_option maxHeartbeats 400000 in
theorem c_X7_part (l : Launch) (E : mE) (a : OneA) (v : OneV) (e : LessonA) (le : LessonV) (x0 : Int32) (x1 : Int32) (t : (Int64 × OneV)) (hF : fn_X7_part v le (Lessona_self e) x0 x1 = some t) (sz : Nat) : Met l yX7_part wsX7_part rmX7_part (mPm E [.ref (Onea_self a), .int x0, .int x1] sz ((One_c E a v)) ((Lesson_c E e le))) (mSm E (some (.long t.1)) ((One_c E a t.2)) (va_A ((One_c E a v)) sz)) 0 0 (va_A ((One_c E a v)) sz) := by
  refine mOfM (cc := cX7_part) (maxL := 11) (ret := (some .long)) (by decide) rfl (Nat.le_of_ble_eq_true rfl) ?_
  intro p e_ s m args below meth c Q A hQ CC hr hlocks hin hA hP hD hKN hGl hR0 hRA ls hl
  have hS : va_S A s.heap s.heap [] := va_S.rf
  have hK := hKN.1
  have hx := CC.1
  have hb := CC.2.1
  have hml := CC.2.2.1
  have hown : s.vm.findClass RX7 = some m.cls := CC.2.2.2.1
  have hts := CC.2.2.2.2
  have hl : lv_has ls 11 [(0, .ref (Onea_self a)), (1, .int x0), (2, .int x1)] := hl
  have k0 := hts (.constantLong RX7 214 (-9223372036854775808)) (by decide +kernel)
  have k1 := hts (.fieldLink RX7 12 "OneDidAll" "now" "LOneDidAll$Room;") (by decide +kernel)
  have k2 := (show ∀ w ∈ u_ws RX7 TX7 5, w ∈ wsX7_part by decide +kernel)
  have k3 := (va_Nw.use rfl (hKN.2.1 ("OneDidAll", 74, "OneDidAll$Room", "group", "LOneDidAll$Group;", "OneDidAll") (by decide +kernel)) : (Cond.fieldLinkNest "OneDidAll" 74 "OneDidAll$Room" "group" "LOneDidAll$Group;" "OneDidAll").before args s = true)
  have k4 := (show ∀ w ∈ u_ws RX5 TX5 9, w ∈ wsX7_part by decide +kernel)
  have k5 := (va_Nw.use rfl (hKN.2.1 ("OneDidAll", 78, "OneDidAll$Group", "size", "I", "OneDidAll") (by decide +kernel)) : (Cond.fieldLinkNest "OneDidAll" 78 "OneDidAll$Group" "size" "I" "OneDidAll").before args s = true)
  have k6 := (show ∀ w ∈ u_ws RX2 TX2 11, w ∈ wsX7_part by decide +kernel)
  have k7 := hts (.fieldLink RX7 216 "OneDidAll" "FACTORIALS" "[I") (by decide +kernel)
  have k8 := hts (.fieldLink RX7 28 "OneDidAll" "forecast" "LOneDidAll$Forecast;") (by decide +kernel)
  have hP : va_P E.1 vwCl (One_c E a v) s.heap := hP
  obtain ⟨H, hH⟩ : ∃ H, H = s.heap := ⟨_, rfl⟩
  obtain ⟨locs, hlc⟩ : ∃ z : List Loc, z = [] := ⟨_, rfl⟩
  rw [← hH] at hP
  rw [← hlc] at hS
  have hS : va_S A s.heap H locs := by rw [hH]; exact hS
  rw [← hH, ← hlc]
  unfold fn_X7_part at hF
  refine lv_aload_n hx hb dX7_part_0 rfl (lv_at hl 0 rfl) ?_
  refine lv_iload_n hx hb dX7_part_1 rfl (lv_at hl 1 rfl) ?_
  obtain ⟨t1, ht1, hF⟩ := m_bnd hF
  refine mVP (ci := 7) (n := 1) (rest := []) (As := [.int x0]) CC hKN hGl hS (c_X7_isPupil l E a v x0 t1 ht1) gX7_part_X7_isPupil rfl ⟨rfl, rfl⟩ (by decide +kernel) ⟨Nat.le_of_ble_eq_true rfl, Nat.le_of_ble_eq_true rfl⟩ hP rfl rfl rfl rfl hl.1 rfl (Nat.le_of_ble_eq_true rfl) ⟨Nat.zero_le _, Nat.zero_le _⟩ dX7_part_2 ?_
  refine W.eq (g2 := F0 m 5 ls [.int t1]) rfl ?_
  obtain ⟨j15, hjd15, hF⟩ := m_jp hF
  have hj15 : ∀ (H : Heap) (locs : List Loc) (ls : Array Slot), j15 () = some t → va_P E.1 vwCl (One_c E a v) H → va_D A (One_c E a v) → va_S A s.heap H locs → lv_has ls 11 [] → W p l e_ rmX7_part s m args below meth c H locs 0 0 Q (F0 m 15 ls []) := by
    intro H locs ls hF hP hD hS hl
    rw [hjd15] at hF
    refine lv_ldc2 (v := (-9223372036854775808 : Int64)) hx hb hown k0 dX7_part_15 ?_
    have hF := Option.some.inj hF
    subst hF
    rw [hQ]
    exact W.lret hx hb hr (fun t ht _ => ⟨⟨rfl, by rw [ht]; exact hP, hD⟩, hS.F ht⟩) hS.2.2 dX7_part_18
  clear hjd15
  refine lv_if_eq (tgt := 15) hx hb dX7_part_5 (by decide) (fun c2 => ?_) (fun c2 => ?_)
  · have hF := m_pos c2 hF
    exact hj15 H locs ls hF hP hD hS (lv_sub hl [] rfl)
  · have hF := m_neg c2 hF
    refine lv_iload_n hx hb dX7_part_8 rfl (lv_at hl 2 rfl) ?_
    obtain ⟨t3, ht3, hF⟩ := m_bnd hF
    refine mSP (n := 1) (rest := []) (As := [.int x1]) CC hKN hGl hS (c_X7_isPart l E x1 t3 ht3) gX7_part_X7_isPart rfl ⟨rfl, rfl⟩ (by decide +kernel) ⟨Nat.le_of_ble_eq_true rfl, Nat.le_of_ble_eq_true rfl⟩ m_nil rfl hl.1 rfl (Nat.le_of_ble_eq_true rfl) ⟨Nat.zero_le _, Nat.zero_le _⟩ dX7_part_9 ?_
    refine W.eq (g2 := F0 m 12 ls [.int t3]) rfl ?_
    refine lv_if_ne (tgt := 19) hx hb dX7_part_12 (by decide) (fun c4 => ?_) (fun c4 => ?_)
    · have hF := m_pos c4 hF
      refine lv_aload_n hx hb dX7_part_19 rfl (lv_at hl 0 rfl) ?_
      refine va_get (D := E.1) (ci := 7) (v := .ref (Rooma_self (Onea_now a))) (C := RX7) (T := TX7) (N := 5) hx hb hts k2 hown hK hP 0 rfl rfl 0 (by decide) k1 (fun _ h9 => h9) rfl dX7_part_20 ?_
      refine va_getN (D := E.1) (ci := 5) (v := .ref (Groupa_self (Rooma_group (Onea_now a)))) (C := RX5) (T := TX5) (N := 9) hx hb hts k4 hown hK hP 1 rfl rfl 0 (by decide) k3 (fun _ h9 => h9) rfl dX7_part_23 ?_
      refine va_getN (D := E.1) (ci := 2) (v := .int (Group_size (Room_group (One_now v)))) (C := RX2) (T := TX2) (N := 11) hx hb hts k6 hown hK hP 2 rfl rfl 0 (by decide) k5 (fun _ h9 => h9) rfl dX7_part_26 ?_
      refine lv_istore_n (lv' := [(3, .int (Group_size (Room_group (One_now v)))), (0, .ref (Onea_self a)), (1, .int x0), (2, .int x1)]) hx hb dX7_part_29 rfl hl (by decide) rfl (fun ls hl => ?_)
      refine lv_iload_n hx hb dX7_part_30 rfl (lv_at hl 0 rfl) ?_
      refine va_gets hx hb hGl.2.2.1 hS hown k7 (fun _ h9 => h9) dX7_part_31 ?_
      refine W.eq (g2 := F0 m 34 ls [.ref (m_fa E), .int (Group_size (Room_group (One_now v)))]) rfl ?_
      refine va_tlen (v := 7) hx hb hGl.2.2.2.1 hS rfl dX7_part_34 ?_
      refine lv_icmp_lt (tgt := 42) hx hb dX7_part_35 (by decide) (fun c5 => ?_) (fun c5 => ?_)
      · have hF := m_pos c5 hF
        refine lv_lconst (v := 0) hx hb dX7_part_42 (by decide) ?_
        refine lv_lstore (lv' := [(4, .long (0 : Int64)), (3, .int (Group_size (Room_group (One_now v)))), (0, .ref (Onea_self a)), (1, .int x0), (2, .int x1)]) hx hb dX7_part_43 hl (by decide) rfl (fun ls hl => ?_)
        refine lv_iconst (v := 0) hx hb dX7_part_45 (by decide) ?_
        refine lv_istore (lv' := [(6, .int 0), (4, .long (0 : Int64)), (3, .int (Group_size (Room_group (One_now v)))), (0, .ref (Onea_self a)), (1, .int x0), (2, .int x1)]) hx hb dX7_part_46 hl (by decide) rfl (fun ls hl => ?_)
        obtain ⟨j152, hjd152, hF⟩ := m_jp hF
        have hj152 : ∀ (x4_152 : Int64) (wx_152 : OneV) (H : Heap) (locs : List Loc) (ls : Array Slot), j152 x4_152 wx_152 = some t → va_P E.1 vwCl (One_c E a wx_152) H → va_D A (One_c E a wx_152) → va_S A s.heap H locs → lv_has ls 11 [(2, .int x1), (3, .int (Group_size (Room_group (One_now v)))), (4, .long x4_152)] → W p l e_ rmX7_part s m args below meth c H locs 0 0 Q (F0 m 152 ls []) := by
          intro x4_152 wx_152 H locs ls hF hP hD hS hl
          rw [hjd152] at hF
          refine lv_lload hx hb dX7_part_152 (lv_at hl 2 rfl) ?_
          refine va_gets hx hb hGl.2.2.1 hS hown k7 (fun _ h9 => h9) dX7_part_154 ?_
          refine W.eq (g2 := F0 m 157 ls [.ref (m_fa E), .long x4_152]) rfl ?_
          refine lv_iload_n hx hb dX7_part_157 rfl (lv_at hl 1 rfl) ?_
          obtain ⟨h6, hF⟩ := m_chk hF
          refine va_ti (v := .int (mFA.getD ((Group_size (Room_group (One_now v)))).toNatClampNeg 0)) hx hb hGl.2.2.2.1 hS (mIn_ok h6) rfl dX7_part_158 ?_
          refine lv_i2l (v := ((mFA.getD ((Group_size (Room_group (One_now v)))).toNatClampNeg 0)).toInt64) hx hb dX7_part_159 rfl ?_
          refine lv_iload_n hx hb dX7_part_160 rfl (lv_at hl 0 rfl) ?_
          obtain ⟨t7, ht7, hF⟩ := m_bnd hF
          refine mSP (n := 3) (rest := []) (As := [.long x4_152, .long ((mFA.getD ((Group_size (Room_group (One_now v)))).toNatClampNeg 0)).toInt64, .int x1]) CC hKN hGl hS (c_X7_inLowestTerms l E x4_152 ((mFA.getD ((Group_size (Room_group (One_now v)))).toNatClampNeg 0)).toInt64 x1 t7 ht7) gX7_part_X7_inLowestTerms rfl ⟨rfl, rfl⟩ (by decide +kernel) ⟨Nat.le_of_ble_eq_true rfl, Nat.le_of_ble_eq_true rfl⟩ m_nil rfl hl.1 rfl (Nat.le_of_ble_eq_true rfl) ⟨Nat.zero_le _, Nat.zero_le _⟩ dX7_part_161 ?_
          refine W.eq (g2 := F0 m 164 ls [.long t7]) rfl ?_
          have hF := Option.some.inj hF
          subst hF
          rw [hQ]
          exact W.lret hx hb hr (fun t ht _ => ⟨⟨rfl, by rw [ht]; exact hP, hD⟩, hS.F ht⟩) hS.2.2 dX7_part_164
        clear hjd152
        have hL48 : ∀ (n : Nat) (y4_48 : Int64) (y6_48 : Int32) (wy_48 : OneV) (H : Heap) (locs : List Loc) (ls : Array Slot), lp_X7_part_48 v le (Lessona_self e) x0 j152 n y4_48 y6_48 wy_48 = some t → va_P E.1 vwCl (One_c E a wy_48) H → va_D A (One_c E a wy_48) → va_S A s.heap H locs → lv_has ls 11 [(0, .ref (Onea_self a)), (1, .int x0), (2, .int x1), (3, .int (Group_size (Room_group (One_now v)))), (4, .long y4_48), (6, .int y6_48)] → W p l e_ rmX7_part s m args below meth c H locs 0 0 Q (F0 m 48 ls []) := by
          intro n
          induction n with
          | zero =>
            intro y4_48 y6_48 wy_48 H locs ls hF
            exact nomatch (show (none : Option (Int64 × OneV)) = some t from hF)
          | succ n ih48 =>
            intro y4_48 y6_48 wy_48 H locs ls hF hP hD hS hl
            have hF : st_X7_part_48 v le (Lessona_self e) x0 j152 (lp_X7_part_48 v le (Lessona_self e) x0 j152 n) y4_48 y6_48 wy_48 = some t := hF
            unfold st_X7_part_48 at hF
            refine lv_iload hx hb dX7_part_48 (lv_at hl 5 rfl) ?_
            refine lv_iconst (v := 1) hx hb dX7_part_50 (by decide) ?_
            refine lv_iload_n hx hb dX7_part_51 rfl (lv_at hl 3 rfl) ?_
            refine lv_ishl hx hb dX7_part_52 ?_
            refine lv_icmp_ge (tgt := 152) hx hb dX7_part_53 (by decide) (fun c8 => ?_) (fun c8 => ?_)
            · have hF := m_pos c8 hF
              exact hj152 y4_48 wy_48 H locs ls hF hP hD hS (lv_sub hl [2, 3, 4] rfl)
            · have hF := m_neg c8 hF
              refine lv_iload hx hb dX7_part_56 (lv_at hl 5 rfl) ?_
              refine lv_iconst (v := 1) hx hb dX7_part_58 (by decide) ?_
              refine lv_iload_n hx hb dX7_part_59 rfl (lv_at hl 1 rfl) ?_
              refine lv_ishl hx hb dX7_part_60 ?_
              refine lv_ior hx hb dX7_part_61 ?_
              refine lv_istore (lv' := [(7, .int (y6_48 ||| ((1 : Int32) <<< (x0 &&& 31)))), (0, .ref (Onea_self a)), (1, .int x0), (2, .int x1), (3, .int (Group_size (Room_group (One_now v)))), (4, .long y4_48), (6, .int y6_48)]) hx hb dX7_part_62 hl (by decide) rfl (fun ls hl => ?_)
              refine lv_iload hx hb dX7_part_64 (lv_at hl 6 rfl) ?_
              obtain ⟨t9, ht9, hF⟩ := m_bnd hF
              refine mSP (n := 1) (rest := []) (As := [.int y6_48]) CC hKN hGl hS (c_J6_bitCount_0f7a4 l E y6_48 t9 ht9) gX7_part_J6_bitCount_0f7a4 rfl ⟨rfl, rfl⟩ (by decide +kernel) ⟨Nat.le_of_ble_eq_true rfl, Nat.le_of_ble_eq_true rfl⟩ m_nil rfl hl.1 rfl (Nat.le_of_ble_eq_true rfl) ⟨Nat.zero_le _, Nat.zero_le _⟩ dX7_part_66 ?_
              refine W.eq (g2 := F0 m 69 ls [.int t9]) rfl ?_
              refine lv_istore (lv' := [(8, .int t9), (7, .int (y6_48 ||| ((1 : Int32) <<< (x0 &&& 31)))), (0, .ref (Onea_self a)), (1, .int x0), (2, .int x1), (3, .int (Group_size (Room_group (One_now v)))), (4, .long y4_48), (6, .int y6_48)]) hx hb dX7_part_69 hl (by decide) rfl (fun ls hl => ?_)
              refine lv_iload hx hb dX7_part_71 (lv_at hl 1 rfl) ?_
              refine lv_iload hx hb dX7_part_73 (lv_at hl 7 rfl) ?_
              obtain ⟨j146, hjd146, hF⟩ := m_jp hF
              have hj146 : ∀ (x4_146 : Int64) (wx_146 : OneV) (H : Heap) (locs : List Loc) (ls : Array Slot), j146 x4_146 wx_146 = some t → va_P E.1 vwCl (One_c E a wx_146) H → va_D A (One_c E a wx_146) → va_S A s.heap H locs → lv_has ls 11 [(0, .ref (Onea_self a)), (1, .int x0), (2, .int x1), (3, .int (Group_size (Room_group (One_now v)))), (4, .long x4_146), (6, .int y6_48)] → W p l e_ rmX7_part s m args below meth c H locs 0 0 Q (F0 m 146 ls []) := by
                intro x4_146 wx_146 H locs ls hF hP hD hS hl
                rw [hjd146] at hF
                refine lv_iinc (v := (y6_48 + 1)) (lv' := [(6, .int (y6_48 + 1)), (0, .ref (Onea_self a)), (1, .int x0), (2, .int x1), (3, .int (Group_size (Room_group (One_now v)))), (4, .long x4_146)]) hx hb dX7_part_146 hl (k := 5) rfl rfl (by decide) rfl (fun ls hl => ?_)
                refine lv_goto (tgt := 48) hx hb dX7_part_149 (by decide) ?_
                exact ih48 x4_146 (y6_48 + 1) wx_146 H locs ls hF hP hD hS (lv_sub hl [1, 2, 3, 4, 5, 0] rfl)
              clear hjd146
              refine lv_icmp_eq (tgt := 146) hx hb dX7_part_75 (by decide) (fun c10 => ?_) (fun c10 => ?_)
              · have hF := m_pos c10 hF
                exact hj146 y4_48 wy_48 H locs ls hF hP hD hS (lv_sub hl [2, 3, 4, 5, 6, 7] rfl)
              · have hF := m_neg c10 hF
                refine lv_iload hx hb dX7_part_78 (lv_at hl 0 rfl) ?_
                refine lv_iload_n hx hb dX7_part_80 rfl (lv_at hl 5 rfl) ?_
                refine lv_icmp_lt (tgt := 87) hx hb dX7_part_81 (by decide) (fun c11 => ?_) (fun c11 => ?_)
                · have hF := m_pos c11 hF
                  refine va_gets hx hb hGl.2.2.1 hS hown k7 (fun _ h9 => h9) dX7_part_87 ?_
                  refine W.eq (g2 := F0 m 90 ls [.ref (m_fa E)]) rfl ?_
                  refine lv_iload hx hb dX7_part_90 (lv_at hl 0 rfl) ?_
                  obtain ⟨h12, hF⟩ := m_chk hF
                  refine va_ti (v := .int (mFA.getD (t9).toNatClampNeg 0)) hx hb hGl.2.2.2.1 hS (mIn_ok h12) rfl dX7_part_92 ?_
                  refine lv_i2l (v := ((mFA.getD (t9).toNatClampNeg 0)).toInt64) hx hb dX7_part_93 rfl ?_
                  refine va_gets hx hb hGl.2.2.1 hS hown k7 (fun _ h9 => h9) dX7_part_94 ?_
                  refine W.eq (g2 := F0 m 97 ls [.ref (m_fa E), .long ((mFA.getD (t9).toNatClampNeg 0)).toInt64]) rfl ?_
                  refine lv_iload_n hx hb dX7_part_97 rfl (lv_at hl 5 rfl) ?_
                  refine lv_iconst (v := 1) hx hb dX7_part_98 (by decide) ?_
                  refine lv_isub hx hb dX7_part_99 ?_
                  refine lv_iload hx hb dX7_part_100 (lv_at hl 0 rfl) ?_
                  refine lv_isub hx hb dX7_part_102 ?_
                  obtain ⟨h13, hF⟩ := m_chk hF
                  refine va_ti (v := .int (mFA.getD ((((Group_size (Room_group (One_now v))) - 1) - t9)).toNatClampNeg 0)) hx hb hGl.2.2.2.1 hS (mIn_ok h13) rfl dX7_part_103 ?_
                  refine lv_i2l (v := ((mFA.getD ((((Group_size (Room_group (One_now v))) - 1) - t9)).toNatClampNeg 0)).toInt64) hx hb dX7_part_104 rfl ?_
                  refine lv_lmul hx hb dX7_part_105 ?_
                  refine lv_lstore (lv' := [(9, .long (((mFA.getD (t9).toNatClampNeg 0)).toInt64 * ((mFA.getD ((((Group_size (Room_group (One_now v))) - 1) - t9)).toNatClampNeg 0)).toInt64)), (8, .int t9), (7, .int (y6_48 ||| ((1 : Int32) <<< (x0 &&& 31)))), (0, .ref (Onea_self a)), (1, .int x0), (2, .int x1), (3, .int (Group_size (Room_group (One_now v)))), (4, .long y4_48), (6, .int y6_48)]) hx hb dX7_part_106 hl (by decide) rfl (fun ls hl => ?_)
                  refine lv_lload hx hb dX7_part_108 (lv_at hl 7 rfl) ?_
                  refine lv_lload hx hb dX7_part_110 (lv_at hl 0 rfl) ?_
                  refine lv_aload_n hx hb dX7_part_112 rfl (lv_at hl 3 rfl) ?_
                  refine va_get (D := E.1) (ci := 7) (v := .ref (Forecasta_self (Onea_forecast a))) (C := RX7) (T := TX7) (N := 5) hx hb hts k2 hown hK hP 0 rfl rfl 3 (by decide) k8 (fun _ h9 => h9) rfl dX7_part_113 ?_
                  refine lv_aload_n hx hb dX7_part_116 rfl (lv_at hl 3 rfl) ?_
                  refine va_get (D := E.1) (ci := 7) (v := .ref (Rooma_self (Onea_now a))) (C := RX7) (T := TX7) (N := 5) hx hb hts k2 hown hK hP 0 rfl rfl 0 (by decide) k1 (fun _ h9 => h9) rfl dX7_part_117 ?_
                  refine lv_iload hx hb dX7_part_120 (lv_at hl 2 rfl) ?_
                  refine lv_iconst (v := 5) hx hb dX7_part_122 (by decide) ?_
                  obtain ⟨t14, ht14, hF⟩ := m_bnd hF
                  have hpm : List.Perm (One_c E a wy_48) (((Forecast_c E (Onea_forecast a) (One_forecast wy_48)) ++ (Room_c E (Onea_now a) (One_now wy_48))) ++ ((List.take 1 (One_c E a wy_48)) ++ ((List.take 21 (List.drop 22 (One_c E a wy_48))) ++ (List.drop 62 (One_c E a wy_48))))) := m_p2s (A := (List.take 1 (One_c E a wy_48))) (m1 := (Room_c E (Onea_now a) (One_now wy_48))) (B := (List.take 21 (List.drop 22 (One_c E a wy_48)))) (m2 := (Forecast_c E (Onea_forecast a) (One_forecast wy_48))) (C := (List.drop 62 (One_c E a wy_48)))
                  obtain ⟨hPc, hDc, hFc⟩ := m_pre hpm hP hD hS hA
                  have hp15 := (m_ro hR0 hRA hS).sub (ws' := Lesson_c E e le) [0, 1, 2, 3] rfl
                  have ha16 := m_roA (wr := Lesson_c E e le) hRA hFc [0, 1, 2, 3] rfl
                  refine mVM (ci := 1) (n := 3) (rest := [.long (((mFA.getD (t9).toNatClampNeg 0)).toInt64 * ((mFA.getD ((((Group_size (Room_group (One_now v))) - 1) - t9)).toNatClampNeg 0)).toInt64), .long y4_48]) (As := [.ref (Rooma_self (Onea_now a)), .int (y6_48 ||| ((1 : Int32) <<< (x0 &&& 31))), .int 5]) CC hKN hGl (c_X1_workOf l E (Onea_forecast a) (One_forecast wy_48) (Onea_now a) (One_now wy_48) e le (y6_48 ||| ((1 : Int32) <<< (x0 &&& 31))) 5 t14 ht14 _) gX7_part_X1_workOf rfl ⟨rfl, rfl⟩ (by decide +kernel) ⟨Nat.le_of_ble_eq_true rfl, Nat.le_of_ble_eq_true rfl⟩ hPc hDc hp15 ha16 hS hFc rfl rfl rfl rfl hl.1 rfl (Nat.le_of_ble_eq_true rfl) ⟨Nat.zero_le _, Nat.zero_le _⟩ dX7_part_123 (fun H1 locs hP1 hD1 hz1 hk1 hS => ?_)
                  have hpn : List.Perm (One_c E a (One_forecast_s wy_48 t14.2)) (((Forecast_c E (Onea_forecast a) t14.2) ++ (Room_c E (Onea_now a) (One_now wy_48))) ++ ((List.take 1 (One_c E a wy_48)) ++ ((List.take 21 (List.drop 22 (One_c E a wy_48))) ++ (List.drop 62 (One_c E a wy_48))))) := m_p2s (A := (List.take 1 (One_c E a wy_48))) (m1 := (Room_c E (Onea_now a) (One_now wy_48))) (B := (List.take 21 (List.drop 22 (One_c E a wy_48)))) (m2 := (Forecast_c E (Onea_forecast a) t14.2)) (C := (List.drop 62 (One_c E a wy_48)))
                  obtain ⟨hP, hD⟩ := m_spl hpm hpn hP hD hk1 hFc hP1 hD1
                  generalize H1 = H at hP hS ⊢
                  refine W.eq (g2 := F0 m 126 ls [.int t14.1, .long (((mFA.getD (t9).toNatClampNeg 0)).toInt64 * ((mFA.getD ((((Group_size (Room_group (One_now v))) - 1) - t9)).toNatClampNeg 0)).toInt64), .long y4_48]) rfl ?_
                  refine lv_aload_n hx hb dX7_part_126 rfl (lv_at hl 3 rfl) ?_
                  refine va_get (D := E.1) (ci := 7) (v := .ref (Forecasta_self (Onea_forecast a))) (C := RX7) (T := TX7) (N := 5) hx hb hts k2 hown hK hP 0 rfl rfl 3 (by decide) k8 (fun _ h9 => h9) rfl dX7_part_127 ?_
                  refine lv_aload_n hx hb dX7_part_130 rfl (lv_at hl 3 rfl) ?_
                  refine va_get (D := E.1) (ci := 7) (v := .ref (Rooma_self (Onea_now a))) (C := RX7) (T := TX7) (N := 5) hx hb hts k2 hown hK hP 0 rfl rfl 0 (by decide) k1 (fun _ h9 => h9) rfl dX7_part_131 ?_
                  refine lv_iload hx hb dX7_part_134 (lv_at hl 8 rfl) ?_
                  refine lv_iconst (v := 5) hx hb dX7_part_136 (by decide) ?_
                  obtain ⟨t17, ht17, hF⟩ := m_bnd hF
                  have hpm : List.Perm (One_c E a (One_forecast_s wy_48 t14.2)) (((Forecast_c E (Onea_forecast a) t14.2) ++ (Room_c E (Onea_now a) (One_now wy_48))) ++ ((List.take 1 (One_c E a (One_forecast_s wy_48 t14.2))) ++ ((List.take 21 (List.drop 22 (One_c E a (One_forecast_s wy_48 t14.2)))) ++ (List.drop 62 (One_c E a (One_forecast_s wy_48 t14.2)))))) := m_p2s (A := (List.take 1 (One_c E a (One_forecast_s wy_48 t14.2)))) (m1 := (Room_c E (Onea_now a) (One_now wy_48))) (B := (List.take 21 (List.drop 22 (One_c E a (One_forecast_s wy_48 t14.2))))) (m2 := (Forecast_c E (Onea_forecast a) t14.2)) (C := (List.drop 62 (One_c E a (One_forecast_s wy_48 t14.2))))
                  obtain ⟨hPc, hDc, hFc⟩ := m_pre hpm hP hD hS hA
                  have hp18 := (m_ro hR0 hRA hS).sub (ws' := Lesson_c E e le) [0, 1, 2, 3] rfl
                  have ha19 := m_roA (wr := Lesson_c E e le) hRA hFc [0, 1, 2, 3] rfl
                  refine mVM (ci := 1) (n := 3) (rest := [.int t14.1, .long (((mFA.getD (t9).toNatClampNeg 0)).toInt64 * ((mFA.getD ((((Group_size (Room_group (One_now v))) - 1) - t9)).toNatClampNeg 0)).toInt64), .long y4_48]) (As := [.ref (Rooma_self (Onea_now a)), .int y6_48, .int 5]) CC hKN hGl (c_X1_workOf l E (Onea_forecast a) t14.2 (Onea_now a) (One_now wy_48) e le y6_48 5 t17 ht17 _) gX7_part_X1_workOf rfl ⟨rfl, rfl⟩ (by decide +kernel) ⟨Nat.le_of_ble_eq_true rfl, Nat.le_of_ble_eq_true rfl⟩ hPc hDc hp18 ha19 hS hFc rfl rfl rfl rfl hl.1 rfl (Nat.le_of_ble_eq_true rfl) ⟨Nat.zero_le _, Nat.zero_le _⟩ dX7_part_137 (fun H1 locs hP1 hD1 hz1 hk1 hS => ?_)
                  have hpn : List.Perm (One_c E a (One_forecast_s wy_48 t17.2)) (((Forecast_c E (Onea_forecast a) t17.2) ++ (Room_c E (Onea_now a) (One_now wy_48))) ++ ((List.take 1 (One_c E a (One_forecast_s wy_48 t14.2))) ++ ((List.take 21 (List.drop 22 (One_c E a (One_forecast_s wy_48 t14.2)))) ++ (List.drop 62 (One_c E a (One_forecast_s wy_48 t14.2)))))) := m_p2s (A := (List.take 1 (One_c E a (One_forecast_s wy_48 t14.2)))) (m1 := (Room_c E (Onea_now a) (One_now wy_48))) (B := (List.take 21 (List.drop 22 (One_c E a (One_forecast_s wy_48 t14.2))))) (m2 := (Forecast_c E (Onea_forecast a) t17.2)) (C := (List.drop 62 (One_c E a (One_forecast_s wy_48 t14.2))))
                  obtain ⟨hP, hD⟩ := m_spl hpm hpn hP hD hk1 hFc hP1 hD1
                  generalize H1 = H at hP hS ⊢
                  refine W.eq (g2 := F0 m 140 ls [.int t17.1, .int t14.1, .long (((mFA.getD (t9).toNatClampNeg 0)).toInt64 * ((mFA.getD ((((Group_size (Room_group (One_now v))) - 1) - t9)).toNatClampNeg 0)).toInt64), .long y4_48]) rfl ?_
                  refine lv_isub hx hb dX7_part_140 ?_
                  refine lv_i2l (v := ((t14.1 - t17.1)).toInt64) hx hb dX7_part_141 rfl ?_
                  refine lv_lmul hx hb dX7_part_142 ?_
                  refine lv_ladd hx hb dX7_part_143 ?_
                  refine lv_lstore (lv' := [(4, .long (y4_48 + ((((mFA.getD (t9).toNatClampNeg 0)).toInt64 * ((mFA.getD ((((Group_size (Room_group (One_now v))) - 1) - t9)).toNatClampNeg 0)).toInt64) * ((t14.1 - t17.1)).toInt64))), (9, .long (((mFA.getD (t9).toNatClampNeg 0)).toInt64 * ((mFA.getD ((((Group_size (Room_group (One_now v))) - 1) - t9)).toNatClampNeg 0)).toInt64)), (8, .int t9), (7, .int (y6_48 ||| ((1 : Int32) <<< (x0 &&& 31)))), (0, .ref (Onea_self a)), (1, .int x0), (2, .int x1), (3, .int (Group_size (Room_group (One_now v)))), (6, .int y6_48)]) hx hb dX7_part_144 hl (by decide) rfl (fun ls hl => ?_)
                  exact hj146 (y4_48 + ((((mFA.getD (t9).toNatClampNeg 0)).toInt64 * ((mFA.getD ((((Group_size (Room_group (One_now v))) - 1) - t9)).toNatClampNeg 0)).toInt64) * ((t14.1 - t17.1)).toInt64)) (One_forecast_s wy_48 t17.2) H locs ls hF hP hD hS (lv_sub hl [4, 5, 6, 7, 0, 8] rfl)
                · have hF := m_neg c11 hF
                  refine lv_goto (tgt := 146) hx hb dX7_part_84 (by decide) ?_
                  exact hj146 y4_48 wy_48 H locs ls hF hP hD hS (lv_sub hl [2, 3, 4, 5, 6, 7] rfl)
        exact hL48 m_N (0 : Int64) 0 v H locs ls hF hP hD hS (lv_sub hl [3, 4, 5, 2, 1, 0] rfl)
      · have hF := m_neg c5 hF
        refine lv_ldc2 (v := (-9223372036854775808 : Int64)) hx hb hown k0 dX7_part_38 ?_
        have hF := Option.some.inj hF
        subst hF
        rw [hQ]
        exact W.lret hx hb hr (fun t ht _ => ⟨⟨rfl, by rw [ht]; exact hP, hD⟩, hS.F ht⟩) hS.2.2 dX7_part_41
    · have hF := m_neg (fun n9 => n9 c4) hF
      exact hj15 H locs ls hF hP hD hS (lv_sub hl [] rfl)

abbrev rmX7_skilled : Room := { frames := 6, cells := 0, slots := 0, locals := 149 }
set_option maxRecDepth 100000 in
set_option maxHeartbeats 400000 in
theorem c_X7_skilled (l : Launch) (E : mE) (a : OneA) (v : OneV) (e : LessonA) (le : LessonV) (x0 : Int32) (x1 : Int32) (t : (Int32 × OneV)) (hF : fn_X7_skilled v le (Lessona_self e) x0 x1 = some t) (sz : Nat) : Met l yX7_skilled wsX7_skilled rmX7_skilled (mPm E [.ref (Onea_self a), .int x0, .int x1] sz ((One_c E a v)) ((Lesson_c E e le))) (mSm E (some (.int t.1)) ((One_c E a t.2)) (va_A ((One_c E a v)) sz)) 0 0 (va_A ((One_c E a v)) sz) := by
  refine mOfM (cc := cX7_skilled) (maxL := 5) (ret := (some .int)) (by decide) rfl (Nat.le_of_ble_eq_true rfl) ?_
  intro p e_ s m args below meth c Q A hQ CC hr hlocks hin hA hP hD hKN hGl hR0 hRA ls hl
  have hS : va_S A s.heap s.heap [] := va_S.rf
  have hK := hKN.1
  have hx := CC.1
  have hb := CC.2.1
  have hml := CC.2.2.1
  have hown : s.vm.findClass RX7 = some m.cls := CC.2.2.2.1
  have hts := CC.2.2.2.2
  have hl : lv_has ls 5 [(0, .ref (Onea_self a)), (1, .int x0), (2, .int x1)] := hl
  have k0 := hts (.fieldLink RX7 28 "OneDidAll" "forecast" "LOneDidAll$Forecast;") (by decide +kernel)
  have k1 := (show ∀ w ∈ u_ws RX7 TX7 5, w ∈ wsX7_skilled by decide +kernel)
  have k2 := hts (.fieldLink RX7 12 "OneDidAll" "now" "LOneDidAll$Room;") (by decide +kernel)
  have k3 := (va_Nw.use rfl (hKN.2.1 ("OneDidAll", 177, "OneDidAll$Forecast", "trial", "LOneDidAll$Group;", "OneDidAll") (by decide +kernel)) : (Cond.fieldLinkNest "OneDidAll" 177 "OneDidAll$Forecast" "trial" "LOneDidAll$Group;" "OneDidAll").before args s = true)
  have k4 := (show ∀ w ∈ u_ws RX1 TX1 3, w ∈ wsX7_skilled by decide +kernel)
  have k5 := (va_Nw.use rfl (hKN.2.1 ("OneDidAll", 97, "OneDidAll$Group", "skills", "[I", "OneDidAll") (by decide +kernel)) : (Cond.fieldLinkNest "OneDidAll" 97 "OneDidAll$Group" "skills" "[I" "OneDidAll").before args s = true)
  have k6 := (show ∀ w ∈ u_ws RX2 TX2 11, w ∈ wsX7_skilled by decide +kernel)
  have k7 := (va_Nw.use rfl (hKN.2.1 ("OneDidAll", 223, "OneDidAll$Room", "seen", "LOneDidAll$Rows;", "OneDidAll") (by decide +kernel)) : (Cond.fieldLinkNest "OneDidAll" 223 "OneDidAll$Room" "seen" "LOneDidAll$Rows;" "OneDidAll").before args s = true)
  have k8 := (show ∀ w ∈ u_ws RX5 TX5 9, w ∈ wsX7_skilled by decide +kernel)
  have hP : va_P E.1 vwCl (One_c E a v) s.heap := hP
  obtain ⟨H, hH⟩ : ∃ H, H = s.heap := ⟨_, rfl⟩
  obtain ⟨locs, hlc⟩ : ∃ z : List Loc, z = [] := ⟨_, rfl⟩
  rw [← hH] at hP
  rw [← hlc] at hS
  have hS : va_S A s.heap H locs := by rw [hH]; exact hS
  rw [← hH, ← hlc]
  unfold fn_X7_skilled at hF
  refine lv_aload_n hx hb dX7_skilled_0 rfl (lv_at hl 0 rfl) ?_
  refine lv_iload_n hx hb dX7_skilled_1 rfl (lv_at hl 1 rfl) ?_
  obtain ⟨t1, ht1, hF⟩ := m_bnd hF
  refine mVP (ci := 7) (n := 1) (rest := []) (As := [.int x0]) CC hKN hGl hS (c_X7_isPupil l E a v x0 t1 ht1) gX7_skilled_X7_isPupil rfl ⟨rfl, rfl⟩ (by decide +kernel) ⟨Nat.le_of_ble_eq_true rfl, Nat.le_of_ble_eq_true rfl⟩ hP rfl rfl rfl rfl hl.1 rfl (Nat.le_of_ble_eq_true rfl) ⟨Nat.zero_le _, Nat.zero_le _⟩ dX7_skilled_2 ?_
  refine W.eq (g2 := F0 m 5 ls [.int t1]) rfl ?_
  refine lv_if_eq (tgt := 17) hx hb dX7_skilled_5 (by decide) (fun c2 => ?_) (fun c2 => ?_)
  · have hF := m_pos c2 hF
    refine lv_iconst (v := (-1)) hx hb dX7_skilled_17 (by decide) ?_
    have hF := Option.some.inj hF
    subst hF
    rw [hQ]
    exact W.iret hx hb hr (fun t ht _ => ⟨⟨rfl, by rw [ht]; exact hP, hD⟩, hS.F ht⟩) hS.2.2 dX7_skilled_18
  · have hF := m_neg c2 hF
    refine lv_iload_n hx hb dX7_skilled_8 rfl (lv_at hl 2 rfl) ?_
    obtain ⟨j19, hjd19, hF⟩ := m_jp hF
    have hj19 : ∀ (H : Heap) (locs : List Loc) (ls : Array Slot), j19 () = some t → va_P E.1 vwCl (One_c E a v) H → va_D A (One_c E a v) → va_S A s.heap H locs → lv_has ls 5 [(0, .ref (Onea_self a)), (1, .int x0), (2, .int x1)] → W p l e_ rmX7_skilled s m args below meth c H locs 0 0 Q (F0 m 19 ls []) := by
      intro H locs ls hF hP hD hS hl
      rw [hjd19] at hF
      refine lv_iconst (v := 0) hx hb dX7_skilled_19 (by decide) ?_
      refine lv_istore_n (lv' := [(3, .int 0), (0, .ref (Onea_self a)), (1, .int x0), (2, .int x1)]) hx hb dX7_skilled_20 rfl hl (by decide) rfl (fun ls hl => ?_)
      refine lv_iconst (v := 1) hx hb dX7_skilled_21 (by decide) ?_
      refine lv_istore (lv' := [(4, .int 1), (3, .int 0), (0, .ref (Onea_self a)), (1, .int x0), (2, .int x1)]) hx hb dX7_skilled_22 hl (by decide) rfl (fun ls hl => ?_)
      obtain ⟨j86, hjd86, hF⟩ := m_jp hF
      have hj86 : ∀ (x3_86 : Int32) (wx_86 : OneV) (H : Heap) (locs : List Loc) (ls : Array Slot), j86 x3_86 wx_86 = some t → va_P E.1 vwCl (One_c E a wx_86) H → va_D A (One_c E a wx_86) → va_S A s.heap H locs → lv_has ls 5 [(2, .int x1), (3, .int x3_86)] → W p l e_ rmX7_skilled s m args below meth c H locs 0 0 Q (F0 m 86 ls []) := by
        intro x3_86 wx_86 H locs ls hF hP hD hS hl
        rw [hjd86] at hF
        refine lv_iload_n hx hb dX7_skilled_86 rfl (lv_at hl 0 rfl) ?_
        refine lv_if_ne (tgt := 97) hx hb dX7_skilled_87 (by decide) (fun c3 => ?_) (fun c3 => ?_)
        · have hF := m_pos c3 hF
          refine lv_iload_n hx hb dX7_skilled_97 rfl (lv_at hl 1 rfl) ?_
          obtain ⟨t4, ht4, hF⟩ := m_bnd hF
          refine mSP (n := 1) (rest := []) (As := [.int x3_86]) CC hKN hGl hS (c_X7_leastOf l E x3_86 t4 ht4) gX7_skilled_X7_leastOf rfl ⟨rfl, rfl⟩ (by decide +kernel) ⟨Nat.le_of_ble_eq_true rfl, Nat.le_of_ble_eq_true rfl⟩ m_nil rfl hl.1 rfl (Nat.le_of_ble_eq_true rfl) ⟨Nat.zero_le _, Nat.zero_le _⟩ dX7_skilled_98 ?_
          refine W.eq (g2 := F0 m 101 ls [.int t4]) rfl ?_
          have hF := Option.some.inj hF
          subst hF
          rw [hQ]
          exact W.iret hx hb hr (fun t ht _ => ⟨⟨rfl, by rw [ht]; exact hP, hD⟩, hS.F ht⟩) hS.2.2 dX7_skilled_101
        · have hF := m_neg (fun n9 => n9 c3) hF
          refine lv_iload_n hx hb dX7_skilled_90 rfl (lv_at hl 1 rfl) ?_
          obtain ⟨t5, ht5, hF⟩ := m_bnd hF
          refine mSP (n := 1) (rest := []) (As := [.int x3_86]) CC hKN hGl hS (c_J6_bitCount_0f7a4 l E x3_86 t5 ht5) gX7_skilled_J6_bitCount_0f7a4 rfl ⟨rfl, rfl⟩ (by decide +kernel) ⟨Nat.le_of_ble_eq_true rfl, Nat.le_of_ble_eq_true rfl⟩ m_nil rfl hl.1 rfl (Nat.le_of_ble_eq_true rfl) ⟨Nat.zero_le _, Nat.zero_le _⟩ dX7_skilled_91 ?_
          refine W.eq (g2 := F0 m 94 ls [.int t5]) rfl ?_
          refine lv_goto (tgt := 101) hx hb dX7_skilled_94 (by decide) ?_
          have hF := Option.some.inj hF
          subst hF
          rw [hQ]
          exact W.iret hx hb hr (fun t ht _ => ⟨⟨rfl, by rw [ht]; exact hP, hD⟩, hS.F ht⟩) hS.2.2 dX7_skilled_101
      clear hjd86
      have hL24 : ∀ (n : Nat) (y3_24 : Int32) (y4_24 : Int32) (wy_24 : OneV) (H : Heap) (locs : List Loc) (ls : Array Slot), lp_X7_skilled_24 le (Lessona_self e) x0 j86 n y3_24 y4_24 wy_24 = some t → va_P E.1 vwCl (One_c E a wy_24) H → va_D A (One_c E a wy_24) → va_S A s.heap H locs → lv_has ls 5 [(0, .ref (Onea_self a)), (1, .int x0), (2, .int x1), (3, .int y3_24), (4, .int y4_24)] → W p l e_ rmX7_skilled s m args below meth c H locs 0 0 Q (F0 m 24 ls []) := by
        intro n
        induction n with
        | zero =>
          intro y3_24 y4_24 wy_24 H locs ls hF
          exact nomatch (show (none : Option (Int32 × OneV)) = some t from hF)
        | succ n ih24 =>
          intro y3_24 y4_24 wy_24 H locs ls hF hP hD hS hl
          have hF : st_X7_skilled_24 le (Lessona_self e) x0 j86 (lp_X7_skilled_24 le (Lessona_self e) x0 j86 n) y3_24 y4_24 wy_24 = some t := hF
          unfold st_X7_skilled_24 at hF
          refine lv_iload hx hb dX7_skilled_24 (lv_at hl 4 rfl) ?_
          refine lv_bipush (v := 9) hx hb dX7_skilled_26 (by decide) ?_
          refine lv_icmp_gt (tgt := 86) hx hb dX7_skilled_28 (by decide) (fun c6 => ?_) (fun c6 => ?_)
          · have hF := m_pos c6 hF
            exact hj86 y3_24 wy_24 H locs ls hF hP hD hS (lv_sub hl [2, 3] rfl)
          · have hF := m_neg c6 hF
            refine lv_aload_n hx hb dX7_skilled_31 rfl (lv_at hl 0 rfl) ?_
            refine va_get (D := E.1) (ci := 7) (v := .ref (Forecasta_self (Onea_forecast a))) (C := RX7) (T := TX7) (N := 5) hx hb hts k1 hown hK hP 0 rfl rfl 3 (by decide) k0 (fun _ h9 => h9) rfl dX7_skilled_32 ?_
            refine lv_aload_n hx hb dX7_skilled_35 rfl (lv_at hl 0 rfl) ?_
            refine va_get (D := E.1) (ci := 7) (v := .ref (Rooma_self (Onea_now a))) (C := RX7) (T := TX7) (N := 5) hx hb hts k1 hown hK hP 0 rfl rfl 0 (by decide) k2 (fun _ h9 => h9) rfl dX7_skilled_36 ?_
            obtain ⟨t7, ht7, hF⟩ := m_bnd hF
            have hpm : List.Perm (One_c E a wy_24) (((Forecast_c E (Onea_forecast a) (One_forecast wy_24)) ++ (Room_c E (Onea_now a) (One_now wy_24))) ++ ((List.take 1 (One_c E a wy_24)) ++ ((List.take 21 (List.drop 22 (One_c E a wy_24))) ++ (List.drop 62 (One_c E a wy_24))))) := m_p2s (A := (List.take 1 (One_c E a wy_24))) (m1 := (Room_c E (Onea_now a) (One_now wy_24))) (B := (List.take 21 (List.drop 22 (One_c E a wy_24)))) (m2 := (Forecast_c E (Onea_forecast a) (One_forecast wy_24))) (C := (List.drop 62 (One_c E a wy_24)))
            obtain ⟨hPc, hDc, hFc⟩ := m_pre hpm hP hD hS hA
            refine mVM (ci := 1) (n := 1) (rest := []) (As := [.ref (Rooma_self (Onea_now a))]) CC hKN hGl (c_X1_begin l E (Onea_forecast a) (One_forecast wy_24) (Onea_now a) (One_now wy_24) t7 ht7 _) gX7_skilled_X1_begin rfl ⟨rfl, rfl⟩ (by decide +kernel) ⟨Nat.le_of_ble_eq_true rfl, Nat.le_of_ble_eq_true rfl⟩ hPc hDc m_nil m_nilA hS hFc rfl rfl rfl rfl hl.1 rfl (Nat.le_of_ble_eq_true rfl) ⟨Nat.zero_le _, Nat.zero_le _⟩ dX7_skilled_39 (fun H1 locs hP1 hD1 hz1 hk1 hS => ?_)
            have hpn : List.Perm (One_c E a (One_forecast_s wy_24 t7)) (((Forecast_c E (Onea_forecast a) t7) ++ (Room_c E (Onea_now a) (One_now wy_24))) ++ ((List.take 1 (One_c E a wy_24)) ++ ((List.take 21 (List.drop 22 (One_c E a wy_24))) ++ (List.drop 62 (One_c E a wy_24))))) := m_p2s (A := (List.take 1 (One_c E a wy_24))) (m1 := (Room_c E (Onea_now a) (One_now wy_24))) (B := (List.take 21 (List.drop 22 (One_c E a wy_24)))) (m2 := (Forecast_c E (Onea_forecast a) t7)) (C := (List.drop 62 (One_c E a wy_24)))
            obtain ⟨hP, hD⟩ := m_spl hpm hpn hP hD hk1 hFc hP1 hD1
            generalize H1 = H at hP hS ⊢
            refine W.eq (g2 := F0 m 42 ls []) rfl ?_
            refine lv_aload_n hx hb dX7_skilled_42 rfl (lv_at hl 0 rfl) ?_
            refine va_get (D := E.1) (ci := 7) (v := .ref (Forecasta_self (Onea_forecast a))) (C := RX7) (T := TX7) (N := 5) hx hb hts k1 hown hK hP 0 rfl rfl 3 (by decide) k0 (fun _ h9 => h9) rfl dX7_skilled_43 ?_
            refine va_getN (D := E.1) (ci := 1) (v := .ref (Groupa_self (Forecasta_trial (Onea_forecast a)))) (C := RX1) (T := TX1) (N := 3) hx hb hts k4 hown hK hP 43 rfl rfl 0 (by decide) k3 (fun _ h9 => h9) rfl dX7_skilled_46 ?_
            refine va_getN (D := E.1) (ci := 2) (v := .ref (Groupa_skills (Forecasta_trial (Onea_forecast a)))) (C := RX2) (T := TX2) (N := 11) hx hb hts k6 hown hK hP 44 rfl rfl 5 (by decide) k5 (fun _ h9 => h9) rfl dX7_skilled_49 ?_
            refine lv_iload_n hx hb dX7_skilled_52 rfl (lv_at hl 1 rfl) ?_
            refine lv_iload hx hb dX7_skilled_53 (lv_at hl 4 rfl) ?_
            obtain ⟨h8, hF⟩ := m_chk hF
            refine va_iast (f := (Group_skills (Forecast_trial t7))) hx hb hK hP hD hS 47 1 rfl rfl (mIn_ok h8) dX7_skilled_55 (fun H locs hP hD hS => ?_)
            have hP : va_P E.1 vwCl (One_c E a (One_forecast_s wy_24 (Forecast_trial_s t7 (Group_skills_s (Forecast_trial t7) (upd (Group_skills (Forecast_trial t7)) (x0).toNatClampNeg y4_24))))) H := hP
            have hD : va_D A (One_c E a (One_forecast_s wy_24 (Forecast_trial_s t7 (Group_skills_s (Forecast_trial t7) (upd (Group_skills (Forecast_trial t7)) (x0).toNatClampNeg y4_24))))) := hD
            refine lv_aload_n hx hb dX7_skilled_56 rfl (lv_at hl 0 rfl) ?_
            refine va_get (D := E.1) (ci := 7) (v := .ref (Forecasta_self (Onea_forecast a))) (C := RX7) (T := TX7) (N := 5) hx hb hts k1 hown hK hP 0 rfl rfl 3 (by decide) k0 (fun _ h9 => h9) rfl dX7_skilled_57 ?_
            refine lv_aload_n hx hb dX7_skilled_60 rfl (lv_at hl 0 rfl) ?_
            refine va_get (D := E.1) (ci := 7) (v := .ref (Rooma_self (Onea_now a))) (C := RX7) (T := TX7) (N := 5) hx hb hts k1 hown hK hP 0 rfl rfl 0 (by decide) k2 (fun _ h9 => h9) rfl dX7_skilled_61 ?_
            refine va_getN (D := E.1) (ci := 5) (v := .ref (Rowsa_self (Rooma_seen (Onea_now a)))) (C := RX5) (T := TX5) (N := 9) hx hb hts k8 hown hK hP 1 rfl rfl 6 (by decide) k7 (fun _ h9 => h9) rfl dX7_skilled_64 ?_
            obtain ⟨t9, ht9, hF⟩ := m_bnd hF
            have hpm : List.Perm (One_c E a (One_forecast_s wy_24 (Forecast_trial_s t7 (Group_skills_s (Forecast_trial t7) (upd (Group_skills (Forecast_trial t7)) (x0).toNatClampNeg y4_24))))) ((Forecast_c E (Onea_forecast a) (Forecast_trial_s t7 (Group_skills_s (Forecast_trial t7) (upd (Group_skills (Forecast_trial t7)) (x0).toNatClampNeg y4_24)))) ++ ((List.take 43 (One_c E a (One_forecast_s wy_24 (Forecast_trial_s t7 (Group_skills_s (Forecast_trial t7) (upd (Group_skills (Forecast_trial t7)) (x0).toNatClampNeg y4_24)))))) ++ (List.drop 62 (One_c E a (One_forecast_s wy_24 (Forecast_trial_s t7 (Group_skills_s (Forecast_trial t7) (upd (Group_skills (Forecast_trial t7)) (x0).toNatClampNeg y4_24)))))))) := m_p1 (A := (List.take 43 (One_c E a (One_forecast_s wy_24 (Forecast_trial_s t7 (Group_skills_s (Forecast_trial t7) (upd (Group_skills (Forecast_trial t7)) (x0).toNatClampNeg y4_24))))))) (m := (Forecast_c E (Onea_forecast a) (Forecast_trial_s t7 (Group_skills_s (Forecast_trial t7) (upd (Group_skills (Forecast_trial t7)) (x0).toNatClampNeg y4_24))))) (C := (List.drop 62 (One_c E a (One_forecast_s wy_24 (Forecast_trial_s t7 (Group_skills_s (Forecast_trial t7) (upd (Group_skills (Forecast_trial t7)) (x0).toNatClampNeg y4_24)))))))
            obtain ⟨hPc, hDc, hFc⟩ := m_pre hpm hP hD hS hA
            have hp10 := m_cutP (mid := Rows_c E (Rooma_seen (Onea_now a)) (Room_seen (One_now wy_24))) hP 13 3 rfl
            have ha11 := m_apart2 (wr := Rows_c E (Rooma_seen (Onea_now a)) (Room_seen (One_now wy_24))) hpm hP hD 13 3 rfl
            have hp12 := (m_ro hR0 hRA hS).sub (ws' := Lesson_c E e le) [0, 1, 2, 3] rfl
            have ha13 := m_roA (wr := Lesson_c E e le) hRA hFc [0, 1, 2, 3] rfl
            refine mVM (ci := 1) (n := 1) (rest := []) (As := [.ref (Rowsa_self (Rooma_seen (Onea_now a)))]) CC hKN hGl (c_X1_meets l E (Onea_forecast a) (Forecast_trial_s t7 (Group_skills_s (Forecast_trial t7) (upd (Group_skills (Forecast_trial t7)) (x0).toNatClampNeg y4_24))) (Rooma_seen (Onea_now a)) (Room_seen (One_now wy_24)) e le t9 ht9 _) gX7_skilled_X1_meets rfl ⟨rfl, rfl⟩ (by decide +kernel) ⟨Nat.le_of_ble_eq_true rfl, Nat.le_of_ble_eq_true rfl⟩ hPc hDc (va_P.app hp10 hp12) (m_appA ha11 ha13) hS hFc rfl rfl rfl rfl hl.1 rfl (Nat.le_of_ble_eq_true rfl) ⟨Nat.zero_le _, Nat.zero_le _⟩ dX7_skilled_67 (fun H1 locs hP1 hD1 hz1 hk1 hS => ?_)
            have hpn : List.Perm (One_c E a (One_forecast_s wy_24 t9.2)) ((Forecast_c E (Onea_forecast a) t9.2) ++ ((List.take 43 (One_c E a (One_forecast_s wy_24 (Forecast_trial_s t7 (Group_skills_s (Forecast_trial t7) (upd (Group_skills (Forecast_trial t7)) (x0).toNatClampNeg y4_24)))))) ++ (List.drop 62 (One_c E a (One_forecast_s wy_24 (Forecast_trial_s t7 (Group_skills_s (Forecast_trial t7) (upd (Group_skills (Forecast_trial t7)) (x0).toNatClampNeg y4_24)))))))) := m_p1 (A := (List.take 43 (One_c E a (One_forecast_s wy_24 (Forecast_trial_s t7 (Group_skills_s (Forecast_trial t7) (upd (Group_skills (Forecast_trial t7)) (x0).toNatClampNeg y4_24))))))) (m := (Forecast_c E (Onea_forecast a) t9.2)) (C := (List.drop 62 (One_c E a (One_forecast_s wy_24 (Forecast_trial_s t7 (Group_skills_s (Forecast_trial t7) (upd (Group_skills (Forecast_trial t7)) (x0).toNatClampNeg y4_24)))))))
            obtain ⟨hP, hD⟩ := m_spl hpm hpn hP hD hk1 hFc hP1 hD1
            generalize H1 = H at hP hS ⊢
            refine W.eq (g2 := F0 m 70 ls [.int t9.1]) rfl ?_
            obtain ⟨j80, hjd80, hF⟩ := m_jp hF
            have hj80 : ∀ (x3_80 : Int32) (H : Heap) (locs : List Loc) (ls : Array Slot), j80 x3_80 = some t → va_P E.1 vwCl (One_c E a (One_forecast_s wy_24 t9.2)) H → va_D A (One_c E a (One_forecast_s wy_24 t9.2)) → va_S A s.heap H locs → lv_has ls 5 [(0, .ref (Onea_self a)), (1, .int x0), (2, .int x1), (3, .int x3_80), (4, .int y4_24)] → W p l e_ rmX7_skilled s m args below meth c H locs 0 0 Q (F0 m 80 ls []) := by
              intro x3_80 H locs ls hF hP hD hS hl
              rw [hjd80] at hF
              refine lv_iinc (v := (y4_24 + 1)) (lv' := [(4, .int (y4_24 + 1)), (0, .ref (Onea_self a)), (1, .int x0), (2, .int x1), (3, .int x3_80)]) hx hb dX7_skilled_80 hl (k := 4) rfl rfl (by decide) rfl (fun ls hl => ?_)
              refine lv_goto (tgt := 24) hx hb dX7_skilled_83 (by decide) ?_
              exact ih24 x3_80 (y4_24 + 1) (One_forecast_s wy_24 t9.2) H locs ls hF hP hD hS (lv_sub hl [1, 2, 3, 4, 0] rfl)
            clear hjd80
            refine lv_if_eq (tgt := 80) hx hb dX7_skilled_70 (by decide) (fun c14 => ?_) (fun c14 => ?_)
            · have hF := m_pos c14 hF
              exact hj80 y3_24 H locs ls hF hP hD hS (lv_sub hl [0, 1, 2, 3, 4] rfl)
            · have hF := m_neg c14 hF
              refine lv_iload_n hx hb dX7_skilled_73 rfl (lv_at hl 3 rfl) ?_
              refine lv_iconst (v := 1) hx hb dX7_skilled_74 (by decide) ?_
              refine lv_iload hx hb dX7_skilled_75 (lv_at hl 4 rfl) ?_
              refine lv_ishl hx hb dX7_skilled_77 ?_
              refine lv_ior hx hb dX7_skilled_78 ?_
              refine lv_istore_n (lv' := [(3, .int (y3_24 ||| ((1 : Int32) <<< (y4_24 &&& 31)))), (0, .ref (Onea_self a)), (1, .int x0), (2, .int x1), (4, .int y4_24)]) hx hb dX7_skilled_79 rfl hl (by decide) rfl (fun ls hl => ?_)
              exact hj80 (y3_24 ||| ((1 : Int32) <<< (y4_24 &&& 31))) H locs ls hF hP hD hS (lv_sub hl [1, 2, 3, 0, 4] rfl)
      exact hL24 m_N 0 1 v H locs ls hF hP hD hS (lv_sub hl [2, 3, 4, 1, 0] rfl)
    clear hjd19
    refine lv_if_eq (tgt := 19) hx hb dX7_skilled_9 (by decide) (fun c15 => ?_) (fun c15 => ?_)
    · have hF := m_pos c15 hF
      exact hj19 H locs ls hF hP hD hS (lv_sub hl [0, 1, 2] rfl)
    · have hF := m_neg c15 hF
      refine lv_iload_n hx hb dX7_skilled_12 rfl (lv_at hl 2 rfl) ?_
      refine lv_iconst (v := 1) hx hb dX7_skilled_13 (by decide) ?_
      refine lv_icmp_eq (tgt := 19) hx hb dX7_skilled_14 (by decide) (fun c16 => ?_) (fun c16 => ?_)
      · have hF := m_pos c16 hF
        exact hj19 H locs ls hF hP hD hS (lv_sub hl [0, 1, 2] rfl)
      · have hF := m_neg c16 hF
        refine lv_iconst (v := (-1)) hx hb dX7_skilled_17 (by decide) ?_
        have hF := Option.some.inj hF
        subst hF
        rw [hQ]
        exact W.iret hx hb hr (fun t ht _ => ⟨⟨rfl, by rw [ht]; exact hP, hD⟩, hS.F ht⟩) hS.2.2 dX7_skilled_18

abbrev rmX7_firm : Room := { frames := 6, cells := 0, slots := 0, locals := 149 }
set_option maxRecDepth 100000 in
set_option maxHeartbeats 400000 in
theorem c_X7_firm (l : Launch) (E : mE) (a : OneA) (v : OneV) (e : LessonA) (le : LessonV) (x0 : Int32) (x1 : Int32) (t : (Int32 × OneV)) (hF : fn_X7_firm v le (Lessona_self e) x0 x1 = some t) (sz : Nat) : Met l yX7_firm wsX7_firm rmX7_firm (mPm E [.ref (Onea_self a), .int x0, .int x1] sz ((One_c E a v)) ((Lesson_c E e le))) (mSm E (some (.int t.1)) ((One_c E a t.2)) (va_A ((One_c E a v)) sz)) 0 0 (va_A ((One_c E a v)) sz) := by
  refine mOfM (cc := cX7_firm) (maxL := 5) (ret := (some .int)) (by decide) rfl (Nat.le_of_ble_eq_true rfl) ?_
  intro p e_ s m args below meth c Q A hQ CC hr hlocks hin hA hP hD hKN hGl hR0 hRA ls hl
  have hS : va_S A s.heap s.heap [] := va_S.rf
  have hK := hKN.1
  have hx := CC.1
  have hb := CC.2.1
  have hml := CC.2.2.1
  have hown : s.vm.findClass RX7 = some m.cls := CC.2.2.2.1
  have hts := CC.2.2.2.2
  have hl : lv_has ls 5 [(0, .ref (Onea_self a)), (1, .int x0), (2, .int x1)] := hl
  have k0 := hts (.fieldLink RX7 28 "OneDidAll" "forecast" "LOneDidAll$Forecast;") (by decide +kernel)
  have k1 := (show ∀ w ∈ u_ws RX7 TX7 5, w ∈ wsX7_firm by decide +kernel)
  have k2 := hts (.fieldLink RX7 12 "OneDidAll" "now" "LOneDidAll$Room;") (by decide +kernel)
  have k3 := (va_Nw.use rfl (hKN.2.1 ("OneDidAll", 177, "OneDidAll$Forecast", "trial", "LOneDidAll$Group;", "OneDidAll") (by decide +kernel)) : (Cond.fieldLinkNest "OneDidAll" 177 "OneDidAll$Forecast" "trial" "LOneDidAll$Group;" "OneDidAll").before args s = true)
  have k4 := (show ∀ w ∈ u_ws RX1 TX1 3, w ∈ wsX7_firm by decide +kernel)
  have k5 := (va_Nw.use rfl (hKN.2.1 ("OneDidAll", 94, "OneDidAll$Group", "vs", "[I", "OneDidAll") (by decide +kernel)) : (Cond.fieldLinkNest "OneDidAll" 94 "OneDidAll$Group" "vs" "[I" "OneDidAll").before args s = true)
  have k6 := (show ∀ w ∈ u_ws RX2 TX2 11, w ∈ wsX7_firm by decide +kernel)
  have k7 := (va_Nw.use rfl (hKN.2.1 ("OneDidAll", 223, "OneDidAll$Room", "seen", "LOneDidAll$Rows;", "OneDidAll") (by decide +kernel)) : (Cond.fieldLinkNest "OneDidAll" 223 "OneDidAll$Room" "seen" "LOneDidAll$Rows;" "OneDidAll").before args s = true)
  have k8 := (show ∀ w ∈ u_ws RX5 TX5 9, w ∈ wsX7_firm by decide +kernel)
  have hP : va_P E.1 vwCl (One_c E a v) s.heap := hP
  obtain ⟨H, hH⟩ : ∃ H, H = s.heap := ⟨_, rfl⟩
  obtain ⟨locs, hlc⟩ : ∃ z : List Loc, z = [] := ⟨_, rfl⟩
  rw [← hH] at hP
  rw [← hlc] at hS
  have hS : va_S A s.heap H locs := by rw [hH]; exact hS
  rw [← hH, ← hlc]
  unfold fn_X7_firm at hF
  refine lv_aload_n hx hb dX7_firm_0 rfl (lv_at hl 0 rfl) ?_
  refine lv_iload_n hx hb dX7_firm_1 rfl (lv_at hl 1 rfl) ?_
  obtain ⟨t1, ht1, hF⟩ := m_bnd hF
  refine mVP (ci := 7) (n := 1) (rest := []) (As := [.int x0]) CC hKN hGl hS (c_X7_isPupil l E a v x0 t1 ht1) gX7_firm_X7_isPupil rfl ⟨rfl, rfl⟩ (by decide +kernel) ⟨Nat.le_of_ble_eq_true rfl, Nat.le_of_ble_eq_true rfl⟩ hP rfl rfl rfl rfl hl.1 rfl (Nat.le_of_ble_eq_true rfl) ⟨Nat.zero_le _, Nat.zero_le _⟩ dX7_firm_2 ?_
  refine W.eq (g2 := F0 m 5 ls [.int t1]) rfl ?_
  refine lv_if_eq (tgt := 17) hx hb dX7_firm_5 (by decide) (fun c2 => ?_) (fun c2 => ?_)
  · have hF := m_pos c2 hF
    refine lv_iconst (v := (-1)) hx hb dX7_firm_17 (by decide) ?_
    have hF := Option.some.inj hF
    subst hF
    rw [hQ]
    exact W.iret hx hb hr (fun t ht _ => ⟨⟨rfl, by rw [ht]; exact hP, hD⟩, hS.F ht⟩) hS.2.2 dX7_firm_18
  · have hF := m_neg c2 hF
    refine lv_iload_n hx hb dX7_firm_8 rfl (lv_at hl 2 rfl) ?_
    obtain ⟨j19, hjd19, hF⟩ := m_jp hF
    have hj19 : ∀ (H : Heap) (locs : List Loc) (ls : Array Slot), j19 () = some t → va_P E.1 vwCl (One_c E a v) H → va_D A (One_c E a v) → va_S A s.heap H locs → lv_has ls 5 [(0, .ref (Onea_self a)), (1, .int x0), (2, .int x1)] → W p l e_ rmX7_firm s m args below meth c H locs 0 0 Q (F0 m 19 ls []) := by
      intro H locs ls hF hP hD hS hl
      rw [hjd19] at hF
      refine lv_iconst (v := 0) hx hb dX7_firm_19 (by decide) ?_
      refine lv_istore_n (lv' := [(3, .int 0), (0, .ref (Onea_self a)), (1, .int x0), (2, .int x1)]) hx hb dX7_firm_20 rfl hl (by decide) rfl (fun ls hl => ?_)
      refine lv_iconst (v := 0) hx hb dX7_firm_21 (by decide) ?_
      refine lv_istore (lv' := [(4, .int 0), (3, .int 0), (0, .ref (Onea_self a)), (1, .int x0), (2, .int x1)]) hx hb dX7_firm_22 hl (by decide) rfl (fun ls hl => ?_)
      obtain ⟨j86, hjd86, hF⟩ := m_jp hF
      have hj86 : ∀ (x3_86 : Int32) (wx_86 : OneV) (H : Heap) (locs : List Loc) (ls : Array Slot), j86 x3_86 wx_86 = some t → va_P E.1 vwCl (One_c E a wx_86) H → va_D A (One_c E a wx_86) → va_S A s.heap H locs → lv_has ls 5 [(2, .int x1), (3, .int x3_86)] → W p l e_ rmX7_firm s m args below meth c H locs 0 0 Q (F0 m 86 ls []) := by
        intro x3_86 wx_86 H locs ls hF hP hD hS hl
        rw [hjd86] at hF
        refine lv_iload_n hx hb dX7_firm_86 rfl (lv_at hl 0 rfl) ?_
        refine lv_if_ne (tgt := 97) hx hb dX7_firm_87 (by decide) (fun c3 => ?_) (fun c3 => ?_)
        · have hF := m_pos c3 hF
          refine lv_iload_n hx hb dX7_firm_97 rfl (lv_at hl 1 rfl) ?_
          obtain ⟨t4, ht4, hF⟩ := m_bnd hF
          refine mSP (n := 1) (rest := []) (As := [.int x3_86]) CC hKN hGl hS (c_X7_leastOf l E x3_86 t4 ht4) gX7_firm_X7_leastOf rfl ⟨rfl, rfl⟩ (by decide +kernel) ⟨Nat.le_of_ble_eq_true rfl, Nat.le_of_ble_eq_true rfl⟩ m_nil rfl hl.1 rfl (Nat.le_of_ble_eq_true rfl) ⟨Nat.zero_le _, Nat.zero_le _⟩ dX7_firm_98 ?_
          refine W.eq (g2 := F0 m 101 ls [.int t4]) rfl ?_
          have hF := Option.some.inj hF
          subst hF
          rw [hQ]
          exact W.iret hx hb hr (fun t ht _ => ⟨⟨rfl, by rw [ht]; exact hP, hD⟩, hS.F ht⟩) hS.2.2 dX7_firm_101
        · have hF := m_neg (fun n9 => n9 c3) hF
          refine lv_iload_n hx hb dX7_firm_90 rfl (lv_at hl 1 rfl) ?_
          obtain ⟨t5, ht5, hF⟩ := m_bnd hF
          refine mSP (n := 1) (rest := []) (As := [.int x3_86]) CC hKN hGl hS (c_J6_bitCount_0f7a4 l E x3_86 t5 ht5) gX7_firm_J6_bitCount_0f7a4 rfl ⟨rfl, rfl⟩ (by decide +kernel) ⟨Nat.le_of_ble_eq_true rfl, Nat.le_of_ble_eq_true rfl⟩ m_nil rfl hl.1 rfl (Nat.le_of_ble_eq_true rfl) ⟨Nat.zero_le _, Nat.zero_le _⟩ dX7_firm_91 ?_
          refine W.eq (g2 := F0 m 94 ls [.int t5]) rfl ?_
          refine lv_goto (tgt := 101) hx hb dX7_firm_94 (by decide) ?_
          have hF := Option.some.inj hF
          subst hF
          rw [hQ]
          exact W.iret hx hb hr (fun t ht _ => ⟨⟨rfl, by rw [ht]; exact hP, hD⟩, hS.F ht⟩) hS.2.2 dX7_firm_101
      clear hjd86
      have hL24 : ∀ (n : Nat) (y3_24 : Int32) (y4_24 : Int32) (wy_24 : OneV) (H : Heap) (locs : List Loc) (ls : Array Slot), lp_X7_firm_24 le (Lessona_self e) x0 j86 n y3_24 y4_24 wy_24 = some t → va_P E.1 vwCl (One_c E a wy_24) H → va_D A (One_c E a wy_24) → va_S A s.heap H locs → lv_has ls 5 [(0, .ref (Onea_self a)), (1, .int x0), (2, .int x1), (3, .int y3_24), (4, .int y4_24)] → W p l e_ rmX7_firm s m args below meth c H locs 0 0 Q (F0 m 24 ls []) := by
        intro n
        induction n with
        | zero =>
          intro y3_24 y4_24 wy_24 H locs ls hF
          exact nomatch (show (none : Option (Int32 × OneV)) = some t from hF)
        | succ n ih24 =>
          intro y3_24 y4_24 wy_24 H locs ls hF hP hD hS hl
          have hF : st_X7_firm_24 le (Lessona_self e) x0 j86 (lp_X7_firm_24 le (Lessona_self e) x0 j86 n) y3_24 y4_24 wy_24 = some t := hF
          unfold st_X7_firm_24 at hF
          refine lv_iload hx hb dX7_firm_24 (lv_at hl 4 rfl) ?_
          refine lv_bipush (v := 9) hx hb dX7_firm_26 (by decide) ?_
          refine lv_icmp_gt (tgt := 86) hx hb dX7_firm_28 (by decide) (fun c6 => ?_) (fun c6 => ?_)
          · have hF := m_pos c6 hF
            exact hj86 y3_24 wy_24 H locs ls hF hP hD hS (lv_sub hl [2, 3] rfl)
          · have hF := m_neg c6 hF
            refine lv_aload_n hx hb dX7_firm_31 rfl (lv_at hl 0 rfl) ?_
            refine va_get (D := E.1) (ci := 7) (v := .ref (Forecasta_self (Onea_forecast a))) (C := RX7) (T := TX7) (N := 5) hx hb hts k1 hown hK hP 0 rfl rfl 3 (by decide) k0 (fun _ h9 => h9) rfl dX7_firm_32 ?_
            refine lv_aload_n hx hb dX7_firm_35 rfl (lv_at hl 0 rfl) ?_
            refine va_get (D := E.1) (ci := 7) (v := .ref (Rooma_self (Onea_now a))) (C := RX7) (T := TX7) (N := 5) hx hb hts k1 hown hK hP 0 rfl rfl 0 (by decide) k2 (fun _ h9 => h9) rfl dX7_firm_36 ?_
            obtain ⟨t7, ht7, hF⟩ := m_bnd hF
            have hpm : List.Perm (One_c E a wy_24) (((Forecast_c E (Onea_forecast a) (One_forecast wy_24)) ++ (Room_c E (Onea_now a) (One_now wy_24))) ++ ((List.take 1 (One_c E a wy_24)) ++ ((List.take 21 (List.drop 22 (One_c E a wy_24))) ++ (List.drop 62 (One_c E a wy_24))))) := m_p2s (A := (List.take 1 (One_c E a wy_24))) (m1 := (Room_c E (Onea_now a) (One_now wy_24))) (B := (List.take 21 (List.drop 22 (One_c E a wy_24)))) (m2 := (Forecast_c E (Onea_forecast a) (One_forecast wy_24))) (C := (List.drop 62 (One_c E a wy_24)))
            obtain ⟨hPc, hDc, hFc⟩ := m_pre hpm hP hD hS hA
            refine mVM (ci := 1) (n := 1) (rest := []) (As := [.ref (Rooma_self (Onea_now a))]) CC hKN hGl (c_X1_begin l E (Onea_forecast a) (One_forecast wy_24) (Onea_now a) (One_now wy_24) t7 ht7 _) gX7_firm_X1_begin rfl ⟨rfl, rfl⟩ (by decide +kernel) ⟨Nat.le_of_ble_eq_true rfl, Nat.le_of_ble_eq_true rfl⟩ hPc hDc m_nil m_nilA hS hFc rfl rfl rfl rfl hl.1 rfl (Nat.le_of_ble_eq_true rfl) ⟨Nat.zero_le _, Nat.zero_le _⟩ dX7_firm_39 (fun H1 locs hP1 hD1 hz1 hk1 hS => ?_)
            have hpn : List.Perm (One_c E a (One_forecast_s wy_24 t7)) (((Forecast_c E (Onea_forecast a) t7) ++ (Room_c E (Onea_now a) (One_now wy_24))) ++ ((List.take 1 (One_c E a wy_24)) ++ ((List.take 21 (List.drop 22 (One_c E a wy_24))) ++ (List.drop 62 (One_c E a wy_24))))) := m_p2s (A := (List.take 1 (One_c E a wy_24))) (m1 := (Room_c E (Onea_now a) (One_now wy_24))) (B := (List.take 21 (List.drop 22 (One_c E a wy_24)))) (m2 := (Forecast_c E (Onea_forecast a) t7)) (C := (List.drop 62 (One_c E a wy_24)))
            obtain ⟨hP, hD⟩ := m_spl hpm hpn hP hD hk1 hFc hP1 hD1
            generalize H1 = H at hP hS ⊢
            refine W.eq (g2 := F0 m 42 ls []) rfl ?_
            refine lv_aload_n hx hb dX7_firm_42 rfl (lv_at hl 0 rfl) ?_
            refine va_get (D := E.1) (ci := 7) (v := .ref (Forecasta_self (Onea_forecast a))) (C := RX7) (T := TX7) (N := 5) hx hb hts k1 hown hK hP 0 rfl rfl 3 (by decide) k0 (fun _ h9 => h9) rfl dX7_firm_43 ?_
            refine va_getN (D := E.1) (ci := 1) (v := .ref (Groupa_self (Forecasta_trial (Onea_forecast a)))) (C := RX1) (T := TX1) (N := 3) hx hb hts k4 hown hK hP 43 rfl rfl 0 (by decide) k3 (fun _ h9 => h9) rfl dX7_firm_46 ?_
            refine va_getN (D := E.1) (ci := 2) (v := .ref (Groupa_vs (Forecasta_trial (Onea_forecast a)))) (C := RX2) (T := TX2) (N := 11) hx hb hts k6 hown hK hP 44 rfl rfl 4 (by decide) k5 (fun _ h9 => h9) rfl dX7_firm_49 ?_
            refine lv_iload_n hx hb dX7_firm_52 rfl (lv_at hl 1 rfl) ?_
            refine lv_iload hx hb dX7_firm_53 (lv_at hl 4 rfl) ?_
            obtain ⟨h8, hF⟩ := m_chk hF
            refine va_iast (f := (Group_vs (Forecast_trial t7))) hx hb hK hP hD hS 46 1 rfl rfl (mIn_ok h8) dX7_firm_55 (fun H locs hP hD hS => ?_)
            have hP : va_P E.1 vwCl (One_c E a (One_forecast_s wy_24 (Forecast_trial_s t7 (Group_vs_s (Forecast_trial t7) (upd (Group_vs (Forecast_trial t7)) (x0).toNatClampNeg y4_24))))) H := hP
            have hD : va_D A (One_c E a (One_forecast_s wy_24 (Forecast_trial_s t7 (Group_vs_s (Forecast_trial t7) (upd (Group_vs (Forecast_trial t7)) (x0).toNatClampNeg y4_24))))) := hD
            refine lv_aload_n hx hb dX7_firm_56 rfl (lv_at hl 0 rfl) ?_
            refine va_get (D := E.1) (ci := 7) (v := .ref (Forecasta_self (Onea_forecast a))) (C := RX7) (T := TX7) (N := 5) hx hb hts k1 hown hK hP 0 rfl rfl 3 (by decide) k0 (fun _ h9 => h9) rfl dX7_firm_57 ?_
            refine lv_aload_n hx hb dX7_firm_60 rfl (lv_at hl 0 rfl) ?_
            refine va_get (D := E.1) (ci := 7) (v := .ref (Rooma_self (Onea_now a))) (C := RX7) (T := TX7) (N := 5) hx hb hts k1 hown hK hP 0 rfl rfl 0 (by decide) k2 (fun _ h9 => h9) rfl dX7_firm_61 ?_
            refine va_getN (D := E.1) (ci := 5) (v := .ref (Rowsa_self (Rooma_seen (Onea_now a)))) (C := RX5) (T := TX5) (N := 9) hx hb hts k8 hown hK hP 1 rfl rfl 6 (by decide) k7 (fun _ h9 => h9) rfl dX7_firm_64 ?_
            obtain ⟨t9, ht9, hF⟩ := m_bnd hF
            have hpm : List.Perm (One_c E a (One_forecast_s wy_24 (Forecast_trial_s t7 (Group_vs_s (Forecast_trial t7) (upd (Group_vs (Forecast_trial t7)) (x0).toNatClampNeg y4_24))))) ((Forecast_c E (Onea_forecast a) (Forecast_trial_s t7 (Group_vs_s (Forecast_trial t7) (upd (Group_vs (Forecast_trial t7)) (x0).toNatClampNeg y4_24)))) ++ ((List.take 43 (One_c E a (One_forecast_s wy_24 (Forecast_trial_s t7 (Group_vs_s (Forecast_trial t7) (upd (Group_vs (Forecast_trial t7)) (x0).toNatClampNeg y4_24)))))) ++ (List.drop 62 (One_c E a (One_forecast_s wy_24 (Forecast_trial_s t7 (Group_vs_s (Forecast_trial t7) (upd (Group_vs (Forecast_trial t7)) (x0).toNatClampNeg y4_24)))))))) := m_p1 (A := (List.take 43 (One_c E a (One_forecast_s wy_24 (Forecast_trial_s t7 (Group_vs_s (Forecast_trial t7) (upd (Group_vs (Forecast_trial t7)) (x0).toNatClampNeg y4_24))))))) (m := (Forecast_c E (Onea_forecast a) (Forecast_trial_s t7 (Group_vs_s (Forecast_trial t7) (upd (Group_vs (Forecast_trial t7)) (x0).toNatClampNeg y4_24))))) (C := (List.drop 62 (One_c E a (One_forecast_s wy_24 (Forecast_trial_s t7 (Group_vs_s (Forecast_trial t7) (upd (Group_vs (Forecast_trial t7)) (x0).toNatClampNeg y4_24)))))))
            obtain ⟨hPc, hDc, hFc⟩ := m_pre hpm hP hD hS hA
            have hp10 := m_cutP (mid := Rows_c E (Rooma_seen (Onea_now a)) (Room_seen (One_now wy_24))) hP 13 3 rfl
            have ha11 := m_apart2 (wr := Rows_c E (Rooma_seen (Onea_now a)) (Room_seen (One_now wy_24))) hpm hP hD 13 3 rfl
            have hp12 := (m_ro hR0 hRA hS).sub (ws' := Lesson_c E e le) [0, 1, 2, 3] rfl
            have ha13 := m_roA (wr := Lesson_c E e le) hRA hFc [0, 1, 2, 3] rfl
            refine mVM (ci := 1) (n := 1) (rest := []) (As := [.ref (Rowsa_self (Rooma_seen (Onea_now a)))]) CC hKN hGl (c_X1_meets l E (Onea_forecast a) (Forecast_trial_s t7 (Group_vs_s (Forecast_trial t7) (upd (Group_vs (Forecast_trial t7)) (x0).toNatClampNeg y4_24))) (Rooma_seen (Onea_now a)) (Room_seen (One_now wy_24)) e le t9 ht9 _) gX7_firm_X1_meets rfl ⟨rfl, rfl⟩ (by decide +kernel) ⟨Nat.le_of_ble_eq_true rfl, Nat.le_of_ble_eq_true rfl⟩ hPc hDc (va_P.app hp10 hp12) (m_appA ha11 ha13) hS hFc rfl rfl rfl rfl hl.1 rfl (Nat.le_of_ble_eq_true rfl) ⟨Nat.zero_le _, Nat.zero_le _⟩ dX7_firm_67 (fun H1 locs hP1 hD1 hz1 hk1 hS => ?_)
            have hpn : List.Perm (One_c E a (One_forecast_s wy_24 t9.2)) ((Forecast_c E (Onea_forecast a) t9.2) ++ ((List.take 43 (One_c E a (One_forecast_s wy_24 (Forecast_trial_s t7 (Group_vs_s (Forecast_trial t7) (upd (Group_vs (Forecast_trial t7)) (x0).toNatClampNeg y4_24)))))) ++ (List.drop 62 (One_c E a (One_forecast_s wy_24 (Forecast_trial_s t7 (Group_vs_s (Forecast_trial t7) (upd (Group_vs (Forecast_trial t7)) (x0).toNatClampNeg y4_24)))))))) := m_p1 (A := (List.take 43 (One_c E a (One_forecast_s wy_24 (Forecast_trial_s t7 (Group_vs_s (Forecast_trial t7) (upd (Group_vs (Forecast_trial t7)) (x0).toNatClampNeg y4_24))))))) (m := (Forecast_c E (Onea_forecast a) t9.2)) (C := (List.drop 62 (One_c E a (One_forecast_s wy_24 (Forecast_trial_s t7 (Group_vs_s (Forecast_trial t7) (upd (Group_vs (Forecast_trial t7)) (x0).toNatClampNeg y4_24)))))))
            obtain ⟨hP, hD⟩ := m_spl hpm hpn hP hD hk1 hFc hP1 hD1
            generalize H1 = H at hP hS ⊢
            refine W.eq (g2 := F0 m 70 ls [.int t9.1]) rfl ?_
            obtain ⟨j80, hjd80, hF⟩ := m_jp hF
            have hj80 : ∀ (x3_80 : Int32) (H : Heap) (locs : List Loc) (ls : Array Slot), j80 x3_80 = some t → va_P E.1 vwCl (One_c E a (One_forecast_s wy_24 t9.2)) H → va_D A (One_c E a (One_forecast_s wy_24 t9.2)) → va_S A s.heap H locs → lv_has ls 5 [(0, .ref (Onea_self a)), (1, .int x0), (2, .int x1), (3, .int x3_80), (4, .int y4_24)] → W p l e_ rmX7_firm s m args below meth c H locs 0 0 Q (F0 m 80 ls []) := by
              intro x3_80 H locs ls hF hP hD hS hl
              rw [hjd80] at hF
              refine lv_iinc (v := (y4_24 + 1)) (lv' := [(4, .int (y4_24 + 1)), (0, .ref (Onea_self a)), (1, .int x0), (2, .int x1), (3, .int x3_80)]) hx hb dX7_firm_80 hl (k := 4) rfl rfl (by decide) rfl (fun ls hl => ?_)
              refine lv_goto (tgt := 24) hx hb dX7_firm_83 (by decide) ?_
              exact ih24 x3_80 (y4_24 + 1) (One_forecast_s wy_24 t9.2) H locs ls hF hP hD hS (lv_sub hl [1, 2, 3, 4, 0] rfl)
            clear hjd80
            refine lv_if_eq (tgt := 80) hx hb dX7_firm_70 (by decide) (fun c14 => ?_) (fun c14 => ?_)
            · have hF := m_pos c14 hF
              exact hj80 y3_24 H locs ls hF hP hD hS (lv_sub hl [0, 1, 2, 3, 4] rfl)
            · have hF := m_neg c14 hF
              refine lv_iload_n hx hb dX7_firm_73 rfl (lv_at hl 3 rfl) ?_
              refine lv_iconst (v := 1) hx hb dX7_firm_74 (by decide) ?_
              refine lv_iload hx hb dX7_firm_75 (lv_at hl 4 rfl) ?_
              refine lv_ishl hx hb dX7_firm_77 ?_
              refine lv_ior hx hb dX7_firm_78 ?_
              refine lv_istore_n (lv' := [(3, .int (y3_24 ||| ((1 : Int32) <<< (y4_24 &&& 31)))), (0, .ref (Onea_self a)), (1, .int x0), (2, .int x1), (4, .int y4_24)]) hx hb dX7_firm_79 rfl hl (by decide) rfl (fun ls hl => ?_)
              exact hj80 (y3_24 ||| ((1 : Int32) <<< (y4_24 &&& 31))) H locs ls hF hP hD hS (lv_sub hl [1, 2, 3, 0, 4] rfl)
      exact hL24 m_N 0 0 v H locs ls hF hP hD hS (lv_sub hl [2, 3, 4, 1, 0] rfl)
    clear hjd19
    refine lv_if_eq (tgt := 19) hx hb dX7_firm_9 (by decide) (fun c15 => ?_) (fun c15 => ?_)
    · have hF := m_pos c15 hF
      exact hj19 H locs ls hF hP hD hS (lv_sub hl [0, 1, 2] rfl)
    · have hF := m_neg c15 hF
      refine lv_iload_n hx hb dX7_firm_12 rfl (lv_at hl 2 rfl) ?_
      refine lv_iconst (v := 1) hx hb dX7_firm_13 (by decide) ?_
      refine lv_icmp_eq (tgt := 19) hx hb dX7_firm_14 (by decide) (fun c16 => ?_) (fun c16 => ?_)
      · have hF := m_pos c16 hF
        exact hj19 H locs ls hF hP hD hS (lv_sub hl [0, 1, 2] rfl)
      · have hF := m_neg c16 hF
        refine lv_iconst (v := (-1)) hx hb dX7_firm_17 (by decide) ?_
        have hF := Option.some.inj hF
        subst hF
        rw [hQ]
        exact W.iret hx hb hr (fun t ht _ => ⟨⟨rfl, by rw [ht]; exact hP, hD⟩, hS.F ht⟩) hS.2.2 dX7_firm_18

abbrev rmX7_odds : Room := { frames := 6, cells := 0, slots := 0, locals := 147 }
set_option maxRecDepth 100000 in
set_option maxHeartbeats 400000 in
theorem c_X7_odds (l : Launch) (E : mE) (a : OneA) (v : OneV) (e : LessonA) (le : LessonV) (x0 : Int32) (x1 : Int32) (x2 : Int32) (t : (Int64 × OneV)) (hF : fn_X7_odds v le (Lessona_self e) x0 x1 x2 = some t) (sz : Nat) : Met l yX7_odds wsX7_odds rmX7_odds (mPm E [.ref (Onea_self a), .int x0, .int x1, .int x2] sz ((One_c E a v)) ((Lesson_c E e le))) (mSm E (some (.long t.1)) ((One_c E a t.2)) (va_A ((One_c E a v)) sz)) 0 0 (va_A ((One_c E a v)) sz) := by
  refine mOfM (cc := cX7_odds) (maxL := 6) (ret := (some .long)) (by decide) rfl (Nat.le_of_ble_eq_true rfl) ?_
  intro p e_ s m args below meth c Q A hQ CC hr hlocks hin hA hP hD hKN hGl hR0 hRA ls hl
  have hS : va_S A s.heap s.heap [] := va_S.rf
  have hK := hKN.1
  have hx := CC.1
  have hb := CC.2.1
  have hml := CC.2.2.1
  have hown : s.vm.findClass RX7 = some m.cls := CC.2.2.2.1
  have hts := CC.2.2.2.2
  have hl : lv_has ls 6 [(0, .ref (Onea_self a)), (1, .int x0), (2, .int x1), (3, .int x2)] := hl
  have k0 := hts (.constantLong RX7 214 (-9223372036854775808)) (by decide +kernel)
  have k1 := hts (.constant RX7 232 (99999)) (by decide +kernel)
  have k2 := hts (.fieldLink RX7 12 "OneDidAll" "now" "LOneDidAll$Room;") (by decide +kernel)
  have k3 := (show ∀ w ∈ u_ws RX7 TX7 5, w ∈ wsX7_odds by decide +kernel)
  have k4 := (va_Nw.use rfl (hKN.2.1 ("OneDidAll", 74, "OneDidAll$Room", "group", "LOneDidAll$Group;", "OneDidAll") (by decide +kernel)) : (Cond.fieldLinkNest "OneDidAll" 74 "OneDidAll$Room" "group" "LOneDidAll$Group;" "OneDidAll").before args s = true)
  have k5 := (show ∀ w ∈ u_ws RX5 TX5 9, w ∈ wsX7_odds by decide +kernel)
  have k6 := (va_Nw.use rfl (hKN.2.1 ("OneDidAll", 78, "OneDidAll$Group", "size", "I", "OneDidAll") (by decide +kernel)) : (Cond.fieldLinkNest "OneDidAll" 78 "OneDidAll$Group" "size" "I" "OneDidAll").before args s = true)
  have k7 := (show ∀ w ∈ u_ws RX2 TX2 11, w ∈ wsX7_odds by decide +kernel)
  have k8 := hts (.fieldLink RX7 28 "OneDidAll" "forecast" "LOneDidAll$Forecast;") (by decide +kernel)
  have hP : va_P E.1 vwCl (One_c E a v) s.heap := hP
  obtain ⟨H, hH⟩ : ∃ H, H = s.heap := ⟨_, rfl⟩
  obtain ⟨locs, hlc⟩ : ∃ z : List Loc, z = [] := ⟨_, rfl⟩
  rw [← hH] at hP
  rw [← hlc] at hS
  have hS : va_S A s.heap H locs := by rw [hH]; exact hS
  rw [← hH, ← hlc]
  unfold fn_X7_odds at hF
  refine lv_iload_n hx hb dX7_odds_0 rfl (lv_at hl 1 rfl) ?_
  obtain ⟨j27, hjd27, hF⟩ := m_jp hF
  have hj27 : ∀ (H : Heap) (locs : List Loc) (ls : Array Slot), j27 () = some t → va_P E.1 vwCl (One_c E a v) H → va_D A (One_c E a v) → va_S A s.heap H locs → lv_has ls 6 [] → W p l e_ rmX7_odds s m args below meth c H locs 0 0 Q (F0 m 27 ls []) := by
    intro H locs ls hF hP hD hS hl
    rw [hjd27] at hF
    refine lv_ldc2 (v := (-9223372036854775808 : Int64)) hx hb hown k0 dX7_odds_27 ?_
    have hF := Option.some.inj hF
    subst hF
    rw [hQ]
    exact W.lret hx hb hr (fun t ht _ => ⟨⟨rfl, by rw [ht]; exact hP, hD⟩, hS.F ht⟩) hS.2.2 dX7_odds_30
  clear hjd27
  refine lv_if_lt (tgt := 27) hx hb dX7_odds_1 (by decide) (fun c1 => ?_) (fun c1 => ?_)
  · have hF := m_pos c1 hF
    exact hj27 H locs ls hF hP hD hS (lv_sub hl [] rfl)
  · have hF := m_neg c1 hF
    refine lv_iload_n hx hb dX7_odds_4 rfl (lv_at hl 1 rfl) ?_
    refine lv_bipush (v := 60) hx hb dX7_odds_5 (by decide) ?_
    refine lv_icmp_gt (tgt := 27) hx hb dX7_odds_7 (by decide) (fun c2 => ?_) (fun c2 => ?_)
    · have hF := m_pos c2 hF
      exact hj27 H locs ls hF hP hD hS (lv_sub hl [] rfl)
    · have hF := m_neg c2 hF
      refine lv_iload_n hx hb dX7_odds_10 rfl (lv_at hl 2 rfl) ?_
      refine lv_if_lt (tgt := 27) hx hb dX7_odds_11 (by decide) (fun c3 => ?_) (fun c3 => ?_)
      · have hF := m_pos c3 hF
        exact hj27 H locs ls hF hP hD hS (lv_sub hl [] rfl)
      · have hF := m_neg c3 hF
        refine lv_iload_n hx hb dX7_odds_14 rfl (lv_at hl 2 rfl) ?_
        refine lv_ldc (v := 99999) hx hb hown k1 dX7_odds_15 ?_
        refine lv_icmp_gt (tgt := 27) hx hb dX7_odds_17 (by decide) (fun c4 => ?_) (fun c4 => ?_)
        · have hF := m_pos c4 hF
          exact hj27 H locs ls hF hP hD hS (lv_sub hl [] rfl)
        · have hF := m_neg c4 hF
          refine lv_iload_n hx hb dX7_odds_20 rfl (lv_at hl 3 rfl) ?_
          obtain ⟨t5, ht5, hF⟩ := m_bnd hF
          refine mSP (n := 1) (rest := []) (As := [.int x2]) CC hKN hGl hS (c_X7_isPart l E x2 t5 ht5) gX7_odds_X7_isPart rfl ⟨rfl, rfl⟩ (by decide +kernel) ⟨Nat.le_of_ble_eq_true rfl, Nat.le_of_ble_eq_true rfl⟩ m_nil rfl hl.1 rfl (Nat.le_of_ble_eq_true rfl) ⟨Nat.zero_le _, Nat.zero_le _⟩ dX7_odds_21 ?_
          refine W.eq (g2 := F0 m 24 ls [.int t5]) rfl ?_
          refine lv_if_ne (tgt := 31) hx hb dX7_odds_24 (by decide) (fun c6 => ?_) (fun c6 => ?_)
          · have hF := m_pos c6 hF
            refine lv_aload_n hx hb dX7_odds_31 rfl (lv_at hl 0 rfl) ?_
            refine va_get (D := E.1) (ci := 7) (v := .ref (Rooma_self (Onea_now a))) (C := RX7) (T := TX7) (N := 5) hx hb hts k3 hown hK hP 0 rfl rfl 0 (by decide) k2 (fun _ h9 => h9) rfl dX7_odds_32 ?_
            refine va_getN (D := E.1) (ci := 5) (v := .ref (Groupa_self (Rooma_group (Onea_now a)))) (C := RX5) (T := TX5) (N := 9) hx hb hts k5 hown hK hP 1 rfl rfl 0 (by decide) k4 (fun _ h9 => h9) rfl dX7_odds_35 ?_
            refine va_getN (D := E.1) (ci := 2) (v := .int (Group_size (Room_group (One_now v)))) (C := RX2) (T := TX2) (N := 11) hx hb hts k7 hown hK hP 2 rfl rfl 0 (by decide) k6 (fun _ h9 => h9) rfl dX7_odds_38 ?_
            refine lv_if_ne (tgt := 48) hx hb dX7_odds_41 (by decide) (fun c7 => ?_) (fun c7 => ?_)
            · have hF := m_pos c7 hF
              refine lv_iconst (v := 0) hx hb dX7_odds_48 (by decide) ?_
              refine lv_istore (lv' := [(4, .int 0), (0, .ref (Onea_self a)), (1, .int x0), (2, .int x1), (3, .int x2)]) hx hb dX7_odds_49 hl (by decide) rfl (fun ls hl => ?_)
              refine lv_iconst (v := 0) hx hb dX7_odds_51 (by decide) ?_
              refine lv_istore (lv' := [(5, .int 0), (4, .int 0), (0, .ref (Onea_self a)), (1, .int x0), (2, .int x1), (3, .int x2)]) hx hb dX7_odds_52 hl (by decide) rfl (fun ls hl => ?_)
              obtain ⟨j110, hjd110, hF⟩ := m_jp hF
              have hj110 : ∀ (x4_110 : Int32) (wx_110 : OneV) (H : Heap) (locs : List Loc) (ls : Array Slot), j110 x4_110 wx_110 = some t → va_P E.1 vwCl (One_c E a wx_110) H → va_D A (One_c E a wx_110) → va_S A s.heap H locs → lv_has ls 6 [(0, .ref (Onea_self a)), (3, .int x2), (4, .int x4_110)] → W p l e_ rmX7_odds s m args below meth c H locs 0 0 Q (F0 m 110 ls []) := by
                intro x4_110 wx_110 H locs ls hF hP hD hS hl
                rw [hjd110] at hF
                refine lv_iload hx hb dX7_odds_110 (lv_at hl 2 rfl) ?_
                refine lv_i2l (v := (x4_110).toInt64) hx hb dX7_odds_112 rfl ?_
                refine lv_aload_n hx hb dX7_odds_113 rfl (lv_at hl 0 rfl) ?_
                refine va_get (D := E.1) (ci := 7) (v := .ref (Rooma_self (Onea_now a))) (C := RX7) (T := TX7) (N := 5) hx hb hts k3 hown hK hP 0 rfl rfl 0 (by decide) k2 (fun _ h9 => h9) rfl dX7_odds_114 ?_
                refine va_getN (D := E.1) (ci := 5) (v := .ref (Groupa_self (Rooma_group (Onea_now a)))) (C := RX5) (T := TX5) (N := 9) hx hb hts k5 hown hK hP 1 rfl rfl 0 (by decide) k4 (fun _ h9 => h9) rfl dX7_odds_117 ?_
                refine va_getN (D := E.1) (ci := 2) (v := .int (Group_size (Room_group (One_now wx_110)))) (C := RX2) (T := TX2) (N := 11) hx hb hts k7 hown hK hP 2 rfl rfl 0 (by decide) k6 (fun _ h9 => h9) rfl dX7_odds_120 ?_
                refine lv_i2l (v := ((Group_size (Room_group (One_now wx_110)))).toInt64) hx hb dX7_odds_123 rfl ?_
                refine lv_iload_n hx hb dX7_odds_124 rfl (lv_at hl 1 rfl) ?_
                obtain ⟨t8, ht8, hF⟩ := m_bnd hF
                refine mSP (n := 3) (rest := []) (As := [.long (x4_110).toInt64, .long ((Group_size (Room_group (One_now wx_110)))).toInt64, .int x2]) CC hKN hGl hS (c_X7_inLowestTerms l E (x4_110).toInt64 ((Group_size (Room_group (One_now wx_110)))).toInt64 x2 t8 ht8) gX7_odds_X7_inLowestTerms rfl ⟨rfl, rfl⟩ (by decide +kernel) ⟨Nat.le_of_ble_eq_true rfl, Nat.le_of_ble_eq_true rfl⟩ m_nil rfl hl.1 rfl (Nat.le_of_ble_eq_true rfl) ⟨Nat.zero_le _, Nat.zero_le _⟩ dX7_odds_125 ?_
                refine W.eq (g2 := F0 m 128 ls [.long t8]) rfl ?_
                have hF := Option.some.inj hF
                subst hF
                rw [hQ]
                exact W.lret hx hb hr (fun t ht _ => ⟨⟨rfl, by rw [ht]; exact hP, hD⟩, hS.F ht⟩) hS.2.2 dX7_odds_128
              clear hjd110
              have hL54 : ∀ (n : Nat) (y4_54 : Int32) (y5_54 : Int32) (wy_54 : OneV) (H : Heap) (locs : List Loc) (ls : Array Slot), lp_X7_odds_54 le (Lessona_self e) x0 x1 j110 n y4_54 y5_54 wy_54 = some t → va_P E.1 vwCl (One_c E a wy_54) H → va_D A (One_c E a wy_54) → va_S A s.heap H locs → lv_has ls 6 [(0, .ref (Onea_self a)), (1, .int x0), (2, .int x1), (3, .int x2), (4, .int y4_54), (5, .int y5_54)] → W p l e_ rmX7_odds s m args below meth c H locs 0 0 Q (F0 m 54 ls []) := by
                intro n
                induction n with
                | zero =>
                  intro y4_54 y5_54 wy_54 H locs ls hF
                  exact nomatch (show (none : Option (Int64 × OneV)) = some t from hF)
                | succ n ih54 =>
                  intro y4_54 y5_54 wy_54 H locs ls hF hP hD hS hl
                  have hF : st_X7_odds_54 le (Lessona_self e) x0 x1 j110 (lp_X7_odds_54 le (Lessona_self e) x0 x1 j110 n) y4_54 y5_54 wy_54 = some t := hF
                  unfold st_X7_odds_54 at hF
                  refine lv_iload hx hb dX7_odds_54 (lv_at hl 5 rfl) ?_
                  refine lv_aload_n hx hb dX7_odds_56 rfl (lv_at hl 0 rfl) ?_
                  refine va_get (D := E.1) (ci := 7) (v := .ref (Rooma_self (Onea_now a))) (C := RX7) (T := TX7) (N := 5) hx hb hts k3 hown hK hP 0 rfl rfl 0 (by decide) k2 (fun _ h9 => h9) rfl dX7_odds_57 ?_
                  refine va_getN (D := E.1) (ci := 5) (v := .ref (Groupa_self (Rooma_group (Onea_now a)))) (C := RX5) (T := TX5) (N := 9) hx hb hts k5 hown hK hP 1 rfl rfl 0 (by decide) k4 (fun _ h9 => h9) rfl dX7_odds_60 ?_
                  refine va_getN (D := E.1) (ci := 2) (v := .int (Group_size (Room_group (One_now wy_54)))) (C := RX2) (T := TX2) (N := 11) hx hb hts k7 hown hK hP 2 rfl rfl 0 (by decide) k6 (fun _ h9 => h9) rfl dX7_odds_63 ?_
                  refine lv_icmp_ge (tgt := 110) hx hb dX7_odds_66 (by decide) (fun c9 => ?_) (fun c9 => ?_)
                  · have hF := m_pos c9 hF
                    exact hj110 y4_54 wy_54 H locs ls hF hP hD hS (lv_sub hl [0, 3, 4] rfl)
                  · have hF := m_neg c9 hF
                    refine lv_aload_n hx hb dX7_odds_69 rfl (lv_at hl 0 rfl) ?_
                    refine va_get (D := E.1) (ci := 7) (v := .ref (Forecasta_self (Onea_forecast a))) (C := RX7) (T := TX7) (N := 5) hx hb hts k3 hown hK hP 0 rfl rfl 3 (by decide) k8 (fun _ h9 => h9) rfl dX7_odds_70 ?_
                    refine lv_aload_n hx hb dX7_odds_73 rfl (lv_at hl 0 rfl) ?_
                    refine va_get (D := E.1) (ci := 7) (v := .ref (Rooma_self (Onea_now a))) (C := RX7) (T := TX7) (N := 5) hx hb hts k3 hown hK hP 0 rfl rfl 0 (by decide) k2 (fun _ h9 => h9) rfl dX7_odds_74 ?_
                    refine lv_iload hx hb dX7_odds_77 (lv_at hl 5 rfl) ?_
                    obtain ⟨t10, ht10, hF⟩ := m_bnd hF
                    have hpm : List.Perm (One_c E a wy_54) (((Forecast_c E (Onea_forecast a) (One_forecast wy_54)) ++ (Room_c E (Onea_now a) (One_now wy_54))) ++ ((List.take 1 (One_c E a wy_54)) ++ ((List.take 21 (List.drop 22 (One_c E a wy_54))) ++ (List.drop 62 (One_c E a wy_54))))) := m_p2s (A := (List.take 1 (One_c E a wy_54))) (m1 := (Room_c E (Onea_now a) (One_now wy_54))) (B := (List.take 21 (List.drop 22 (One_c E a wy_54)))) (m2 := (Forecast_c E (Onea_forecast a) (One_forecast wy_54))) (C := (List.drop 62 (One_c E a wy_54)))
                    obtain ⟨hPc, hDc, hFc⟩ := m_pre hpm hP hD hS hA
                    refine mVM (ci := 1) (n := 2) (rest := []) (As := [.ref (Rooma_self (Onea_now a)), .int y5_54]) CC hKN hGl (c_X1_beginWithout l E (Onea_forecast a) (One_forecast wy_54) (Onea_now a) (One_now wy_54) y5_54 t10 ht10 _) gX7_odds_X1_beginWithout rfl ⟨rfl, rfl⟩ (by decide +kernel) ⟨Nat.le_of_ble_eq_true rfl, Nat.le_of_ble_eq_true rfl⟩ hPc hDc m_nil m_nilA hS hFc rfl rfl rfl rfl hl.1 rfl (Nat.le_of_ble_eq_true rfl) ⟨Nat.zero_le _, Nat.zero_le _⟩ dX7_odds_79 (fun H1 locs hP1 hD1 hz1 hk1 hS => ?_)
                    have hpn : List.Perm (One_c E a (One_forecast_s wy_54 t10)) (((Forecast_c E (Onea_forecast a) t10) ++ (Room_c E (Onea_now a) (One_now wy_54))) ++ ((List.take 1 (One_c E a wy_54)) ++ ((List.take 21 (List.drop 22 (One_c E a wy_54))) ++ (List.drop 62 (One_c E a wy_54))))) := m_p2s (A := (List.take 1 (One_c E a wy_54))) (m1 := (Room_c E (Onea_now a) (One_now wy_54))) (B := (List.take 21 (List.drop 22 (One_c E a wy_54)))) (m2 := (Forecast_c E (Onea_forecast a) t10)) (C := (List.drop 62 (One_c E a wy_54)))
                    obtain ⟨hP, hD⟩ := m_spl hpm hpn hP hD hk1 hFc hP1 hD1
                    generalize H1 = H at hP hS ⊢
                    refine W.eq (g2 := F0 m 82 ls []) rfl ?_
                    refine lv_aload_n hx hb dX7_odds_82 rfl (lv_at hl 0 rfl) ?_
                    refine va_get (D := E.1) (ci := 7) (v := .ref (Forecasta_self (Onea_forecast a))) (C := RX7) (T := TX7) (N := 5) hx hb hts k3 hown hK hP 0 rfl rfl 3 (by decide) k8 (fun _ h9 => h9) rfl dX7_odds_83 ?_
                    refine lv_iload_n hx hb dX7_odds_86 rfl (lv_at hl 1 rfl) ?_
                    obtain ⟨t11, ht11, hF⟩ := m_bnd hF
                    have hpm : List.Perm (One_c E a (One_forecast_s wy_54 t10)) ((Forecast_c E (Onea_forecast a) t10) ++ ((List.take 43 (One_c E a (One_forecast_s wy_54 t10))) ++ (List.drop 62 (One_c E a (One_forecast_s wy_54 t10))))) := m_p1 (A := (List.take 43 (One_c E a (One_forecast_s wy_54 t10)))) (m := (Forecast_c E (Onea_forecast a) t10)) (C := (List.drop 62 (One_c E a (One_forecast_s wy_54 t10))))
                    obtain ⟨hPc, hDc, hFc⟩ := m_pre hpm hP hD hS hA
                    have hp12 := (m_ro hR0 hRA hS).sub (ws' := Lesson_c E e le) [0, 1, 2, 3] rfl
                    have ha13 := m_roA (wr := Lesson_c E e le) hRA hFc [0, 1, 2, 3] rfl
                    refine mVM (ci := 1) (n := 1) (rest := []) (As := [.int x0]) CC hKN hGl (c_X1_go l E (Onea_forecast a) t10 e le x0 t11 ht11 _) gX7_odds_X1_go rfl ⟨rfl, rfl⟩ (by decide +kernel) ⟨Nat.le_of_ble_eq_true rfl, Nat.le_of_ble_eq_true rfl⟩ hPc hDc hp12 ha13 hS hFc rfl rfl rfl rfl hl.1 rfl (Nat.le_of_ble_eq_true rfl) ⟨Nat.zero_le _, Nat.zero_le _⟩ dX7_odds_87 (fun H1 locs hP1 hD1 hz1 hk1 hS => ?_)
                    have hpn : List.Perm (One_c E a (One_forecast_s wy_54 t11)) ((Forecast_c E (Onea_forecast a) t11) ++ ((List.take 43 (One_c E a (One_forecast_s wy_54 t10))) ++ (List.drop 62 (One_c E a (One_forecast_s wy_54 t10))))) := m_p1 (A := (List.take 43 (One_c E a (One_forecast_s wy_54 t10)))) (m := (Forecast_c E (Onea_forecast a) t11)) (C := (List.drop 62 (One_c E a (One_forecast_s wy_54 t10))))
                    obtain ⟨hP, hD⟩ := m_spl hpm hpn hP hD hk1 hFc hP1 hD1
                    generalize H1 = H at hP hS ⊢
                    refine W.eq (g2 := F0 m 90 ls []) rfl ?_
                    refine lv_aload_n hx hb dX7_odds_90 rfl (lv_at hl 0 rfl) ?_
                    refine va_get (D := E.1) (ci := 7) (v := .ref (Forecasta_self (Onea_forecast a))) (C := RX7) (T := TX7) (N := 5) hx hb hts k3 hown hK hP 0 rfl rfl 3 (by decide) k8 (fun _ h9 => h9) rfl dX7_odds_91 ?_
                    obtain ⟨t14, ht14, hF⟩ := m_bnd hF
                    have hPc := m_cutP (mid := (Forecast_c E (Onea_forecast a) t11)) hP 43 19 rfl
                    refine mVP (ci := 1) (n := 0) (rest := []) (As := []) CC hKN hGl hS (c_X1_workMore l E (Onea_forecast a) t11 t14 ht14) gX7_odds_X1_workMore rfl ⟨rfl, rfl⟩ (by decide +kernel) ⟨Nat.le_of_ble_eq_true rfl, Nat.le_of_ble_eq_true rfl⟩ hPc rfl rfl rfl rfl hl.1 rfl (Nat.le_of_ble_eq_true rfl) ⟨Nat.zero_le _, Nat.zero_le _⟩ dX7_odds_94 ?_
                    refine W.eq (g2 := F0 m 97 ls [.int t14]) rfl ?_
                    refine lv_iload_n hx hb dX7_odds_97 rfl (lv_at hl 2 rfl) ?_
                    obtain ⟨j104, hjd104, hF⟩ := m_jp hF
                    have hj104 : ∀ (x4_104 : Int32) (H : Heap) (locs : List Loc) (ls : Array Slot), j104 x4_104 = some t → va_P E.1 vwCl (One_c E a (One_forecast_s wy_54 t11)) H → va_D A (One_c E a (One_forecast_s wy_54 t11)) → va_S A s.heap H locs → lv_has ls 6 [(0, .ref (Onea_self a)), (1, .int x0), (2, .int x1), (3, .int x2), (4, .int x4_104), (5, .int y5_54)] → W p l e_ rmX7_odds s m args below meth c H locs 0 0 Q (F0 m 104 ls []) := by
                      intro x4_104 H locs ls hF hP hD hS hl
                      rw [hjd104] at hF
                      refine lv_iinc (v := (y5_54 + 1)) (lv' := [(5, .int (y5_54 + 1)), (0, .ref (Onea_self a)), (1, .int x0), (2, .int x1), (3, .int x2), (4, .int x4_104)]) hx hb dX7_odds_104 hl (k := 5) rfl rfl (by decide) rfl (fun ls hl => ?_)
                      refine lv_goto (tgt := 54) hx hb dX7_odds_107 (by decide) ?_
                      exact ih54 x4_104 (y5_54 + 1) (One_forecast_s wy_54 t11) H locs ls hF hP hD hS (lv_sub hl [1, 2, 3, 4, 5, 0] rfl)
                    clear hjd104
                    refine lv_icmp_lt (tgt := 104) hx hb dX7_odds_98 (by decide) (fun c15 => ?_) (fun c15 => ?_)
                    · have hF := m_pos c15 hF
                      exact hj104 y4_54 H locs ls hF hP hD hS (lv_sub hl [0, 1, 2, 3, 4, 5] rfl)
                    · have hF := m_neg c15 hF
                      refine lv_iinc (v := (y4_54 + 1)) (lv' := [(4, .int (y4_54 + 1)), (0, .ref (Onea_self a)), (1, .int x0), (2, .int x1), (3, .int x2), (5, .int y5_54)]) hx hb dX7_odds_101 hl (k := 4) rfl rfl (by decide) rfl (fun ls hl => ?_)
                      exact hj104 (y4_54 + 1) H locs ls hF hP hD hS (lv_sub hl [1, 2, 3, 4, 0, 5] rfl)
              exact hL54 m_N 0 0 v H locs ls hF hP hD hS (lv_sub hl [2, 3, 4, 5, 1, 0] rfl)
            · have hF := m_neg (fun n9 => n9 c7) hF
              refine lv_ldc2 (v := (-9223372036854775808 : Int64)) hx hb hown k0 dX7_odds_44 ?_
              have hF := Option.some.inj hF
              subst hF
              rw [hQ]
              exact W.lret hx hb hr (fun t ht _ => ⟨⟨rfl, by rw [ht]; exact hP, hD⟩, hS.F ht⟩) hS.2.2 dX7_odds_47
          · have hF := m_neg (fun n9 => n9 c6) hF
            exact hj27 H locs ls hF hP hD hS (lv_sub hl [] rfl)

abbrev rmX7_mean : Room := { frames := 6, cells := 0, slots := 0, locals := 147 }
set_option maxRecDepth 100000 in
set_option maxHeartbeats 400000 in
theorem c_X7_mean (l : Launch) (E : mE) (a : OneA) (v : OneV) (e : LessonA) (le : LessonV) (x0 : Int32) (x1 : Int32) (t : (Int64 × OneV)) (hF : fn_X7_mean v le (Lessona_self e) x0 x1 = some t) (sz : Nat) : Met l yX7_mean wsX7_mean rmX7_mean (mPm E [.ref (Onea_self a), .int x0, .int x1] sz ((One_c E a v)) ((Lesson_c E e le))) (mSm E (some (.long t.1)) ((One_c E a t.2)) (va_A ((One_c E a v)) sz)) 0 0 (va_A ((One_c E a v)) sz) := by
  refine mOfM (cc := cX7_mean) (maxL := 3) (ret := (some .long)) (by decide) rfl (Nat.le_of_ble_eq_true rfl) ?_
  intro p e_ s m args below meth c Q A hQ CC hr hlocks hin hA hP hD hKN hGl hR0 hRA ls hl
  have hS : va_S A s.heap s.heap [] := va_S.rf
  have hK := hKN.1
  have hx := CC.1
  have hb := CC.2.1
  have hml := CC.2.2.1
  have hown : s.vm.findClass RX7 = some m.cls := CC.2.2.2.1
  have hts := CC.2.2.2.2
  have hl : lv_has ls 3 [(0, .ref (Onea_self a)), (1, .int x0), (2, .int x1)] := hl
  have k0 := hts (.constantLong RX7 214 (-9223372036854775808)) (by decide +kernel)
  have k1 := hts (.fieldLink RX7 12 "OneDidAll" "now" "LOneDidAll$Room;") (by decide +kernel)
  have k2 := (show ∀ w ∈ u_ws RX7 TX7 5, w ∈ wsX7_mean by decide +kernel)
  have k3 := (va_Nw.use rfl (hKN.2.1 ("OneDidAll", 74, "OneDidAll$Room", "group", "LOneDidAll$Group;", "OneDidAll") (by decide +kernel)) : (Cond.fieldLinkNest "OneDidAll" 74 "OneDidAll$Room" "group" "LOneDidAll$Group;" "OneDidAll").before args s = true)
  have k4 := (show ∀ w ∈ u_ws RX5 TX5 9, w ∈ wsX7_mean by decide +kernel)
  have k5 := (va_Nw.use rfl (hKN.2.1 ("OneDidAll", 78, "OneDidAll$Group", "size", "I", "OneDidAll") (by decide +kernel)) : (Cond.fieldLinkNest "OneDidAll" 78 "OneDidAll$Group" "size" "I" "OneDidAll").before args s = true)
  have k6 := (show ∀ w ∈ u_ws RX2 TX2 11, w ∈ wsX7_mean by decide +kernel)
  have k7 := hts (.fieldLink RX7 28 "OneDidAll" "forecast" "LOneDidAll$Forecast;") (by decide +kernel)
  have hP : va_P E.1 vwCl (One_c E a v) s.heap := hP
  obtain ⟨H, hH⟩ : ∃ H, H = s.heap := ⟨_, rfl⟩
  obtain ⟨locs, hlc⟩ : ∃ z : List Loc, z = [] := ⟨_, rfl⟩
  rw [← hH] at hP
  rw [← hlc] at hS
  have hS : va_S A s.heap H locs := by rw [hH]; exact hS
  rw [← hH, ← hlc]
  unfold fn_X7_mean at hF
  refine lv_iload_n hx hb dX7_mean_0 rfl (lv_at hl 1 rfl) ?_
  obtain ⟨j17, hjd17, hF⟩ := m_jp hF
  have hj17 : ∀ (H : Heap) (locs : List Loc) (ls : Array Slot), j17 () = some t → va_P E.1 vwCl (One_c E a v) H → va_D A (One_c E a v) → va_S A s.heap H locs → lv_has ls 3 [] → W p l e_ rmX7_mean s m args below meth c H locs 0 0 Q (F0 m 17 ls []) := by
    intro H locs ls hF hP hD hS hl
    rw [hjd17] at hF
    refine lv_ldc2 (v := (-9223372036854775808 : Int64)) hx hb hown k0 dX7_mean_17 ?_
    have hF := Option.some.inj hF
    subst hF
    rw [hQ]
    exact W.lret hx hb hr (fun t ht _ => ⟨⟨rfl, by rw [ht]; exact hP, hD⟩, hS.F ht⟩) hS.2.2 dX7_mean_20
  clear hjd17
  refine lv_if_lt (tgt := 17) hx hb dX7_mean_1 (by decide) (fun c1 => ?_) (fun c1 => ?_)
  · have hF := m_pos c1 hF
    exact hj17 H locs ls hF hP hD hS (lv_sub hl [] rfl)
  · have hF := m_neg c1 hF
    refine lv_iload_n hx hb dX7_mean_4 rfl (lv_at hl 1 rfl) ?_
    refine lv_bipush (v := 60) hx hb dX7_mean_5 (by decide) ?_
    refine lv_icmp_gt (tgt := 17) hx hb dX7_mean_7 (by decide) (fun c2 => ?_) (fun c2 => ?_)
    · have hF := m_pos c2 hF
      exact hj17 H locs ls hF hP hD hS (lv_sub hl [] rfl)
    · have hF := m_neg c2 hF
      refine lv_iload_n hx hb dX7_mean_10 rfl (lv_at hl 2 rfl) ?_
      obtain ⟨t3, ht3, hF⟩ := m_bnd hF
      refine mSP (n := 1) (rest := []) (As := [.int x1]) CC hKN hGl hS (c_X7_isPart l E x1 t3 ht3) gX7_mean_X7_isPart rfl ⟨rfl, rfl⟩ (by decide +kernel) ⟨Nat.le_of_ble_eq_true rfl, Nat.le_of_ble_eq_true rfl⟩ m_nil rfl hl.1 rfl (Nat.le_of_ble_eq_true rfl) ⟨Nat.zero_le _, Nat.zero_le _⟩ dX7_mean_11 ?_
      refine W.eq (g2 := F0 m 14 ls [.int t3]) rfl ?_
      refine lv_if_ne (tgt := 21) hx hb dX7_mean_14 (by decide) (fun c4 => ?_) (fun c4 => ?_)
      · have hF := m_pos c4 hF
        refine lv_aload_n hx hb dX7_mean_21 rfl (lv_at hl 0 rfl) ?_
        refine va_get (D := E.1) (ci := 7) (v := .ref (Rooma_self (Onea_now a))) (C := RX7) (T := TX7) (N := 5) hx hb hts k2 hown hK hP 0 rfl rfl 0 (by decide) k1 (fun _ h9 => h9) rfl dX7_mean_22 ?_
        refine va_getN (D := E.1) (ci := 5) (v := .ref (Groupa_self (Rooma_group (Onea_now a)))) (C := RX5) (T := TX5) (N := 9) hx hb hts k4 hown hK hP 1 rfl rfl 0 (by decide) k3 (fun _ h9 => h9) rfl dX7_mean_25 ?_
        refine va_getN (D := E.1) (ci := 2) (v := .int (Group_size (Room_group (One_now v)))) (C := RX2) (T := TX2) (N := 11) hx hb hts k6 hown hK hP 2 rfl rfl 0 (by decide) k5 (fun _ h9 => h9) rfl dX7_mean_28 ?_
        refine lv_if_ne (tgt := 38) hx hb dX7_mean_31 (by decide) (fun c5 => ?_) (fun c5 => ?_)
        · have hF := m_pos c5 hF
          refine lv_aload_n hx hb dX7_mean_38 rfl (lv_at hl 0 rfl) ?_
          refine va_get (D := E.1) (ci := 7) (v := .ref (Forecasta_self (Onea_forecast a))) (C := RX7) (T := TX7) (N := 5) hx hb hts k2 hown hK hP 0 rfl rfl 3 (by decide) k7 (fun _ h9 => h9) rfl dX7_mean_39 ?_
          refine lv_aload_n hx hb dX7_mean_42 rfl (lv_at hl 0 rfl) ?_
          refine va_get (D := E.1) (ci := 7) (v := .ref (Rooma_self (Onea_now a))) (C := RX7) (T := TX7) (N := 5) hx hb hts k2 hown hK hP 0 rfl rfl 0 (by decide) k1 (fun _ h9 => h9) rfl dX7_mean_43 ?_
          obtain ⟨t6, ht6, hF⟩ := m_bnd hF
          have hpm : List.Perm (One_c E a v) (((Forecast_c E (Onea_forecast a) (One_forecast v)) ++ (Room_c E (Onea_now a) (One_now v))) ++ ((List.take 1 (One_c E a v)) ++ ((List.take 21 (List.drop 22 (One_c E a v))) ++ (List.drop 62 (One_c E a v))))) := m_p2s (A := (List.take 1 (One_c E a v))) (m1 := (Room_c E (Onea_now a) (One_now v))) (B := (List.take 21 (List.drop 22 (One_c E a v)))) (m2 := (Forecast_c E (Onea_forecast a) (One_forecast v))) (C := (List.drop 62 (One_c E a v)))
          obtain ⟨hPc, hDc, hFc⟩ := m_pre hpm hP hD hS hA
          refine mVM (ci := 1) (n := 1) (rest := []) (As := [.ref (Rooma_self (Onea_now a))]) CC hKN hGl (c_X1_begin l E (Onea_forecast a) (One_forecast v) (Onea_now a) (One_now v) t6 ht6 _) gX7_mean_X1_begin rfl ⟨rfl, rfl⟩ (by decide +kernel) ⟨Nat.le_of_ble_eq_true rfl, Nat.le_of_ble_eq_true rfl⟩ hPc hDc m_nil m_nilA hS hFc rfl rfl rfl rfl hl.1 rfl (Nat.le_of_ble_eq_true rfl) ⟨Nat.zero_le _, Nat.zero_le _⟩ dX7_mean_46 (fun H1 locs hP1 hD1 hz1 hk1 hS => ?_)
          have hpn : List.Perm (One_c E a (One_forecast_s v t6)) (((Forecast_c E (Onea_forecast a) t6) ++ (Room_c E (Onea_now a) (One_now v))) ++ ((List.take 1 (One_c E a v)) ++ ((List.take 21 (List.drop 22 (One_c E a v))) ++ (List.drop 62 (One_c E a v))))) := m_p2s (A := (List.take 1 (One_c E a v))) (m1 := (Room_c E (Onea_now a) (One_now v))) (B := (List.take 21 (List.drop 22 (One_c E a v)))) (m2 := (Forecast_c E (Onea_forecast a) t6)) (C := (List.drop 62 (One_c E a v)))
          obtain ⟨hP, hD⟩ := m_spl hpm hpn hP hD hk1 hFc hP1 hD1
          generalize H1 = H at hP hS ⊢
          refine W.eq (g2 := F0 m 49 ls []) rfl ?_
          refine lv_aload_n hx hb dX7_mean_49 rfl (lv_at hl 0 rfl) ?_
          refine va_get (D := E.1) (ci := 7) (v := .ref (Forecasta_self (Onea_forecast a))) (C := RX7) (T := TX7) (N := 5) hx hb hts k2 hown hK hP 0 rfl rfl 3 (by decide) k7 (fun _ h9 => h9) rfl dX7_mean_50 ?_
          refine lv_iload_n hx hb dX7_mean_53 rfl (lv_at hl 1 rfl) ?_
          obtain ⟨t7, ht7, hF⟩ := m_bnd hF
          have hpm : List.Perm (One_c E a (One_forecast_s v t6)) ((Forecast_c E (Onea_forecast a) t6) ++ ((List.take 43 (One_c E a (One_forecast_s v t6))) ++ (List.drop 62 (One_c E a (One_forecast_s v t6))))) := m_p1 (A := (List.take 43 (One_c E a (One_forecast_s v t6)))) (m := (Forecast_c E (Onea_forecast a) t6)) (C := (List.drop 62 (One_c E a (One_forecast_s v t6))))
          obtain ⟨hPc, hDc, hFc⟩ := m_pre hpm hP hD hS hA
          have hp8 := (m_ro hR0 hRA hS).sub (ws' := Lesson_c E e le) [0, 1, 2, 3] rfl
          have ha9 := m_roA (wr := Lesson_c E e le) hRA hFc [0, 1, 2, 3] rfl
          refine mVM (ci := 1) (n := 1) (rest := []) (As := [.int x0]) CC hKN hGl (c_X1_go l E (Onea_forecast a) t6 e le x0 t7 ht7 _) gX7_mean_X1_go rfl ⟨rfl, rfl⟩ (by decide +kernel) ⟨Nat.le_of_ble_eq_true rfl, Nat.le_of_ble_eq_true rfl⟩ hPc hDc hp8 ha9 hS hFc rfl rfl rfl rfl hl.1 rfl (Nat.le_of_ble_eq_true rfl) ⟨Nat.zero_le _, Nat.zero_le _⟩ dX7_mean_54 (fun H1 locs hP1 hD1 hz1 hk1 hS => ?_)
          have hpn : List.Perm (One_c E a (One_forecast_s v t7)) ((Forecast_c E (Onea_forecast a) t7) ++ ((List.take 43 (One_c E a (One_forecast_s v t6))) ++ (List.drop 62 (One_c E a (One_forecast_s v t6))))) := m_p1 (A := (List.take 43 (One_c E a (One_forecast_s v t6)))) (m := (Forecast_c E (Onea_forecast a) t7)) (C := (List.drop 62 (One_c E a (One_forecast_s v t6))))
          obtain ⟨hP, hD⟩ := m_spl hpm hpn hP hD hk1 hFc hP1 hD1
          generalize H1 = H at hP hS ⊢
          refine W.eq (g2 := F0 m 57 ls []) rfl ?_
          refine lv_aload_n hx hb dX7_mean_57 rfl (lv_at hl 0 rfl) ?_
          refine va_get (D := E.1) (ci := 7) (v := .ref (Forecasta_self (Onea_forecast a))) (C := RX7) (T := TX7) (N := 5) hx hb hts k2 hown hK hP 0 rfl rfl 3 (by decide) k7 (fun _ h9 => h9) rfl dX7_mean_58 ?_
          obtain ⟨t10, ht10, hF⟩ := m_bnd hF
          have hPc := m_cutP (mid := (Forecast_c E (Onea_forecast a) t7)) hP 43 19 rfl
          refine mVP (ci := 1) (n := 0) (rest := []) (As := []) CC hKN hGl hS (c_X1_hoursMore l E (Onea_forecast a) t7 t10 ht10) gX7_mean_X1_hoursMore rfl ⟨rfl, rfl⟩ (by decide +kernel) ⟨Nat.le_of_ble_eq_true rfl, Nat.le_of_ble_eq_true rfl⟩ hPc rfl rfl rfl rfl hl.1 rfl (Nat.le_of_ble_eq_true rfl) ⟨Nat.zero_le _, Nat.zero_le _⟩ dX7_mean_61 ?_
          refine W.eq (g2 := F0 m 64 ls [.int t10]) rfl ?_
          refine lv_i2l (v := (t10).toInt64) hx hb dX7_mean_64 rfl ?_
          refine lv_aload_n hx hb dX7_mean_65 rfl (lv_at hl 0 rfl) ?_
          refine va_get (D := E.1) (ci := 7) (v := .ref (Rooma_self (Onea_now a))) (C := RX7) (T := TX7) (N := 5) hx hb hts k2 hown hK hP 0 rfl rfl 0 (by decide) k1 (fun _ h9 => h9) rfl dX7_mean_66 ?_
          refine va_getN (D := E.1) (ci := 5) (v := .ref (Groupa_self (Rooma_group (Onea_now a)))) (C := RX5) (T := TX5) (N := 9) hx hb hts k4 hown hK hP 1 rfl rfl 0 (by decide) k3 (fun _ h9 => h9) rfl dX7_mean_69 ?_
          refine va_getN (D := E.1) (ci := 2) (v := .int (Group_size (Room_group (One_now v)))) (C := RX2) (T := TX2) (N := 11) hx hb hts k6 hown hK hP 2 rfl rfl 0 (by decide) k5 (fun _ h9 => h9) rfl dX7_mean_72 ?_
          refine lv_i2l (v := ((Group_size (Room_group (One_now v)))).toInt64) hx hb dX7_mean_75 rfl ?_
          refine lv_iload_n hx hb dX7_mean_76 rfl (lv_at hl 2 rfl) ?_
          obtain ⟨t11, ht11, hF⟩ := m_bnd hF
          refine mSP (n := 3) (rest := []) (As := [.long (t10).toInt64, .long ((Group_size (Room_group (One_now v)))).toInt64, .int x1]) CC hKN hGl hS (c_X7_inLowestTerms l E (t10).toInt64 ((Group_size (Room_group (One_now v)))).toInt64 x1 t11 ht11) gX7_mean_X7_inLowestTerms rfl ⟨rfl, rfl⟩ (by decide +kernel) ⟨Nat.le_of_ble_eq_true rfl, Nat.le_of_ble_eq_true rfl⟩ m_nil rfl hl.1 rfl (Nat.le_of_ble_eq_true rfl) ⟨Nat.zero_le _, Nat.zero_le _⟩ dX7_mean_77 ?_
          refine W.eq (g2 := F0 m 80 ls [.long t11]) rfl ?_
          have hF := Option.some.inj hF
          subst hF
          rw [hQ]
          exact W.lret hx hb hr (fun t ht _ => ⟨⟨rfl, by rw [ht]; exact hP, hD⟩, hS.F ht⟩) hS.2.2 dX7_mean_80
        · have hF := m_neg (fun n9 => n9 c5) hF
          refine lv_ldc2 (v := (-9223372036854775808 : Int64)) hx hb hown k0 dX7_mean_34 ?_
          have hF := Option.some.inj hF
          subst hF
          rw [hQ]
          exact W.lret hx hb hr (fun t ht _ => ⟨⟨rfl, by rw [ht]; exact hP, hD⟩, hS.F ht⟩) hS.2.2 dX7_mean_37
      · have hF := m_neg (fun n9 => n9 c4) hF
        exact hj17 H locs ls hF hP hD hS (lv_sub hl [] rfl)

abbrev rmX7_done : Room := { frames := 6, cells := 0, slots := 0, locals := 150 }
set_option maxRecDepth 100000 in
set_option maxHeartbeats 400000 in
theorem c_X7_done (l : Launch) (E : mE) (a : OneA) (v : OneV) (e : LessonA) (le : LessonV) (x0 : Int32) (t : (Int32 × OneV)) (hF : fn_X7_done v le (Lessona_self e) x0 = some t) (sz : Nat) : Met l yX7_done wsX7_done rmX7_done (mPm E [.ref (Onea_self a), .int x0] sz ((One_c E a v)) ((Lesson_c E e le))) (mSm E (some (.int t.1)) ((One_c E a t.2)) (va_A ((One_c E a v)) sz)) 0 0 (va_A ((One_c E a v)) sz) := by
  refine mOfM (cc := cX7_done) (maxL := 2) (ret := (some .int)) (by decide) rfl (Nat.le_of_ble_eq_true rfl) ?_
  intro p e_ s m args below meth c Q A hQ CC hr hlocks hin hA hP hD hKN hGl hR0 hRA ls hl
  have hS : va_S A s.heap s.heap [] := va_S.rf
  have hK := hKN.1
  have hx := CC.1
  have hb := CC.2.1
  have hml := CC.2.2.1
  have hown : s.vm.findClass RX7 = some m.cls := CC.2.2.2.1
  have hts := CC.2.2.2.2
  have hl : lv_has ls 2 [(0, .ref (Onea_self a)), (1, .int x0)] := hl
  have k0 := hts (.fieldLink RX7 28 "OneDidAll" "forecast" "LOneDidAll$Forecast;") (by decide +kernel)
  have k1 := (show ∀ w ∈ u_ws RX7 TX7 5, w ∈ wsX7_done by decide +kernel)
  have k2 := hts (.fieldLink RX7 12 "OneDidAll" "now" "LOneDidAll$Room;") (by decide +kernel)
  have k3 := (va_Nw.use rfl (hKN.2.1 ("OneDidAll", 245, "OneDidAll$Room", "plan", "LOneDidAll$Rows;", "OneDidAll") (by decide +kernel)) : (Cond.fieldLinkNest "OneDidAll" 245 "OneDidAll$Room" "plan" "LOneDidAll$Rows;" "OneDidAll").before args s = true)
  have k4 := (show ∀ w ∈ u_ws RX5 TX5 9, w ∈ wsX7_done by decide +kernel)
  have hP : va_P E.1 vwCl (One_c E a v) s.heap := hP
  obtain ⟨H, hH⟩ : ∃ H, H = s.heap := ⟨_, rfl⟩
  obtain ⟨locs, hlc⟩ : ∃ z : List Loc, z = [] := ⟨_, rfl⟩
  rw [← hH] at hP
  rw [← hlc] at hS
  have hS : va_S A s.heap H locs := by rw [hH]; exact hS
  rw [← hH, ← hlc]
  unfold fn_X7_done at hF
  refine lv_iload_n hx hb dX7_done_0 rfl (lv_at hl 1 rfl) ?_
  obtain ⟨j11, hjd11, hF⟩ := m_jp hF
  have hj11 : ∀ (H : Heap) (locs : List Loc) (ls : Array Slot), j11 () = some t → va_P E.1 vwCl (One_c E a v) H → va_D A (One_c E a v) → va_S A s.heap H locs → lv_has ls 2 [(0, .ref (Onea_self a)), (1, .int x0)] → W p l e_ rmX7_done s m args below meth c H locs 0 0 Q (F0 m 11 ls []) := by
    intro H locs ls hF hP hD hS hl
    rw [hjd11] at hF
    refine lv_aload_n hx hb dX7_done_11 rfl (lv_at hl 0 rfl) ?_
    refine va_get (D := E.1) (ci := 7) (v := .ref (Forecasta_self (Onea_forecast a))) (C := RX7) (T := TX7) (N := 5) hx hb hts k1 hown hK hP 0 rfl rfl 3 (by decide) k0 (fun _ h9 => h9) rfl dX7_done_12 ?_
    refine lv_aload_n hx hb dX7_done_15 rfl (lv_at hl 0 rfl) ?_
    refine va_get (D := E.1) (ci := 7) (v := .ref (Rooma_self (Onea_now a))) (C := RX7) (T := TX7) (N := 5) hx hb hts k1 hown hK hP 0 rfl rfl 0 (by decide) k2 (fun _ h9 => h9) rfl dX7_done_16 ?_
    obtain ⟨t1, ht1, hF⟩ := m_bnd hF
    have hpm : List.Perm (One_c E a v) (((Forecast_c E (Onea_forecast a) (One_forecast v)) ++ (Room_c E (Onea_now a) (One_now v))) ++ ((List.take 1 (One_c E a v)) ++ ((List.take 21 (List.drop 22 (One_c E a v))) ++ (List.drop 62 (One_c E a v))))) := m_p2s (A := (List.take 1 (One_c E a v))) (m1 := (Room_c E (Onea_now a) (One_now v))) (B := (List.take 21 (List.drop 22 (One_c E a v)))) (m2 := (Forecast_c E (Onea_forecast a) (One_forecast v))) (C := (List.drop 62 (One_c E a v)))
    obtain ⟨hPc, hDc, hFc⟩ := m_pre hpm hP hD hS hA
    refine mVM (ci := 1) (n := 1) (rest := []) (As := [.ref (Rooma_self (Onea_now a))]) CC hKN hGl (c_X1_begin l E (Onea_forecast a) (One_forecast v) (Onea_now a) (One_now v) t1 ht1 _) gX7_done_X1_begin rfl ⟨rfl, rfl⟩ (by decide +kernel) ⟨Nat.le_of_ble_eq_true rfl, Nat.le_of_ble_eq_true rfl⟩ hPc hDc m_nil m_nilA hS hFc rfl rfl rfl rfl hl.1 rfl (Nat.le_of_ble_eq_true rfl) ⟨Nat.zero_le _, Nat.zero_le _⟩ dX7_done_19 (fun H1 locs hP1 hD1 hz1 hk1 hS => ?_)
    have hpn : List.Perm (One_c E a (One_forecast_s v t1)) (((Forecast_c E (Onea_forecast a) t1) ++ (Room_c E (Onea_now a) (One_now v))) ++ ((List.take 1 (One_c E a v)) ++ ((List.take 21 (List.drop 22 (One_c E a v))) ++ (List.drop 62 (One_c E a v))))) := m_p2s (A := (List.take 1 (One_c E a v))) (m1 := (Room_c E (Onea_now a) (One_now v))) (B := (List.take 21 (List.drop 22 (One_c E a v)))) (m2 := (Forecast_c E (Onea_forecast a) t1)) (C := (List.drop 62 (One_c E a v)))
    obtain ⟨hP, hD⟩ := m_spl hpm hpn hP hD hk1 hFc hP1 hD1
    generalize H1 = H at hP hS ⊢
    refine W.eq (g2 := F0 m 22 ls []) rfl ?_
    refine lv_aload_n hx hb dX7_done_22 rfl (lv_at hl 0 rfl) ?_
    refine va_get (D := E.1) (ci := 7) (v := .ref (Forecasta_self (Onea_forecast a))) (C := RX7) (T := TX7) (N := 5) hx hb hts k1 hown hK hP 0 rfl rfl 3 (by decide) k0 (fun _ h9 => h9) rfl dX7_done_23 ?_
    refine lv_aload_n hx hb dX7_done_26 rfl (lv_at hl 0 rfl) ?_
    refine va_get (D := E.1) (ci := 7) (v := .ref (Rooma_self (Onea_now a))) (C := RX7) (T := TX7) (N := 5) hx hb hts k1 hown hK hP 0 rfl rfl 0 (by decide) k2 (fun _ h9 => h9) rfl dX7_done_27 ?_
    refine va_getN (D := E.1) (ci := 5) (v := .ref (Rowsa_self (Rooma_plan (Onea_now a)))) (C := RX5) (T := TX5) (N := 9) hx hb hts k4 hown hK hP 1 rfl rfl 7 (by decide) k3 (fun _ h9 => h9) rfl dX7_done_30 ?_
    obtain ⟨t2, ht2, hF⟩ := m_bnd hF
    have hpm : List.Perm (One_c E a (One_forecast_s v t1)) ((Forecast_c E (Onea_forecast a) t1) ++ ((List.take 43 (One_c E a (One_forecast_s v t1))) ++ (List.drop 62 (One_c E a (One_forecast_s v t1))))) := m_p1 (A := (List.take 43 (One_c E a (One_forecast_s v t1)))) (m := (Forecast_c E (Onea_forecast a) t1)) (C := (List.drop 62 (One_c E a (One_forecast_s v t1))))
    obtain ⟨hPc, hDc, hFc⟩ := m_pre hpm hP hD hS hA
    have hp3 := m_cutP (mid := Rows_c E (Rooma_plan (Onea_now a)) (Room_plan (One_now v))) hP 16 3 rfl
    have ha4 := m_apart2 (wr := Rows_c E (Rooma_plan (Onea_now a)) (Room_plan (One_now v))) hpm hP hD 16 3 rfl
    have hp5 := (m_ro hR0 hRA hS).sub (ws' := Lesson_c E e le) [0, 1, 2, 3] rfl
    have ha6 := m_roA (wr := Lesson_c E e le) hRA hFc [0, 1, 2, 3] rfl
    refine mVM (ci := 1) (n := 1) (rest := []) (As := [.ref (Rowsa_self (Rooma_plan (Onea_now a)))]) CC hKN hGl (c_X1_follow l E (Onea_forecast a) t1 (Rooma_plan (Onea_now a)) (Room_plan (One_now v)) e le t2 ht2 _) gX7_done_X1_follow rfl ⟨rfl, rfl⟩ (by decide +kernel) ⟨Nat.le_of_ble_eq_true rfl, Nat.le_of_ble_eq_true rfl⟩ hPc hDc (va_P.app hp3 hp5) (m_appA ha4 ha6) hS hFc rfl rfl rfl rfl hl.1 rfl (Nat.le_of_ble_eq_true rfl) ⟨Nat.zero_le _, Nat.zero_le _⟩ dX7_done_33 (fun H1 locs hP1 hD1 hz1 hk1 hS => ?_)
    have hpn : List.Perm (One_c E a (One_forecast_s v t2)) ((Forecast_c E (Onea_forecast a) t2) ++ ((List.take 43 (One_c E a (One_forecast_s v t1))) ++ (List.drop 62 (One_c E a (One_forecast_s v t1))))) := m_p1 (A := (List.take 43 (One_c E a (One_forecast_s v t1)))) (m := (Forecast_c E (Onea_forecast a) t2)) (C := (List.drop 62 (One_c E a (One_forecast_s v t1))))
    obtain ⟨hP, hD⟩ := m_spl hpm hpn hP hD hk1 hFc hP1 hD1
    generalize H1 = H at hP hS ⊢
    refine W.eq (g2 := F0 m 36 ls []) rfl ?_
    refine lv_iload_n hx hb dX7_done_36 rfl (lv_at hl 1 rfl) ?_
    refine lv_if_ne (tgt := 50) hx hb dX7_done_37 (by decide) (fun c7 => ?_) (fun c7 => ?_)
    · have hF := m_pos c7 hF
      refine lv_aload_n hx hb dX7_done_50 rfl (lv_at hl 0 rfl) ?_
      refine va_get (D := E.1) (ci := 7) (v := .ref (Forecasta_self (Onea_forecast a))) (C := RX7) (T := TX7) (N := 5) hx hb hts k1 hown hK hP 0 rfl rfl 3 (by decide) k0 (fun _ h9 => h9) rfl dX7_done_51 ?_
      obtain ⟨t8, ht8, hF⟩ := m_bnd hF
      have hPc := m_cutP (mid := (Forecast_c E (Onea_forecast a) t2)) hP 43 19 rfl
      refine mVP (ci := 1) (n := 0) (rest := []) (As := []) CC hKN hGl hS (c_X1_hoursMore l E (Onea_forecast a) t2 t8 ht8) gX7_done_X1_hoursMore rfl ⟨rfl, rfl⟩ (by decide +kernel) ⟨Nat.le_of_ble_eq_true rfl, Nat.le_of_ble_eq_true rfl⟩ hPc rfl rfl rfl rfl hl.1 rfl (Nat.le_of_ble_eq_true rfl) ⟨Nat.zero_le _, Nat.zero_le _⟩ dX7_done_54 ?_
      refine W.eq (g2 := F0 m 57 ls [.int t8]) rfl ?_
      have hF := Option.some.inj hF
      subst hF
      rw [hQ]
      exact W.iret hx hb hr (fun t ht _ => ⟨⟨rfl, by rw [ht]; exact hP, hD⟩, hS.F ht⟩) hS.2.2 dX7_done_57
    · have hF := m_neg (fun n9 => n9 c7) hF
      refine lv_aload_n hx hb dX7_done_40 rfl (lv_at hl 0 rfl) ?_
      refine va_get (D := E.1) (ci := 7) (v := .ref (Forecasta_self (Onea_forecast a))) (C := RX7) (T := TX7) (N := 5) hx hb hts k1 hown hK hP 0 rfl rfl 3 (by decide) k0 (fun _ h9 => h9) rfl dX7_done_41 ?_
      obtain ⟨t9, ht9, hF⟩ := m_bnd hF
      have hPc := m_cutP (mid := (Forecast_c E (Onea_forecast a) t2)) hP 43 19 rfl
      refine mVP (ci := 1) (n := 0) (rest := []) (As := []) CC hKN hGl hS (c_X1_workMore l E (Onea_forecast a) t2 t9 ht9) gX7_done_X1_workMore rfl ⟨rfl, rfl⟩ (by decide +kernel) ⟨Nat.le_of_ble_eq_true rfl, Nat.le_of_ble_eq_true rfl⟩ hPc rfl rfl rfl rfl hl.1 rfl (Nat.le_of_ble_eq_true rfl) ⟨Nat.zero_le _, Nat.zero_le _⟩ dX7_done_44 ?_
      refine W.eq (g2 := F0 m 47 ls [.int t9]) rfl ?_
      refine lv_goto (tgt := 57) hx hb dX7_done_47 (by decide) ?_
      have hF := Option.some.inj hF
      subst hF
      rw [hQ]
      exact W.iret hx hb hr (fun t ht _ => ⟨⟨rfl, by rw [ht]; exact hP, hD⟩, hS.F ht⟩) hS.2.2 dX7_done_57
  clear hjd11
  refine lv_if_eq (tgt := 11) hx hb dX7_done_1 (by decide) (fun c10 => ?_) (fun c10 => ?_)
  · have hF := m_pos c10 hF
    exact hj11 H locs ls hF hP hD hS (lv_sub hl [0, 1] rfl)
  · have hF := m_neg c10 hF
    refine lv_iload_n hx hb dX7_done_4 rfl (lv_at hl 1 rfl) ?_
    refine lv_iconst (v := 1) hx hb dX7_done_5 (by decide) ?_
    refine lv_icmp_eq (tgt := 11) hx hb dX7_done_6 (by decide) (fun c11 => ?_) (fun c11 => ?_)
    · have hF := m_pos c11 hF
      exact hj11 H locs ls hF hP hD hS (lv_sub hl [0, 1] rfl)
    · have hF := m_neg c11 hF
      refine lv_iconst (v := (-1)) hx hb dX7_done_9 (by decide) ?_
      have hF := Option.some.inj hF
      subst hF
      rw [hQ]
      exact W.iret hx hb hr (fun t ht _ => ⟨⟨rfl, by rw [ht]; exact hP, hD⟩, hS.F ht⟩) hS.2.2 dX7_done_10

