abbrev rmX6_copyFrom : Room := { frames := 2, cells := 0, slots := 0, locals := 42 }
set_option maxRecDepth 100000 in
set_option maxHeartbeats 400000 in
theorem c_X6_copyFrom (l : Launch) (E : mE) (a : RowsA) (v : RowsV) (a0 : RowsA) (v0 : RowsV) (t : RowsV) (hF : fn_X6_copyFrom v v0 = some t) (sz : Nat) : Met l yX6_copyFrom wsX6_copyFrom rmX6_copyFrom (mPm E [.ref (Rowsa_self a), .ref (Rowsa_self a0)] sz (((Rows_c E a v) ++ (Rows_c E a0 v0))) (([] : va_W))) (mSm E (none) (((Rows_c E a t) ++ (Rows_c E a0 v0))) (va_A (((Rows_c E a v) ++ (Rows_c E a0 v0))) sz)) 0 0 (va_A (((Rows_c E a v) ++ (Rows_c E a0 v0))) sz) := by
  refine mOfM (cc := cX6_copyFrom) (maxL := 3) (ret := none) (by decide) rfl (Nat.le_of_ble_eq_true rfl) ?_
  intro p e_ s m args below meth c Q A hQ CC hr hlocks hin hA hP hD hKN hGl hR0 hRA ls hl
  have hS : va_S A s.heap s.heap [] := va_S.rf
  have hK := hKN.1
  have hx := CC.1
  have hb := CC.2.1
  have hml := CC.2.2.1
  have hown : s.vm.findClass RX6 = some m.cls := CC.2.2.2.1
  have hts := CC.2.2.2.2
  have hl : lv_has ls 3 [(0, .ref (Rowsa_self a)), (1, .ref (Rowsa_self a0))] := hl
  have k0 := hts (.fieldLink RX6 7 "OneDidAll$Rows" "size" "I") (by decide +kernel)
  have k1 := (show ∀ w ∈ u_ws RX6 TX6 3, w ∈ wsX6_copyFrom by decide +kernel)
  have k2 := hts (.fieldLink RX6 19 "OneDidAll$Rows" "firsts" "[I") (by decide +kernel)
  have k3 := hts (.fieldLink RX6 23 "OneDidAll$Rows" "seconds" "[I") (by decide +kernel)
  have hP : va_P E.1 vwCl ((Rows_c E a v) ++ (Rows_c E a0 v0)) s.heap := hP
  obtain ⟨H, hH⟩ : ∃ H, H = s.heap := ⟨_, rfl⟩
  obtain ⟨locs, hlc⟩ : ∃ z : List Loc, z = [] := ⟨_, rfl⟩
  rw [← hH] at hP
  rw [← hlc] at hS
  have hS : va_S A s.heap H locs := by rw [hH]; exact hS
  rw [← hH, ← hlc]
  unfold fn_X6_copyFrom at hF
  refine lv_aload_n hx hb dX6_copyFrom_0 rfl (lv_at hl 0 rfl) ?_
  refine lv_iconst (v := 0) hx hb dX6_copyFrom_1 (by decide) ?_
  refine va_put (D := E.1) (ci := 6) (v := .int 0) (ty := .int) (C := RX6) (T := TX6) (N := 3) hx hb hts k1 tyX6 tyX6_ok nmX6 hown hK hP hD hS 0 rfl rfl 2 (by decide) k0 (fun _ h9 => h9) rfl (by decide +kernel) rfl rfl (Nat.le_of_ble_eq_true rfl) dX6_copyFrom_2 (fun H locs hP hD hS => ?_)
  have hP : va_P E.1 vwCl ((Rows_c E a (Rows_size_s v 0)) ++ (Rows_c E a0 v0)) H := hP
  have hD : va_D A ((Rows_c E a (Rows_size_s v 0)) ++ (Rows_c E a0 v0)) := hD
  refine lv_iconst (v := 0) hx hb dX6_copyFrom_5 (by decide) ?_
  refine lv_istore_n (lv' := [(2, .int 0), (0, .ref (Rowsa_self a)), (1, .ref (Rowsa_self a0))]) hx hb dX6_copyFrom_6 rfl hl (by decide) rfl (fun ls hl => ?_)
  have hL7 : ∀ (n : Nat) (y2_7 : Int32) (wy_7 : RowsV) (H : Heap) (locs : List Loc) (ls : Array Slot), lp_X6_copyFrom_7 v0 n y2_7 wy_7 = some t → va_P E.1 vwCl ((Rows_c E a wy_7) ++ (Rows_c E a0 v0)) H → va_D A ((Rows_c E a wy_7) ++ (Rows_c E a0 v0)) → va_S A s.heap H locs → lv_has ls 3 [(0, .ref (Rowsa_self a)), (1, .ref (Rowsa_self a0)), (2, .int y2_7)] → W p l e_ rmX6_copyFrom s m args below meth c H locs 0 0 Q (F0 m 7 ls []) := by
    intro n
    induction n with
    | zero =>
      intro y2_7 wy_7 H locs ls hF
      exact nomatch (show (none : Option RowsV) = some t from hF)
    | succ n ih7 =>
      intro y2_7 wy_7 H locs ls hF hP hD hS hl
      have hF : st_X6_copyFrom_7 v0 (lp_X6_copyFrom_7 v0 n) y2_7 wy_7 = some t := hF
      unfold st_X6_copyFrom_7 at hF
      refine lv_iload_n hx hb dX6_copyFrom_7 rfl (lv_at hl 2 rfl) ?_
      refine lv_aload_n hx hb dX6_copyFrom_8 rfl (lv_at hl 1 rfl) ?_
      refine va_get (D := E.1) (ci := 6) (v := .int (Rows_size v0)) (C := RX6) (T := TX6) (N := 3) hx hb hts k1 hown hK hP 3 rfl rfl 2 (by decide) k0 (fun _ h9 => h9) rfl dX6_copyFrom_9 ?_
      refine lv_icmp_ge (tgt := 38) hx hb dX6_copyFrom_12 (by decide) (fun c1 => ?_) (fun c1 => ?_)
      · have hF := m_pos c1 hF
        have hF := Option.some.inj hF
        subst hF
        rw [hQ]
        exact W.vret hx hb hr (fun t ht _ => ⟨⟨rfl, by rw [ht]; exact hP, hD⟩, hS.F ht⟩) hS.2.2 dX6_copyFrom_38
      · have hF := m_neg c1 hF
        refine lv_aload_n hx hb dX6_copyFrom_15 rfl (lv_at hl 0 rfl) ?_
        refine lv_aload_n hx hb dX6_copyFrom_16 rfl (lv_at hl 1 rfl) ?_
        refine va_get (D := E.1) (ci := 6) (v := .ref (Rowsa_firsts a0)) (C := RX6) (T := TX6) (N := 3) hx hb hts k1 hown hK hP 3 rfl rfl 0 (by decide) k2 (fun _ h9 => h9) rfl dX6_copyFrom_17 ?_
        refine lv_iload_n hx hb dX6_copyFrom_20 rfl (lv_at hl 2 rfl) ?_
        obtain ⟨h2, hF⟩ := m_chk hF
        refine va_iald (f := (Rows_firsts v0)) hx hb hK hP 4 1 rfl rfl (mIn_ok h2) dX6_copyFrom_21 ?_
        refine W.eq (g2 := F0 m 22 ls [.int ((Rows_firsts v0) (y2_7).toNatClampNeg), .ref (Rowsa_self a)]) rfl ?_
        refine lv_aload_n hx hb dX6_copyFrom_22 rfl (lv_at hl 1 rfl) ?_
        refine va_get (D := E.1) (ci := 6) (v := .ref (Rowsa_seconds a0)) (C := RX6) (T := TX6) (N := 3) hx hb hts k1 hown hK hP 3 rfl rfl 1 (by decide) k3 (fun _ h9 => h9) rfl dX6_copyFrom_23 ?_
        refine lv_iload_n hx hb dX6_copyFrom_26 rfl (lv_at hl 2 rfl) ?_
        obtain ⟨h3, hF⟩ := m_chk hF
        refine va_iald (f := (Rows_seconds v0)) hx hb hK hP 5 1 rfl rfl (mIn_ok h3) dX6_copyFrom_27 ?_
        refine W.eq (g2 := F0 m 28 ls [.int ((Rows_seconds v0) (y2_7).toNatClampNeg), .int ((Rows_firsts v0) (y2_7).toNatClampNeg), .ref (Rowsa_self a)]) rfl ?_
        obtain ⟨t4, ht4, hF⟩ := m_bnd hF
        have hpm : List.Perm ((Rows_c E a wy_7) ++ (Rows_c E a0 v0)) ((Rows_c E a wy_7) ++ ((List.take 0 ((Rows_c E a wy_7) ++ (Rows_c E a0 v0))) ++ (List.drop 3 ((Rows_c E a wy_7) ++ (Rows_c E a0 v0))))) := m_p1 (A := (List.take 0 ((Rows_c E a wy_7) ++ (Rows_c E a0 v0)))) (m := (Rows_c E a wy_7)) (C := (List.drop 3 ((Rows_c E a wy_7) ++ (Rows_c E a0 v0))))
        obtain ⟨hPc, hDc, hFc⟩ := m_pre hpm hP hD hS hA
        refine mVM (ci := 6) (n := 2) (rest := []) (As := [.int ((Rows_firsts v0) (y2_7).toNatClampNeg), .int ((Rows_seconds v0) (y2_7).toNatClampNeg)]) CC hKN hGl (c_X6_add l E a wy_7 ((Rows_firsts v0) (y2_7).toNatClampNeg) ((Rows_seconds v0) (y2_7).toNatClampNeg) t4 ht4 _) gX6_copyFrom_X6_add rfl ⟨rfl, rfl⟩ (by decide +kernel) ⟨Nat.le_of_ble_eq_true rfl, Nat.le_of_ble_eq_true rfl⟩ hPc hDc m_nil m_nilA hS hFc rfl rfl rfl rfl hl.1 rfl (Nat.le_of_ble_eq_true rfl) ⟨Nat.zero_le _, Nat.zero_le _⟩ dX6_copyFrom_28 (fun H1 locs hP1 hD1 hz1 hk1 hS => ?_)
        have hpn : List.Perm ((Rows_c E a t4.2) ++ (Rows_c E a0 v0)) ((Rows_c E a t4.2) ++ ((List.take 0 ((Rows_c E a wy_7) ++ (Rows_c E a0 v0))) ++ (List.drop 3 ((Rows_c E a wy_7) ++ (Rows_c E a0 v0))))) := m_p1 (A := (List.take 0 ((Rows_c E a wy_7) ++ (Rows_c E a0 v0)))) (m := (Rows_c E a t4.2)) (C := (List.drop 3 ((Rows_c E a wy_7) ++ (Rows_c E a0 v0))))
        obtain ⟨hP, hD⟩ := m_spl hpm hpn hP hD hk1 hFc hP1 hD1
        generalize H1 = H at hP hS ⊢
        refine W.eq (g2 := F0 m 31 ls [.int t4.1]) rfl ?_
        refine lv_pop hx hb dX6_copyFrom_31 rfl ?_
        refine lv_iinc (v := (y2_7 + 1)) (lv' := [(2, .int (y2_7 + 1)), (0, .ref (Rowsa_self a)), (1, .ref (Rowsa_self a0))]) hx hb dX6_copyFrom_32 hl (k := 2) rfl rfl (by decide) rfl (fun ls hl => ?_)
        refine lv_goto (tgt := 7) hx hb dX6_copyFrom_35 (by decide) ?_
        exact ih7 (y2_7 + 1) t4.2 H locs ls hF hP hD hS (lv_sub hl [1, 2, 0] rfl)
  exact hL7 m_N 0 (Rows_size_s v 0) H locs ls hF hP hD hS (lv_sub hl [1, 2, 0] rfl)

abbrev rmX7_feed : Room := { frames := 0, cells := 0, slots := 0, locals := 0 }
set_option maxRecDepth 100000 in
set_option maxHeartbeats 400000 in
theorem c_X7_feed (l : Launch) (E : mE) (a : OneA) (v : OneV) (x0 : Int32) (t : (Int32 × OneV)) (hF : fn_X7_feed v x0 = some t) (sz : Nat) : Met l yX7_feed wsX7_feed rmX7_feed (mPm E [.ref (Onea_self a), .int x0] sz ((One_c E a v)) (([] : va_W))) (mSm E (some (.int t.1)) ((One_c E a t.2)) (va_A ((One_c E a v)) sz)) 0 0 (va_A ((One_c E a v)) sz) := by
  refine mOfM (cc := cX7_feed) (maxL := 2) (ret := (some .int)) (by decide) rfl (Nat.le_of_ble_eq_true rfl) ?_
  intro p e_ s m args below meth c Q A hQ CC hr hlocks hin hA hP hD hKN hGl hR0 hRA ls hl
  have hS : va_S A s.heap s.heap [] := va_S.rf
  have hK := hKN.1
  have hx := CC.1
  have hb := CC.2.1
  have hml := CC.2.2.1
  have hown : s.vm.findClass RX7 = some m.cls := CC.2.2.2.1
  have hts := CC.2.2.2.2
  have hl : lv_has ls 2 [(0, .ref (Onea_self a)), (1, .int x0)] := hl
  have k0 := hts (.fieldLink RX7 12 "OneDidAll" "now" "LOneDidAll$Room;") (by decide +kernel)
  have k1 := (show ∀ w ∈ u_ws RX7 TX7 5, w ∈ wsX7_feed by decide +kernel)
  have k2 := (va_Nw.use rfl (hKN.2.1 ("OneDidAll", 39, "OneDidAll$Room", "signs", "I", "OneDidAll") (by decide +kernel)) : (Cond.fieldLinkNest "OneDidAll" 39 "OneDidAll$Room" "signs" "I" "OneDidAll").before args s = true)
  have k3 := (show ∀ w ∈ u_ws RX5 TX5 9, w ∈ wsX7_feed by decide +kernel)
  have k4 := (va_Nw.use rfl (hKN.2.1 ("OneDidAll", 43, "OneDidAll$Room", "tape", "[B", "OneDidAll") (by decide +kernel)) : (Cond.fieldLinkNest "OneDidAll" 43 "OneDidAll$Room" "tape" "[B" "OneDidAll").before args s = true)
  have hP : va_P E.1 vwCl (One_c E a v) s.heap := hP
  obtain ⟨H, hH⟩ : ∃ H, H = s.heap := ⟨_, rfl⟩
  obtain ⟨locs, hlc⟩ : ∃ z : List Loc, z = [] := ⟨_, rfl⟩
  rw [← hH] at hP
  rw [← hlc] at hS
  have hS : va_S A s.heap H locs := by rw [hH]; exact hS
  rw [← hH, ← hlc]
  unfold fn_X7_feed at hF
  refine lv_iload_n hx hb dX7_feed_0 rfl (lv_at hl 1 rfl) ?_
  refine lv_if_lt (tgt := 10) hx hb dX7_feed_1 (by decide) (fun c1 => ?_) (fun c1 => ?_)
  · have hF := m_pos c1 hF
    refine lv_bipush (v := (-2)) hx hb dX7_feed_10 (by decide) ?_
    have hF := Option.some.inj hF
    subst hF
    rw [hQ]
    exact W.iret hx hb hr (fun t ht _ => ⟨⟨rfl, by rw [ht]; exact hP, hD⟩, hS.F ht⟩) hS.2.2 dX7_feed_12
  · have hF := m_neg c1 hF
    refine lv_iload_n hx hb dX7_feed_4 rfl (lv_at hl 1 rfl) ?_
    refine lv_bipush (v := 127) hx hb dX7_feed_5 (by decide) ?_
    refine lv_icmp_le (tgt := 13) hx hb dX7_feed_7 (by decide) (fun c2 => ?_) (fun c2 => ?_)
    · have hF := m_pos c2 hF
      refine lv_aload_n hx hb dX7_feed_13 rfl (lv_at hl 0 rfl) ?_
      refine va_get (D := E.1) (ci := 7) (v := .ref (Rooma_self (Onea_now a))) (C := RX7) (T := TX7) (N := 5) hx hb hts k1 hown hK hP 0 rfl rfl 0 (by decide) k0 (fun _ h9 => h9) rfl dX7_feed_14 ?_
      refine va_getN (D := E.1) (ci := 5) (v := .int (Room_signs (One_now v))) (C := RX5) (T := TX5) (N := 9) hx hb hts k3 hown hK hP 1 rfl rfl 2 (by decide) k2 (fun _ h9 => h9) rfl dX7_feed_17 ?_
      refine lv_bipush (v := 100) hx hb dX7_feed_20 (by decide) ?_
      refine lv_icmp_lt (tgt := 28) hx hb dX7_feed_22 (by decide) (fun c3 => ?_) (fun c3 => ?_)
      · have hF := m_pos c3 hF
        refine lv_aload_n hx hb dX7_feed_28 rfl (lv_at hl 0 rfl) ?_
        refine va_get (D := E.1) (ci := 7) (v := .ref (Rooma_self (Onea_now a))) (C := RX7) (T := TX7) (N := 5) hx hb hts k1 hown hK hP 0 rfl rfl 0 (by decide) k0 (fun _ h9 => h9) rfl dX7_feed_29 ?_
        refine va_getN (D := E.1) (ci := 5) (v := .ref (Rooma_tape (Onea_now a))) (C := RX5) (T := TX5) (N := 9) hx hb hts k3 hown hK hP 1 rfl rfl 1 (by decide) k4 (fun _ h9 => h9) rfl dX7_feed_32 ?_
        refine lv_aload_n hx hb dX7_feed_35 rfl (lv_at hl 0 rfl) ?_
        refine va_get (D := E.1) (ci := 7) (v := .ref (Rooma_self (Onea_now a))) (C := RX7) (T := TX7) (N := 5) hx hb hts k1 hown hK hP 0 rfl rfl 0 (by decide) k0 (fun _ h9 => h9) rfl dX7_feed_36 ?_
        refine va_getN (D := E.1) (ci := 5) (v := .int (Room_signs (One_now v))) (C := RX5) (T := TX5) (N := 9) hx hb hts k3 hown hK hP 1 rfl rfl 2 (by decide) k2 (fun _ h9 => h9) rfl dX7_feed_39 ?_
        refine lv_iload_n hx hb dX7_feed_42 rfl (lv_at hl 1 rfl) ?_
        refine lv_i2b (v := (x0).toInt8.toInt32) hx hb dX7_feed_43 rfl ?_
        obtain ⟨h4, hF⟩ := m_chk hF
        refine va_bast (f := (Room_tape (One_now v))) hx hb hK hP hD hS 11 0 rfl rfl (mIn_ok h4) dX7_feed_44 (fun H locs hP hD hS => ?_)
        have hP : va_P E.1 vwCl (One_c E a (One_now_s v (Room_tape_s (One_now v) (upd (Room_tape (One_now v)) ((Room_signs (One_now v))).toNatClampNeg (vp_nar .byte (x0).toInt8.toInt32))))) H := hP
        have hD : va_D A (One_c E a (One_now_s v (Room_tape_s (One_now v) (upd (Room_tape (One_now v)) ((Room_signs (One_now v))).toNatClampNeg (vp_nar .byte (x0).toInt8.toInt32))))) := hD
        refine lv_aload_n hx hb dX7_feed_45 rfl (lv_at hl 0 rfl) ?_
        refine va_get (D := E.1) (ci := 7) (v := .ref (Rooma_self (Onea_now a))) (C := RX7) (T := TX7) (N := 5) hx hb hts k1 hown hK hP 0 rfl rfl 0 (by decide) k0 (fun _ h9 => h9) rfl dX7_feed_46 ?_
        refine lv_dup hx hb dX7_feed_49 rfl ?_
        refine va_getN (D := E.1) (ci := 5) (v := .int (Room_signs (One_now v))) (C := RX5) (T := TX5) (N := 9) hx hb hts k3 hown hK hP 1 rfl rfl 2 (by decide) k2 (fun _ h9 => h9) rfl dX7_feed_50 ?_
        refine lv_iconst (v := 1) hx hb dX7_feed_53 (by decide) ?_
        refine lv_iadd hx hb dX7_feed_54 ?_
        refine va_putN (D := E.1) (ci := 5) (v := .int ((Room_signs (One_now v)) + 1)) (ty := .int) (C := RX5) (T := TX5) (N := 9) hx hb hts k3 tyX5 tyX5_ok nmX5 hown hK hP hD hS 1 rfl rfl 2 (by decide) k2 (fun _ h9 => h9) rfl (by decide +kernel) rfl rfl (Nat.le_of_ble_eq_true rfl) dX7_feed_55 (fun H locs hP hD hS => ?_)
        have hP : va_P E.1 vwCl (One_c E a (One_now_s v (Room_signs_s (Room_tape_s (One_now v) (upd (Room_tape (One_now v)) ((Room_signs (One_now v))).toNatClampNeg (vp_nar .byte (x0).toInt8.toInt32))) ((Room_signs (One_now v)) + 1)))) H := hP
        have hD : va_D A (One_c E a (One_now_s v (Room_signs_s (Room_tape_s (One_now v) (upd (Room_tape (One_now v)) ((Room_signs (One_now v))).toNatClampNeg (vp_nar .byte (x0).toInt8.toInt32))) ((Room_signs (One_now v)) + 1)))) := hD
        refine lv_aload_n hx hb dX7_feed_58 rfl (lv_at hl 0 rfl) ?_
        refine va_get (D := E.1) (ci := 7) (v := .ref (Rooma_self (Onea_now a))) (C := RX7) (T := TX7) (N := 5) hx hb hts k1 hown hK hP 0 rfl rfl 0 (by decide) k0 (fun _ h9 => h9) rfl dX7_feed_59 ?_
        refine va_getN (D := E.1) (ci := 5) (v := .int ((Room_signs (One_now v)) + 1)) (C := RX5) (T := TX5) (N := 9) hx hb hts k3 hown hK hP 1 rfl rfl 2 (by decide) k2 (fun _ h9 => h9) rfl dX7_feed_62 ?_
        have hF := Option.some.inj hF
        subst hF
        rw [hQ]
        exact W.iret hx hb hr (fun t ht _ => ⟨⟨rfl, by rw [ht]; exact hP, hD⟩, hS.F ht⟩) hS.2.2 dX7_feed_65
      · have hF := m_neg c3 hF
        refine lv_bipush (v := (-4)) hx hb dX7_feed_25 (by decide) ?_
        have hF := Option.some.inj hF
        subst hF
        rw [hQ]
        exact W.iret hx hb hr (fun t ht _ => ⟨⟨rfl, by rw [ht]; exact hP, hD⟩, hS.F ht⟩) hS.2.2 dX7_feed_27
    · have hF := m_neg c2 hF
      refine lv_bipush (v := (-2)) hx hb dX7_feed_10 (by decide) ?_
      have hF := Option.some.inj hF
      subst hF
      rw [hQ]
      exact W.iret hx hb hr (fun t ht _ => ⟨⟨rfl, by rw [ht]; exact hP, hD⟩, hS.F ht⟩) hS.2.2 dX7_feed_12

abbrev rmX7_see : Room := { frames := 2, cells := 0, slots := 0, locals := 42 }
set_option maxRecDepth 100000 in
set_option maxHeartbeats 400000 in
theorem c_X7_see (l : Launch) (E : mE) (a : OneA) (v : OneV) (x0 : Int32) (x1 : Int32) (t : (Int32 × OneV)) (hF : fn_X7_see v x0 x1 = some t) (sz : Nat) : Met l yX7_see wsX7_see rmX7_see (mPm E [.ref (Onea_self a), .int x0, .int x1] sz ((One_c E a v)) (([] : va_W))) (mSm E (some (.int t.1)) ((One_c E a t.2)) (va_A ((One_c E a v)) sz)) 0 0 (va_A ((One_c E a v)) sz) := by
  refine mOfM (cc := cX7_see) (maxL := 3) (ret := (some .int)) (by decide) rfl (Nat.le_of_ble_eq_true rfl) ?_
  intro p e_ s m args below meth c Q A hQ CC hr hlocks hin hA hP hD hKN hGl hR0 hRA ls hl
  have hS : va_S A s.heap s.heap [] := va_S.rf
  have hK := hKN.1
  have hx := CC.1
  have hb := CC.2.1
  have hml := CC.2.2.1
  have hown : s.vm.findClass RX7 = some m.cls := CC.2.2.2.1
  have hts := CC.2.2.2.2
  have hl : lv_has ls 3 [(0, .ref (Onea_self a)), (1, .int x0), (2, .int x1)] := hl
  have k0 := hts (.constant RX7 232 (99999)) (by decide +kernel)
  have k1 := hts (.fieldLink RX7 12 "OneDidAll" "now" "LOneDidAll$Room;") (by decide +kernel)
  have k2 := (show ∀ w ∈ u_ws RX7 TX7 5, w ∈ wsX7_see by decide +kernel)
  have k3 := (va_Nw.use rfl (hKN.2.1 ("OneDidAll", 223, "OneDidAll$Room", "seen", "LOneDidAll$Rows;", "OneDidAll") (by decide +kernel)) : (Cond.fieldLinkNest "OneDidAll" 223 "OneDidAll$Room" "seen" "LOneDidAll$Rows;" "OneDidAll").before args s = true)
  have k4 := (show ∀ w ∈ u_ws RX5 TX5 9, w ∈ wsX7_see by decide +kernel)
  have hP : va_P E.1 vwCl (One_c E a v) s.heap := hP
  obtain ⟨H, hH⟩ : ∃ H, H = s.heap := ⟨_, rfl⟩
  obtain ⟨locs, hlc⟩ : ∃ z : List Loc, z = [] := ⟨_, rfl⟩
  rw [← hH] at hP
  rw [← hlc] at hS
  have hS : va_S A s.heap H locs := by rw [hH]; exact hS
  rw [← hH, ← hlc]
  unfold fn_X7_see at hF
  refine lv_iload_n hx hb dX7_see_0 rfl (lv_at hl 1 rfl) ?_
  refine lv_iconst (v := (-1)) hx hb dX7_see_1 (by decide) ?_
  refine lv_icmp_ne (tgt := 16) hx hb dX7_see_2 (by decide) (fun c1 => ?_) (fun c1 => ?_)
  · have hF := m_pos c1 hF
    refine lv_iload_n hx hb dX7_see_16 rfl (lv_at hl 1 rfl) ?_
    refine lv_if_lt (tgt := 36) hx hb dX7_see_17 (by decide) (fun c2 => ?_) (fun c2 => ?_)
    · have hF := m_pos c2 hF
      refine lv_bipush (v := (-2)) hx hb dX7_see_36 (by decide) ?_
      have hF := Option.some.inj hF
      subst hF
      rw [hQ]
      exact W.iret hx hb hr (fun t ht _ => ⟨⟨rfl, by rw [ht]; exact hP, hD⟩, hS.F ht⟩) hS.2.2 dX7_see_38
    · have hF := m_neg c2 hF
      refine lv_iload_n hx hb dX7_see_20 rfl (lv_at hl 1 rfl) ?_
      refine lv_ldc (v := 99999) hx hb hown k0 dX7_see_21 ?_
      refine lv_icmp_gt (tgt := 36) hx hb dX7_see_23 (by decide) (fun c3 => ?_) (fun c3 => ?_)
      · have hF := m_pos c3 hF
        refine lv_bipush (v := (-2)) hx hb dX7_see_36 (by decide) ?_
        have hF := Option.some.inj hF
        subst hF
        rw [hQ]
        exact W.iret hx hb hr (fun t ht _ => ⟨⟨rfl, by rw [ht]; exact hP, hD⟩, hS.F ht⟩) hS.2.2 dX7_see_38
      · have hF := m_neg c3 hF
        refine lv_iload_n hx hb dX7_see_26 rfl (lv_at hl 2 rfl) ?_
        refine lv_if_lt (tgt := 36) hx hb dX7_see_27 (by decide) (fun c4 => ?_) (fun c4 => ?_)
        · have hF := m_pos c4 hF
          refine lv_bipush (v := (-2)) hx hb dX7_see_36 (by decide) ?_
          have hF := Option.some.inj hF
          subst hF
          rw [hQ]
          exact W.iret hx hb hr (fun t ht _ => ⟨⟨rfl, by rw [ht]; exact hP, hD⟩, hS.F ht⟩) hS.2.2 dX7_see_38
        · have hF := m_neg c4 hF
          refine lv_iload_n hx hb dX7_see_30 rfl (lv_at hl 2 rfl) ?_
          refine lv_bipush (v := 20) hx hb dX7_see_31 (by decide) ?_
          refine lv_icmp_le (tgt := 39) hx hb dX7_see_33 (by decide) (fun c5 => ?_) (fun c5 => ?_)
          · have hF := m_pos c5 hF
            refine lv_aload_n hx hb dX7_see_39 rfl (lv_at hl 0 rfl) ?_
            refine va_get (D := E.1) (ci := 7) (v := .ref (Rooma_self (Onea_now a))) (C := RX7) (T := TX7) (N := 5) hx hb hts k2 hown hK hP 0 rfl rfl 0 (by decide) k1 (fun _ h9 => h9) rfl dX7_see_40 ?_
            refine va_getN (D := E.1) (ci := 5) (v := .ref (Rowsa_self (Rooma_seen (Onea_now a)))) (C := RX5) (T := TX5) (N := 9) hx hb hts k4 hown hK hP 1 rfl rfl 6 (by decide) k3 (fun _ h9 => h9) rfl dX7_see_43 ?_
            obtain ⟨t6, ht6, hF⟩ := m_bnd hF
            have hPc := m_cutP (mid := (Rows_c E (Rooma_seen (Onea_now a)) (Room_seen (One_now v)))) hP 13 3 rfl
            refine mVP (ci := 6) (n := 0) (rest := []) (As := []) CC hKN hGl hS (c_X6_isFull l E (Rooma_seen (Onea_now a)) (Room_seen (One_now v)) t6 ht6) gX7_see_X6_isFull rfl ⟨rfl, rfl⟩ (by decide +kernel) ⟨Nat.le_of_ble_eq_true rfl, Nat.le_of_ble_eq_true rfl⟩ hPc rfl rfl rfl rfl hl.1 rfl (Nat.le_of_ble_eq_true rfl) ⟨Nat.zero_le _, Nat.zero_le _⟩ dX7_see_46 ?_
            refine W.eq (g2 := F0 m 49 ls [.int t6]) rfl ?_
            refine lv_if_eq (tgt := 55) hx hb dX7_see_49 (by decide) (fun c7 => ?_) (fun c7 => ?_)
            · have hF := m_pos c7 hF
              refine lv_aload_n hx hb dX7_see_55 rfl (lv_at hl 0 rfl) ?_
              refine va_get (D := E.1) (ci := 7) (v := .ref (Rooma_self (Onea_now a))) (C := RX7) (T := TX7) (N := 5) hx hb hts k2 hown hK hP 0 rfl rfl 0 (by decide) k1 (fun _ h9 => h9) rfl dX7_see_56 ?_
              refine va_getN (D := E.1) (ci := 5) (v := .ref (Rowsa_self (Rooma_seen (Onea_now a)))) (C := RX5) (T := TX5) (N := 9) hx hb hts k4 hown hK hP 1 rfl rfl 6 (by decide) k3 (fun _ h9 => h9) rfl dX7_see_59 ?_
              refine lv_iload_n hx hb dX7_see_62 rfl (lv_at hl 1 rfl) ?_
              refine lv_iload_n hx hb dX7_see_63 rfl (lv_at hl 2 rfl) ?_
              obtain ⟨t8, ht8, hF⟩ := m_bnd hF
              have hpm : List.Perm (One_c E a v) ((Rows_c E (Rooma_seen (Onea_now a)) (Room_seen (One_now v))) ++ ((List.take 13 (One_c E a v)) ++ (List.drop 16 (One_c E a v)))) := m_p1 (A := (List.take 13 (One_c E a v))) (m := (Rows_c E (Rooma_seen (Onea_now a)) (Room_seen (One_now v)))) (C := (List.drop 16 (One_c E a v)))
              obtain ⟨hPc, hDc, hFc⟩ := m_pre hpm hP hD hS hA
              refine mVM (ci := 6) (n := 2) (rest := []) (As := [.int x0, .int x1]) CC hKN hGl (c_X6_add l E (Rooma_seen (Onea_now a)) (Room_seen (One_now v)) x0 x1 t8 ht8 _) gX7_see_X6_add rfl ⟨rfl, rfl⟩ (by decide +kernel) ⟨Nat.le_of_ble_eq_true rfl, Nat.le_of_ble_eq_true rfl⟩ hPc hDc m_nil m_nilA hS hFc rfl rfl rfl rfl hl.1 rfl (Nat.le_of_ble_eq_true rfl) ⟨Nat.zero_le _, Nat.zero_le _⟩ dX7_see_64 (fun H1 locs hP1 hD1 hz1 hk1 hS => ?_)
              have hpn : List.Perm (One_c E a (One_now_s v (Room_seen_s (One_now v) t8.2))) ((Rows_c E (Rooma_seen (Onea_now a)) t8.2) ++ ((List.take 13 (One_c E a v)) ++ (List.drop 16 (One_c E a v)))) := m_p1 (A := (List.take 13 (One_c E a v))) (m := (Rows_c E (Rooma_seen (Onea_now a)) t8.2)) (C := (List.drop 16 (One_c E a v)))
              obtain ⟨hP, hD⟩ := m_spl hpm hpn hP hD hk1 hFc hP1 hD1
              generalize H1 = H at hP hS ⊢
              refine W.eq (g2 := F0 m 67 ls [.int t8.1]) rfl ?_
              have hF := Option.some.inj hF
              subst hF
              rw [hQ]
              exact W.iret hx hb hr (fun t ht _ => ⟨⟨rfl, by rw [ht]; exact hP, hD⟩, hS.F ht⟩) hS.2.2 dX7_see_67
            · have hF := m_neg c7 hF
              refine lv_bipush (v := (-4)) hx hb dX7_see_52 (by decide) ?_
              have hF := Option.some.inj hF
              subst hF
              rw [hQ]
              exact W.iret hx hb hr (fun t ht _ => ⟨⟨rfl, by rw [ht]; exact hP, hD⟩, hS.F ht⟩) hS.2.2 dX7_see_54
          · have hF := m_neg c5 hF
            refine lv_bipush (v := (-2)) hx hb dX7_see_36 (by decide) ?_
            have hF := Option.some.inj hF
            subst hF
            rw [hQ]
            exact W.iret hx hb hr (fun t ht _ => ⟨⟨rfl, by rw [ht]; exact hP, hD⟩, hS.F ht⟩) hS.2.2 dX7_see_38
  · have hF := m_neg (fun n9 => n9 c1) hF
    refine lv_aload_n hx hb dX7_see_5 rfl (lv_at hl 0 rfl) ?_
    refine va_get (D := E.1) (ci := 7) (v := .ref (Rooma_self (Onea_now a))) (C := RX7) (T := TX7) (N := 5) hx hb hts k2 hown hK hP 0 rfl rfl 0 (by decide) k1 (fun _ h9 => h9) rfl dX7_see_6 ?_
    refine va_getN (D := E.1) (ci := 5) (v := .ref (Rowsa_self (Rooma_seen (Onea_now a)))) (C := RX5) (T := TX5) (N := 9) hx hb hts k4 hown hK hP 1 rfl rfl 6 (by decide) k3 (fun _ h9 => h9) rfl dX7_see_9 ?_
    obtain ⟨t9, ht9, hF⟩ := m_bnd hF
    have hpm : List.Perm (One_c E a v) ((Rows_c E (Rooma_seen (Onea_now a)) (Room_seen (One_now v))) ++ ((List.take 13 (One_c E a v)) ++ (List.drop 16 (One_c E a v)))) := m_p1 (A := (List.take 13 (One_c E a v))) (m := (Rows_c E (Rooma_seen (Onea_now a)) (Room_seen (One_now v)))) (C := (List.drop 16 (One_c E a v)))
    obtain ⟨hPc, hDc, hFc⟩ := m_pre hpm hP hD hS hA
    refine mVM (ci := 6) (n := 0) (rest := []) (As := []) CC hKN hGl (c_X6_clear l E (Rooma_seen (Onea_now a)) (Room_seen (One_now v)) t9 ht9 _) gX7_see_X6_clear rfl ⟨rfl, rfl⟩ (by decide +kernel) ⟨Nat.le_of_ble_eq_true rfl, Nat.le_of_ble_eq_true rfl⟩ hPc hDc m_nil m_nilA hS hFc rfl rfl rfl rfl hl.1 rfl (Nat.le_of_ble_eq_true rfl) ⟨Nat.zero_le _, Nat.zero_le _⟩ dX7_see_12 (fun H1 locs hP1 hD1 hz1 hk1 hS => ?_)
    have hpn : List.Perm (One_c E a (One_now_s v (Room_seen_s (One_now v) t9.2))) ((Rows_c E (Rooma_seen (Onea_now a)) t9.2) ++ ((List.take 13 (One_c E a v)) ++ (List.drop 16 (One_c E a v)))) := m_p1 (A := (List.take 13 (One_c E a v))) (m := (Rows_c E (Rooma_seen (Onea_now a)) t9.2)) (C := (List.drop 16 (One_c E a v)))
    obtain ⟨hP, hD⟩ := m_spl hpm hpn hP hD hk1 hFc hP1 hD1
    generalize H1 = H at hP hS ⊢
    refine W.eq (g2 := F0 m 15 ls [.int t9.1]) rfl ?_
    have hF := Option.some.inj hF
    subst hF
    rw [hQ]
    exact W.iret hx hb hr (fun t ht _ => ⟨⟨rfl, by rw [ht]; exact hP, hD⟩, hS.F ht⟩) hS.2.2 dX7_see_15

abbrev rmX7_trace : Room := { frames := 0, cells := 0, slots := 0, locals := 0 }
set_option maxRecDepth 100000 in
set_option maxHeartbeats 400000 in
theorem c_X7_trace (l : Launch) (E : mE) (a : OneA) (v : OneV) (x0 : Int32) (t : Int32) (hF : fn_X7_trace v x0 = some t) : Met l yX7_trace wsX7_trace rmX7_trace (mPp E [.ref (Onea_self a), .int x0] (One_c E a v)) (mSp (some (.int t))) 0 0 (fun _ => False) := by
  refine mOfP (cc := cX7_trace) (maxL := 2) (ret := (some .int)) (by decide) rfl (Nat.le_of_ble_eq_true rfl) ?_
  intro p e_ s m args below meth c Q hQ CC hr hlocks hP hKN hGl ls hl
  have hS : va_S (fun _ => False) s.heap s.heap [] := va_S.rf
  have hK := hKN.1
  have hx := CC.1
  have hb := CC.2.1
  have hml := CC.2.2.1
  have hown : s.vm.findClass RX7 = some m.cls := CC.2.2.2.1
  have hts := CC.2.2.2.2
  have hl : lv_has ls 2 [(0, .ref (Onea_self a)), (1, .int x0)] := hl
  have k0 := hts (.fieldLink RX7 35 "OneDidAll" "acts" "LOneDidAll$Acts;") (by decide +kernel)
  have k1 := (show ∀ w ∈ u_ws RX7 TX7 5, w ∈ wsX7_trace by decide +kernel)
  have k2 := (va_Nw.use rfl (hKN.2.1 ("OneDidAll", 262, "OneDidAll$Acts", "ran", "I", "OneDidAll") (by decide +kernel)) : (Cond.fieldLinkNest "OneDidAll" 262 "OneDidAll$Acts" "ran" "I" "OneDidAll").before args s = true)
  have k3 := (show ∀ w ∈ u_ws RX0 TX0 5, w ∈ wsX7_trace by decide +kernel)
  have k4 := (va_Nw.use rfl (hKN.2.1 ("OneDidAll", 283, "OneDidAll$Acts", "kept", "[I", "OneDidAll") (by decide +kernel)) : (Cond.fieldLinkNest "OneDidAll" 283 "OneDidAll$Acts" "kept" "[I" "OneDidAll").before args s = true)
  unfold fn_X7_trace at hF
  refine lv_iload_n hx hb dX7_trace_0 rfl (lv_at hl 1 rfl) ?_
  refine lv_if_lt (tgt := 21) hx hb dX7_trace_1 (by decide) (fun c1 => ?_) (fun c1 => ?_)
  · have hF := m_pos c1 hF
    refine lv_iconst (v := (-1)) hx hb dX7_trace_21 (by decide) ?_
    have hF := Option.some.inj hF
    subst hF
    rw [hQ]
    exact W.iret hx hb hr (fun t ht _ => ⟨rfl, ht⟩) (fun _ h => by cases h) dX7_trace_22
  · have hF := m_neg c1 hF
    refine lv_iload_n hx hb dX7_trace_4 rfl (lv_at hl 1 rfl) ?_
    refine lv_aload_n hx hb dX7_trace_5 rfl (lv_at hl 0 rfl) ?_
    refine va_get (D := E.1) (ci := 7) (v := .ref (Actsa_self (Onea_acts a))) (C := RX7) (T := TX7) (N := 5) hx hb hts k1 hown hK hP 0 rfl rfl 4 (by decide) k0 (fun _ h9 => h9) rfl dX7_trace_6 ?_
    refine va_getN (D := E.1) (ci := 0) (v := .int (Acts_ran (One_acts v))) (C := RX0) (T := TX0) (N := 5) hx hb hts k3 hown hK hP 62 rfl rfl 1 (by decide) k2 (fun _ h9 => h9) rfl dX7_trace_9 ?_
    refine lv_icmp_ge (tgt := 21) hx hb dX7_trace_12 (by decide) (fun c2 => ?_) (fun c2 => ?_)
    · have hF := m_pos c2 hF
      refine lv_iconst (v := (-1)) hx hb dX7_trace_21 (by decide) ?_
      have hF := Option.some.inj hF
      subst hF
      rw [hQ]
      exact W.iret hx hb hr (fun t ht _ => ⟨rfl, ht⟩) (fun _ h => by cases h) dX7_trace_22
    · have hF := m_neg c2 hF
      refine lv_iload_n hx hb dX7_trace_15 rfl (lv_at hl 1 rfl) ?_
      refine lv_bipush (v := 20) hx hb dX7_trace_16 (by decide) ?_
      refine lv_icmp_lt (tgt := 23) hx hb dX7_trace_18 (by decide) (fun c3 => ?_) (fun c3 => ?_)
      · have hF := m_pos c3 hF
        refine lv_aload_n hx hb dX7_trace_23 rfl (lv_at hl 0 rfl) ?_
        refine va_get (D := E.1) (ci := 7) (v := .ref (Actsa_self (Onea_acts a))) (C := RX7) (T := TX7) (N := 5) hx hb hts k1 hown hK hP 0 rfl rfl 4 (by decide) k0 (fun _ h9 => h9) rfl dX7_trace_24 ?_
        refine va_getN (D := E.1) (ci := 0) (v := .ref (Actsa_kept (Onea_acts a))) (C := RX0) (T := TX0) (N := 5) hx hb hts k3 hown hK hP 62 rfl rfl 0 (by decide) k4 (fun _ h9 => h9) rfl dX7_trace_27 ?_
        refine lv_iload_n hx hb dX7_trace_30 rfl (lv_at hl 1 rfl) ?_
        obtain ⟨h4, hF⟩ := m_chk hF
        refine va_iald (f := (Acts_kept (One_acts v))) hx hb hK hP 63 1 rfl rfl (mIn_ok h4) dX7_trace_31 ?_
        refine W.eq (g2 := F0 m 32 ls [.int ((Acts_kept (One_acts v)) (x0).toNatClampNeg)]) rfl ?_
        have hF := Option.some.inj hF
        subst hF
        rw [hQ]
        exact W.iret hx hb hr (fun t ht _ => ⟨rfl, ht⟩) (fun _ h => by cases h) dX7_trace_32
      · have hF := m_neg c3 hF
        refine lv_iconst (v := (-1)) hx hb dX7_trace_21 (by decide) ?_
        have hF := Option.some.inj hF
        subst hF
        rw [hQ]
        exact W.iret hx hb hr (fun t ht _ => ⟨rfl, ht⟩) (fun _ h => by cases h) dX7_trace_22

abbrev rmX7_count : Room := { frames := 0, cells := 0, slots := 0, locals := 0 }
set_option maxRecDepth 100000 in
set_option maxHeartbeats 400000 in
theorem c_X7_count (l : Launch) (E : mE) (a : OneA) (v : OneV) (x0 : Int32) (t : Int32) (hF : fn_X7_count v x0 = some t) : Met l yX7_count wsX7_count rmX7_count (mPp E [.ref (Onea_self a), .int x0] (One_c E a v)) (mSp (some (.int t))) 0 0 (fun _ => False) := by
  refine mOfP (cc := cX7_count) (maxL := 2) (ret := (some .int)) (by decide) rfl (Nat.le_of_ble_eq_true rfl) ?_
  intro p e_ s m args below meth c Q hQ CC hr hlocks hP hKN hGl ls hl
  have hS : va_S (fun _ => False) s.heap s.heap [] := va_S.rf
  have hK := hKN.1
  have hx := CC.1
  have hb := CC.2.1
  have hml := CC.2.2.1
  have hown : s.vm.findClass RX7 = some m.cls := CC.2.2.2.1
  have hts := CC.2.2.2.2
  have hl : lv_has ls 2 [(0, .ref (Onea_self a)), (1, .int x0)] := hl
  have k0 := hts (.fieldLink RX7 12 "OneDidAll" "now" "LOneDidAll$Room;") (by decide +kernel)
  have k1 := (show ∀ w ∈ u_ws RX7 TX7 5, w ∈ wsX7_count by decide +kernel)
  have k2 := (va_Nw.use rfl (hKN.2.1 ("OneDidAll", 74, "OneDidAll$Room", "group", "LOneDidAll$Group;", "OneDidAll") (by decide +kernel)) : (Cond.fieldLinkNest "OneDidAll" 74 "OneDidAll$Room" "group" "LOneDidAll$Group;" "OneDidAll").before args s = true)
  have k3 := (show ∀ w ∈ u_ws RX5 TX5 9, w ∈ wsX7_count by decide +kernel)
  have k4 := (va_Nw.use rfl (hKN.2.1 ("OneDidAll", 78, "OneDidAll$Group", "size", "I", "OneDidAll") (by decide +kernel)) : (Cond.fieldLinkNest "OneDidAll" 78 "OneDidAll$Group" "size" "I" "OneDidAll").before args s = true)
  have k5 := (show ∀ w ∈ u_ws RX2 TX2 11, w ∈ wsX7_count by decide +kernel)
  have k6 := (va_Nw.use rfl (hKN.2.1 ("OneDidAll", 47, "OneDidAll$Room", "lessonCount", "I", "OneDidAll") (by decide +kernel)) : (Cond.fieldLinkNest "OneDidAll" 47 "OneDidAll$Room" "lessonCount" "I" "OneDidAll").before args s = true)
  have k7 := (va_Nw.use rfl (hKN.2.1 ("OneDidAll", 223, "OneDidAll$Room", "seen", "LOneDidAll$Rows;", "OneDidAll") (by decide +kernel)) : (Cond.fieldLinkNest "OneDidAll" 223 "OneDidAll$Room" "seen" "LOneDidAll$Rows;" "OneDidAll").before args s = true)
  have k8 := (va_Nw.use rfl (hKN.2.1 ("OneDidAll", 255, "OneDidAll$Rows", "size", "I", "OneDidAll") (by decide +kernel)) : (Cond.fieldLinkNest "OneDidAll" 255 "OneDidAll$Rows" "size" "I" "OneDidAll").before args s = true)
  have k9 := (show ∀ w ∈ u_ws RX6 TX6 3, w ∈ wsX7_count by decide +kernel)
  have k10 := (va_Nw.use rfl (hKN.2.1 ("OneDidAll", 245, "OneDidAll$Room", "plan", "LOneDidAll$Rows;", "OneDidAll") (by decide +kernel)) : (Cond.fieldLinkNest "OneDidAll" 245 "OneDidAll$Room" "plan" "LOneDidAll$Rows;" "OneDidAll").before args s = true)
  have k11 := (va_Nw.use rfl (hKN.2.1 ("OneDidAll", 252, "OneDidAll$Room", "book", "LOneDidAll$Rows;", "OneDidAll") (by decide +kernel)) : (Cond.fieldLinkNest "OneDidAll" 252 "OneDidAll$Room" "book" "LOneDidAll$Rows;" "OneDidAll").before args s = true)
  have k12 := (va_Nw.use rfl (hKN.2.1 ("OneDidAll", 39, "OneDidAll$Room", "signs", "I", "OneDidAll") (by decide +kernel)) : (Cond.fieldLinkNest "OneDidAll" 39 "OneDidAll$Room" "signs" "I" "OneDidAll").before args s = true)
  have k13 := hts (.fieldLink RX7 35 "OneDidAll" "acts" "LOneDidAll$Acts;") (by decide +kernel)
  have k14 := (va_Nw.use rfl (hKN.2.1 ("OneDidAll", 262, "OneDidAll$Acts", "ran", "I", "OneDidAll") (by decide +kernel)) : (Cond.fieldLinkNest "OneDidAll" 262 "OneDidAll$Acts" "ran" "I" "OneDidAll").before args s = true)
  have k15 := (show ∀ w ∈ u_ws RX0 TX0 5, w ∈ wsX7_count by decide +kernel)
  unfold fn_X7_count at hF
  refine lv_iload_n hx hb dX7_count_0 rfl (lv_at hl 1 rfl) ?_
  by_cases c1 : x0 = 0
  · have hF := m_pos c1 hF
    refine lv_tableIn (off := 43) (tgt := 44) hx hb dX7_count_1 (by rw [c1]; decide) (by rw [c1]; decide) (by rw [c1]; rfl) (by decide) ?_
    refine lv_aload_n hx hb dX7_count_44 rfl (lv_at hl 0 rfl) ?_
    refine va_get (D := E.1) (ci := 7) (v := .ref (Rooma_self (Onea_now a))) (C := RX7) (T := TX7) (N := 5) hx hb hts k1 hown hK hP 0 rfl rfl 0 (by decide) k0 (fun _ h9 => h9) rfl dX7_count_45 ?_
    refine va_getN (D := E.1) (ci := 5) (v := .ref (Groupa_self (Rooma_group (Onea_now a)))) (C := RX5) (T := TX5) (N := 9) hx hb hts k3 hown hK hP 1 rfl rfl 0 (by decide) k2 (fun _ h9 => h9) rfl dX7_count_48 ?_
    refine va_getN (D := E.1) (ci := 2) (v := .int (Group_size (Room_group (One_now v)))) (C := RX2) (T := TX2) (N := 11) hx hb hts k5 hown hK hP 2 rfl rfl 0 (by decide) k4 (fun _ h9 => h9) rfl dX7_count_51 ?_
    have hF := Option.some.inj hF
    subst hF
    rw [hQ]
    exact W.iret hx hb hr (fun t ht _ => ⟨rfl, ht⟩) (fun _ h => by cases h) dX7_count_54
  · have hF := m_neg c1 hF
    by_cases c2 : x0 = 1
    · have hF := m_pos c2 hF
      refine lv_tableIn (off := 54) (tgt := 55) hx hb dX7_count_1 (by rw [c2]; decide) (by rw [c2]; decide) (by rw [c2]; rfl) (by decide) ?_
      refine lv_aload_n hx hb dX7_count_55 rfl (lv_at hl 0 rfl) ?_
      refine va_get (D := E.1) (ci := 7) (v := .ref (Rooma_self (Onea_now a))) (C := RX7) (T := TX7) (N := 5) hx hb hts k1 hown hK hP 0 rfl rfl 0 (by decide) k0 (fun _ h9 => h9) rfl dX7_count_56 ?_
      refine va_getN (D := E.1) (ci := 5) (v := .int (Room_lessonCount (One_now v))) (C := RX5) (T := TX5) (N := 9) hx hb hts k3 hown hK hP 1 rfl rfl 4 (by decide) k6 (fun _ h9 => h9) rfl dX7_count_59 ?_
      have hF := Option.some.inj hF
      subst hF
      rw [hQ]
      exact W.iret hx hb hr (fun t ht _ => ⟨rfl, ht⟩) (fun _ h => by cases h) dX7_count_62
    · have hF := m_neg c2 hF
      by_cases c3 : x0 = 2
      · have hF := m_pos c3 hF
        refine lv_tableIn (off := 62) (tgt := 63) hx hb dX7_count_1 (by rw [c3]; decide) (by rw [c3]; decide) (by rw [c3]; rfl) (by decide) ?_
        refine lv_aload_n hx hb dX7_count_63 rfl (lv_at hl 0 rfl) ?_
        refine va_get (D := E.1) (ci := 7) (v := .ref (Rooma_self (Onea_now a))) (C := RX7) (T := TX7) (N := 5) hx hb hts k1 hown hK hP 0 rfl rfl 0 (by decide) k0 (fun _ h9 => h9) rfl dX7_count_64 ?_
        refine va_getN (D := E.1) (ci := 5) (v := .ref (Rowsa_self (Rooma_seen (Onea_now a)))) (C := RX5) (T := TX5) (N := 9) hx hb hts k3 hown hK hP 1 rfl rfl 6 (by decide) k7 (fun _ h9 => h9) rfl dX7_count_67 ?_
        refine va_getN (D := E.1) (ci := 6) (v := .int (Rows_size (Room_seen (One_now v)))) (C := RX6) (T := TX6) (N := 3) hx hb hts k9 hown hK hP 13 rfl rfl 2 (by decide) k8 (fun _ h9 => h9) rfl dX7_count_70 ?_
        have hF := Option.some.inj hF
        subst hF
        rw [hQ]
        exact W.iret hx hb hr (fun t ht _ => ⟨rfl, ht⟩) (fun _ h => by cases h) dX7_count_73
      · have hF := m_neg c3 hF
        by_cases c4 : x0 = 3
        · have hF := m_pos c4 hF
          refine lv_tableIn (off := 73) (tgt := 74) hx hb dX7_count_1 (by rw [c4]; decide) (by rw [c4]; decide) (by rw [c4]; rfl) (by decide) ?_
          refine lv_aload_n hx hb dX7_count_74 rfl (lv_at hl 0 rfl) ?_
          refine va_get (D := E.1) (ci := 7) (v := .ref (Rooma_self (Onea_now a))) (C := RX7) (T := TX7) (N := 5) hx hb hts k1 hown hK hP 0 rfl rfl 0 (by decide) k0 (fun _ h9 => h9) rfl dX7_count_75 ?_
          refine va_getN (D := E.1) (ci := 5) (v := .ref (Rowsa_self (Rooma_plan (Onea_now a)))) (C := RX5) (T := TX5) (N := 9) hx hb hts k3 hown hK hP 1 rfl rfl 7 (by decide) k10 (fun _ h9 => h9) rfl dX7_count_78 ?_
          refine va_getN (D := E.1) (ci := 6) (v := .int (Rows_size (Room_plan (One_now v)))) (C := RX6) (T := TX6) (N := 3) hx hb hts k9 hown hK hP 16 rfl rfl 2 (by decide) k8 (fun _ h9 => h9) rfl dX7_count_81 ?_
          have hF := Option.some.inj hF
          subst hF
          rw [hQ]
          exact W.iret hx hb hr (fun t ht _ => ⟨rfl, ht⟩) (fun _ h => by cases h) dX7_count_84
        · have hF := m_neg c4 hF
          by_cases c5 : x0 = 4
          · have hF := m_pos c5 hF
            refine lv_tableIn (off := 84) (tgt := 85) hx hb dX7_count_1 (by rw [c5]; decide) (by rw [c5]; decide) (by rw [c5]; rfl) (by decide) ?_
            refine lv_aload_n hx hb dX7_count_85 rfl (lv_at hl 0 rfl) ?_
            refine va_get (D := E.1) (ci := 7) (v := .ref (Rooma_self (Onea_now a))) (C := RX7) (T := TX7) (N := 5) hx hb hts k1 hown hK hP 0 rfl rfl 0 (by decide) k0 (fun _ h9 => h9) rfl dX7_count_86 ?_
            refine va_getN (D := E.1) (ci := 5) (v := .ref (Rowsa_self (Rooma_book (Onea_now a)))) (C := RX5) (T := TX5) (N := 9) hx hb hts k3 hown hK hP 1 rfl rfl 8 (by decide) k11 (fun _ h9 => h9) rfl dX7_count_89 ?_
            refine va_getN (D := E.1) (ci := 6) (v := .int (Rows_size (Room_book (One_now v)))) (C := RX6) (T := TX6) (N := 3) hx hb hts k9 hown hK hP 19 rfl rfl 2 (by decide) k8 (fun _ h9 => h9) rfl dX7_count_92 ?_
            have hF := Option.some.inj hF
            subst hF
            rw [hQ]
            exact W.iret hx hb hr (fun t ht _ => ⟨rfl, ht⟩) (fun _ h => by cases h) dX7_count_95
          · have hF := m_neg c5 hF
            by_cases c6 : x0 = 5
            · have hF := m_pos c6 hF
              refine lv_tableIn (off := 95) (tgt := 96) hx hb dX7_count_1 (by rw [c6]; decide) (by rw [c6]; decide) (by rw [c6]; rfl) (by decide) ?_
              refine lv_aload_n hx hb dX7_count_96 rfl (lv_at hl 0 rfl) ?_
              refine va_get (D := E.1) (ci := 7) (v := .ref (Rooma_self (Onea_now a))) (C := RX7) (T := TX7) (N := 5) hx hb hts k1 hown hK hP 0 rfl rfl 0 (by decide) k0 (fun _ h9 => h9) rfl dX7_count_97 ?_
              refine va_getN (D := E.1) (ci := 5) (v := .int (Room_signs (One_now v))) (C := RX5) (T := TX5) (N := 9) hx hb hts k3 hown hK hP 1 rfl rfl 2 (by decide) k12 (fun _ h9 => h9) rfl dX7_count_100 ?_
              have hF := Option.some.inj hF
              subst hF
              rw [hQ]
              exact W.iret hx hb hr (fun t ht _ => ⟨rfl, ht⟩) (fun _ h => by cases h) dX7_count_103
            · have hF := m_neg c6 hF
              by_cases c7 : x0 = 6
              · have hF := m_pos c7 hF
                refine lv_tableIn (off := 103) (tgt := 104) hx hb dX7_count_1 (by rw [c7]; decide) (by rw [c7]; decide) (by rw [c7]; rfl) (by decide) ?_
                refine lv_aload_n hx hb dX7_count_104 rfl (lv_at hl 0 rfl) ?_
                refine va_get (D := E.1) (ci := 7) (v := .ref (Actsa_self (Onea_acts a))) (C := RX7) (T := TX7) (N := 5) hx hb hts k1 hown hK hP 0 rfl rfl 4 (by decide) k13 (fun _ h9 => h9) rfl dX7_count_105 ?_
                refine va_getN (D := E.1) (ci := 0) (v := .int (Acts_ran (One_acts v))) (C := RX0) (T := TX0) (N := 5) hx hb hts k15 hown hK hP 62 rfl rfl 1 (by decide) k14 (fun _ h9 => h9) rfl dX7_count_108 ?_
                have hF := Option.some.inj hF
                subst hF
                rw [hQ]
                exact W.iret hx hb hr (fun t ht _ => ⟨rfl, ht⟩) (fun _ h => by cases h) dX7_count_111
              · have hF := m_neg c7 hF
                have qc1 := lv_neT (a := 0) c1 rfl
                have qc2 := lv_neT (a := 1) c2 rfl
                have qc3 := lv_neT (a := 2) c3 rfl
                have qc4 := lv_neT (a := 3) c4 rfl
                have qc5 := lv_neT (a := 4) c5 rfl
                have qc6 := lv_neT (a := 5) c6 rfl
                have qc7 := lv_neT (a := 6) c7 rfl
                refine lv_tableOut (tgt := 112) hx hb dX7_count_1 (by omega) (by decide) ?_
                refine lv_iconst (v := (-1)) hx hb dX7_count_112 (by decide) ?_
                have hF := Option.some.inj hF
                subst hF
                rw [hQ]
                exact W.iret hx hb hr (fun t ht _ => ⟨rfl, ht⟩) (fun _ h => by cases h) dX7_count_113

abbrev rmX7_isPupil : Room := { frames := 0, cells := 0, slots := 0, locals := 0 }
set_option maxRecDepth 100000 in
set_option maxHeartbeats 400000 in
theorem c_X7_isPupil (l : Launch) (E : mE) (a : OneA) (v : OneV) (x0 : Int32) (t : Int32) (hF : fn_X7_isPupil v x0 = some t) : Met l yX7_isPupil wsX7_isPupil rmX7_isPupil (mPp E [.ref (Onea_self a), .int x0] (One_c E a v)) (mSp (some (.int t))) 0 0 (fun _ => False) := by
  refine mOfP (cc := cX7_isPupil) (maxL := 2) (ret := (some .boolean)) (by decide) rfl (Nat.le_of_ble_eq_true rfl) ?_
  intro p e_ s m args below meth c Q hQ CC hr hlocks hP hKN hGl ls hl
  have hS : va_S (fun _ => False) s.heap s.heap [] := va_S.rf
  have hK := hKN.1
  have hx := CC.1
  have hb := CC.2.1
  have hml := CC.2.2.1
  have hown : s.vm.findClass RX7 = some m.cls := CC.2.2.2.1
  have hts := CC.2.2.2.2
  have hl : lv_has ls 2 [(0, .ref (Onea_self a)), (1, .int x0)] := hl
  have k0 := hts (.fieldLink RX7 12 "OneDidAll" "now" "LOneDidAll$Room;") (by decide +kernel)
  have k1 := (show ∀ w ∈ u_ws RX7 TX7 5, w ∈ wsX7_isPupil by decide +kernel)
  have k2 := (va_Nw.use rfl (hKN.2.1 ("OneDidAll", 74, "OneDidAll$Room", "group", "LOneDidAll$Group;", "OneDidAll") (by decide +kernel)) : (Cond.fieldLinkNest "OneDidAll" 74 "OneDidAll$Room" "group" "LOneDidAll$Group;" "OneDidAll").before args s = true)
  have k3 := (show ∀ w ∈ u_ws RX5 TX5 9, w ∈ wsX7_isPupil by decide +kernel)
  have k4 := (va_Nw.use rfl (hKN.2.1 ("OneDidAll", 78, "OneDidAll$Group", "size", "I", "OneDidAll") (by decide +kernel)) : (Cond.fieldLinkNest "OneDidAll" 78 "OneDidAll$Group" "size" "I" "OneDidAll").before args s = true)
  have k5 := (show ∀ w ∈ u_ws RX2 TX2 11, w ∈ wsX7_isPupil by decide +kernel)
  unfold fn_X7_isPupil at hF
  refine lv_iload_n hx hb dX7_isPupil_0 rfl (lv_at hl 1 rfl) ?_
  refine lv_if_lt (tgt := 28) hx hb dX7_isPupil_1 (by decide) (fun c1 => ?_) (fun c1 => ?_)
  · have hF := m_pos c1 hF
    refine lv_iconst (v := 0) hx hb dX7_isPupil_28 (by decide) ?_
    have hF := Option.some.inj hF
    subst hF
    rw [hQ]
    exact W.zret hx hb hr rfl (fun t ht _ => ⟨rfl, ht⟩) (fun _ h => by cases h) dX7_isPupil_29
  · have hF := m_neg c1 hF
    refine lv_iload_n hx hb dX7_isPupil_4 rfl (lv_at hl 1 rfl) ?_
    refine lv_aload_n hx hb dX7_isPupil_5 rfl (lv_at hl 0 rfl) ?_
    refine va_get (D := E.1) (ci := 7) (v := .ref (Rooma_self (Onea_now a))) (C := RX7) (T := TX7) (N := 5) hx hb hts k1 hown hK hP 0 rfl rfl 0 (by decide) k0 (fun _ h9 => h9) rfl dX7_isPupil_6 ?_
    refine va_getN (D := E.1) (ci := 5) (v := .ref (Groupa_self (Rooma_group (Onea_now a)))) (C := RX5) (T := TX5) (N := 9) hx hb hts k3 hown hK hP 1 rfl rfl 0 (by decide) k2 (fun _ h9 => h9) rfl dX7_isPupil_9 ?_
    refine va_getN (D := E.1) (ci := 2) (v := .int (Group_size (Room_group (One_now v)))) (C := RX2) (T := TX2) (N := 11) hx hb hts k5 hown hK hP 2 rfl rfl 0 (by decide) k4 (fun _ h9 => h9) rfl dX7_isPupil_12 ?_
    refine lv_icmp_ge (tgt := 28) hx hb dX7_isPupil_15 (by decide) (fun c2 => ?_) (fun c2 => ?_)
    · have hF := m_pos c2 hF
      refine lv_iconst (v := 0) hx hb dX7_isPupil_28 (by decide) ?_
      have hF := Option.some.inj hF
      subst hF
      rw [hQ]
      exact W.zret hx hb hr rfl (fun t ht _ => ⟨rfl, ht⟩) (fun _ h => by cases h) dX7_isPupil_29
    · have hF := m_neg c2 hF
      refine lv_iload_n hx hb dX7_isPupil_18 rfl (lv_at hl 1 rfl) ?_
      refine lv_bipush (v := 6) hx hb dX7_isPupil_19 (by decide) ?_
      refine lv_icmp_ge (tgt := 28) hx hb dX7_isPupil_21 (by decide) (fun c3 => ?_) (fun c3 => ?_)
      · have hF := m_pos c3 hF
        refine lv_iconst (v := 0) hx hb dX7_isPupil_28 (by decide) ?_
        have hF := Option.some.inj hF
        subst hF
        rw [hQ]
        exact W.zret hx hb hr rfl (fun t ht _ => ⟨rfl, ht⟩) (fun _ h => by cases h) dX7_isPupil_29
      · have hF := m_neg c3 hF
        refine lv_iconst (v := 1) hx hb dX7_isPupil_24 (by decide) ?_
        refine lv_goto (tgt := 29) hx hb dX7_isPupil_25 (by decide) ?_
        have hF := Option.some.inj hF
        subst hF
        rw [hQ]
        exact W.zret hx hb hr rfl (fun t ht _ => ⟨rfl, ht⟩) (fun _ h => by cases h) dX7_isPupil_29

abbrev rmX7_isKind : Room := { frames := 0, cells := 0, slots := 0, locals := 0 }
set_option maxRecDepth 100000 in
set_option maxHeartbeats 400000 in
theorem c_X7_isKind (l : Launch) (E : mE) (x0 : Int32) (t : Int32) (hF : fn_X7_isKind x0 = some t) : Met l yX7_isKind wsX7_isKind rmX7_isKind (mPp E [.int x0] ([] : va_W)) (mSp (some (.int t))) 0 0 (fun _ => False) := by
  refine mOfP (cc := cX7_isKind) (maxL := 1) (ret := (some .boolean)) (by decide) rfl (Nat.le_of_ble_eq_true rfl) ?_
  intro p e_ s m args below meth c Q hQ CC hr hlocks hP hKN hGl ls hl
  have hS : va_S (fun _ => False) s.heap s.heap [] := va_S.rf
  have hK := hKN.1
  have hx := CC.1
  have hb := CC.2.1
  have hml := CC.2.2.1
  have hown : s.vm.findClass RX7 = some m.cls := CC.2.2.2.1
  have hts := CC.2.2.2.2
  have hl : lv_has ls 1 [(0, .int x0)] := hl
  have k0 := hts (.fieldLink RX7 293 "OneDidAll" "KIND_ABOVE" "[I") (by decide +kernel)
  unfold fn_X7_isKind at hF
  refine lv_iload_n hx hb dX7_isKind_0 rfl (lv_at hl 0 rfl) ?_
  refine lv_if_lt (tgt := 16) hx hb dX7_isKind_1 (by decide) (fun c1 => ?_) (fun c1 => ?_)
  · have hF := m_pos c1 hF
    refine lv_iconst (v := 0) hx hb dX7_isKind_16 (by decide) ?_
    have hF := Option.some.inj hF
    subst hF
    rw [hQ]
    exact W.zret hx hb hr rfl (fun t ht _ => ⟨rfl, ht⟩) (fun _ h => by cases h) dX7_isKind_17
  · have hF := m_neg c1 hF
    refine lv_iload_n hx hb dX7_isKind_4 rfl (lv_at hl 0 rfl) ?_
    refine va_gets hx hb hGl.1 hS hown k0 (fun _ h9 => h9) dX7_isKind_5 ?_
    refine W.eq (g2 := F0 m 8 ls [.ref (m_ka E), .int x0]) rfl ?_
    refine va_tlen (v := 7) hx hb hGl.2.1 hS rfl dX7_isKind_8 ?_
    refine lv_icmp_ge (tgt := 16) hx hb dX7_isKind_9 (by decide) (fun c2 => ?_) (fun c2 => ?_)
    · have hF := m_pos c2 hF
      refine lv_iconst (v := 0) hx hb dX7_isKind_16 (by decide) ?_
      have hF := Option.some.inj hF
      subst hF
      rw [hQ]
      exact W.zret hx hb hr rfl (fun t ht _ => ⟨rfl, ht⟩) (fun _ h => by cases h) dX7_isKind_17
    · have hF := m_neg c2 hF
      refine lv_iconst (v := 1) hx hb dX7_isKind_12 (by decide) ?_
      refine lv_goto (tgt := 17) hx hb dX7_isKind_13 (by decide) ?_
      have hF := Option.some.inj hF
      subst hF
      rw [hQ]
      exact W.zret hx hb hr rfl (fun t ht _ => ⟨rfl, ht⟩) (fun _ h => by cases h) dX7_isKind_17

abbrev rmX7_isRule : Room := { frames := 0, cells := 0, slots := 0, locals := 0 }
set_option maxRecDepth 100000 in
set_option maxHeartbeats 400000 in
theorem c_X7_isRule (l : Launch) (E : mE) (x0 : Int32) (t : Int32) (hF : fn_X7_isRule x0 = some t) : Met l yX7_isRule wsX7_isRule rmX7_isRule (mPp E [.int x0] ([] : va_W)) (mSp (some (.int t))) 0 0 (fun _ => False) := by
  refine mOfP (cc := cX7_isRule) (maxL := 1) (ret := (some .boolean)) (by decide) rfl (Nat.le_of_ble_eq_true rfl) ?_
  intro p e_ s m args below meth c Q hQ CC hr hlocks hP hKN hGl ls hl
  have hS : va_S (fun _ => False) s.heap s.heap [] := va_S.rf
  have hK := hKN.1
  have hx := CC.1
  have hb := CC.2.1
  have hml := CC.2.2.1
  have hown : s.vm.findClass RX7 = some m.cls := CC.2.2.2.1
  have hts := CC.2.2.2.2
  have hl : lv_has ls 1 [(0, .int x0)] := hl
  unfold fn_X7_isRule at hF
  refine lv_iload_n hx hb dX7_isRule_0 rfl (lv_at hl 0 rfl) ?_
  refine lv_if_lt (tgt := 13) hx hb dX7_isRule_1 (by decide) (fun c1 => ?_) (fun c1 => ?_)
  · have hF := m_pos c1 hF
    refine lv_iconst (v := 0) hx hb dX7_isRule_13 (by decide) ?_
    have hF := Option.some.inj hF
    subst hF
    rw [hQ]
    exact W.zret hx hb hr rfl (fun t ht _ => ⟨rfl, ht⟩) (fun _ h => by cases h) dX7_isRule_14
  · have hF := m_neg c1 hF
    refine lv_iload_n hx hb dX7_isRule_4 rfl (lv_at hl 0 rfl) ?_
    refine lv_iconst (v := 4) hx hb dX7_isRule_5 (by decide) ?_
    refine lv_icmp_ge (tgt := 13) hx hb dX7_isRule_6 (by decide) (fun c2 => ?_) (fun c2 => ?_)
    · have hF := m_pos c2 hF
      refine lv_iconst (v := 0) hx hb dX7_isRule_13 (by decide) ?_
      have hF := Option.some.inj hF
      subst hF
      rw [hQ]
      exact W.zret hx hb hr rfl (fun t ht _ => ⟨rfl, ht⟩) (fun _ h => by cases h) dX7_isRule_14
    · have hF := m_neg c2 hF
      refine lv_iconst (v := 1) hx hb dX7_isRule_9 (by decide) ?_
      refine lv_goto (tgt := 14) hx hb dX7_isRule_10 (by decide) ?_
      have hF := Option.some.inj hF
      subst hF
      rw [hQ]
      exact W.zret hx hb hr rfl (fun t ht _ => ⟨rfl, ht⟩) (fun _ h => by cases h) dX7_isRule_14

abbrev rmX7_isPart : Room := { frames := 0, cells := 0, slots := 0, locals := 0 }
set_option maxRecDepth 100000 in
set_option maxHeartbeats 400000 in
theorem c_X7_isPart (l : Launch) (E : mE) (x0 : Int32) (t : Int32) (hF : fn_X7_isPart x0 = some t) : Met l yX7_isPart wsX7_isPart rmX7_isPart (mPp E [.int x0] ([] : va_W)) (mSp (some (.int t))) 0 0 (fun _ => False) := by
  refine mOfP (cc := cX7_isPart) (maxL := 1) (ret := (some .boolean)) (by decide) rfl (Nat.le_of_ble_eq_true rfl) ?_
  intro p e_ s m args below meth c Q hQ CC hr hlocks hP hKN hGl ls hl
  have hS : va_S (fun _ => False) s.heap s.heap [] := va_S.rf
  have hK := hKN.1
  have hx := CC.1
  have hb := CC.2.1
  have hml := CC.2.2.1
  have hown : s.vm.findClass RX7 = some m.cls := CC.2.2.2.1
  have hts := CC.2.2.2.2
  have hl : lv_has ls 1 [(0, .int x0)] := hl
  unfold fn_X7_isPart at hF
  refine lv_iload_n hx hb dX7_isPart_0 rfl (lv_at hl 0 rfl) ?_
  obtain ⟨j9, hjd9, hF⟩ := m_jp hF
  have hj9 : ∀ (ls : Array Slot), j9 () = some t → lv_has ls 1 [] → W p l e_ rmX7_isPart s m args below meth c s.heap [] 0 0 Q (F0 m 9 ls []) := by
    intro ls hF hl
    rw [hjd9] at hF
    refine lv_iconst (v := 1) hx hb dX7_isPart_9 (by decide) ?_
    refine lv_goto (tgt := 14) hx hb dX7_isPart_10 (by decide) ?_
    have hF := Option.some.inj hF
    subst hF
    rw [hQ]
    exact W.zret hx hb hr rfl (fun t ht _ => ⟨rfl, ht⟩) (fun _ h => by cases h) dX7_isPart_14
  clear hjd9
  refine lv_if_eq (tgt := 9) hx hb dX7_isPart_1 (by decide) (fun c1 => ?_) (fun c1 => ?_)
  · have hF := m_pos c1 hF
    exact hj9 ls hF (lv_sub hl [] rfl)
  · have hF := m_neg c1 hF
    refine lv_iload_n hx hb dX7_isPart_4 rfl (lv_at hl 0 rfl) ?_
    refine lv_iconst (v := 1) hx hb dX7_isPart_5 (by decide) ?_
    refine lv_icmp_ne (tgt := 13) hx hb dX7_isPart_6 (by decide) (fun c2 => ?_) (fun c2 => ?_)
    · have hF := m_pos c2 hF
      refine lv_iconst (v := 0) hx hb dX7_isPart_13 (by decide) ?_
      have hF := Option.some.inj hF
      subst hF
      rw [hQ]
      exact W.zret hx hb hr rfl (fun t ht _ => ⟨rfl, ht⟩) (fun _ h => by cases h) dX7_isPart_14
    · have hF := m_neg (fun n9 => n9 c2) hF
      exact hj9 ls hF (lv_sub hl [] rfl)

abbrev rmX7_isUnder : Room := { frames := 1, cells := 0, slots := 0, locals := 20 }
set_option maxRecDepth 100000 in
set_option maxHeartbeats 400000 in
theorem c_X7_isUnder (l : Launch) (E : mE) (x0 : Int32) (x1 : Int32) (t : Int32) (hF : fn_X7_isUnder x0 x1 = some t) : Met l yX7_isUnder wsX7_isUnder rmX7_isUnder (mPp E [.int x0, .int x1] ([] : va_W)) (mSp (some (.int t))) 0 0 (fun _ => False) := by
  refine mOfP (cc := cX7_isUnder) (maxL := 4) (ret := (some .boolean)) (by decide) rfl (Nat.le_of_ble_eq_true rfl) ?_
  intro p e_ s m args below meth c Q hQ CC hr hlocks hP hKN hGl ls hl
  have hS : va_S (fun _ => False) s.heap s.heap [] := va_S.rf
  have hK := hKN.1
  have hx := CC.1
  have hb := CC.2.1
  have hml := CC.2.2.1
  have hown : s.vm.findClass RX7 = some m.cls := CC.2.2.2.1
  have hts := CC.2.2.2.2
  have hl : lv_has ls 4 [(0, .int x0), (1, .int x1)] := hl
  have k0 := hts (.fieldLink RX7 293 "OneDidAll" "KIND_ABOVE" "[I") (by decide +kernel)
  unfold fn_X7_isUnder at hF
  refine lv_iload_n hx hb dX7_isUnder_0 rfl (lv_at hl 0 rfl) ?_
  refine lv_istore_n (lv' := [(2, .int x0), (0, .int x0), (1, .int x1)]) hx hb dX7_isUnder_1 rfl hl (by decide) rfl (fun ls hl => ?_)
  refine lv_iconst (v := 0) hx hb dX7_isUnder_2 (by decide) ?_
  refine lv_istore_n (lv' := [(3, .int 0), (2, .int x0), (0, .int x0), (1, .int x1)]) hx hb dX7_isUnder_3 rfl hl (by decide) rfl (fun ls hl => ?_)
  have hL4 : ∀ (n : Nat) (y2_4 : Int32) (y3_4 : Int32) (ls : Array Slot), lp_X7_isUnder_4 x1 n y2_4 y3_4 = some t → lv_has ls 4 [(1, .int x1), (2, .int y2_4), (3, .int y3_4)] → W p l e_ rmX7_isUnder s m args below meth c s.heap [] 0 0 Q (F0 m 4 ls []) := by
    intro n
    induction n with
    | zero =>
      intro y2_4 y3_4 ls hF
      exact nomatch (show (none : Option Int32) = some t from hF)
    | succ n ih4 =>
      intro y2_4 y3_4 ls hF hl
      have hF : st_X7_isUnder_4 x1 (lp_X7_isUnder_4 x1 n) y2_4 y3_4 = some t := hF
      unfold st_X7_isUnder_4 at hF
      refine lv_iload_n hx hb dX7_isUnder_4 rfl (lv_at hl 2 rfl) ?_
      refine va_gets hx hb hGl.1 hS hown k0 (fun _ h9 => h9) dX7_isUnder_5 ?_
      refine W.eq (g2 := F0 m 8 ls [.ref (m_ka E), .int y3_4]) rfl ?_
      refine va_tlen (v := 7) hx hb hGl.2.1 hS rfl dX7_isUnder_8 ?_
      refine lv_icmp_ge (tgt := 38) hx hb dX7_isUnder_9 (by decide) (fun c1 => ?_) (fun c1 => ?_)
      · have hF := m_pos c1 hF
        refine lv_iconst (v := 0) hx hb dX7_isUnder_38 (by decide) ?_
        have hF := Option.some.inj hF
        subst hF
        rw [hQ]
        exact W.zret hx hb hr rfl (fun t ht _ => ⟨rfl, ht⟩) (fun _ h => by cases h) dX7_isUnder_39
      · have hF := m_neg c1 hF
        refine lv_iload_n hx hb dX7_isUnder_12 rfl (lv_at hl 1 rfl) ?_
        obtain ⟨t2, ht2, hF⟩ := m_bnd hF
        refine mSP (n := 1) (rest := []) (As := [.int y2_4]) CC hKN hGl hS (c_X7_isKind l E y2_4 t2 ht2) gX7_isUnder_X7_isKind rfl ⟨rfl, rfl⟩ (by decide +kernel) ⟨Nat.le_of_ble_eq_true rfl, Nat.le_of_ble_eq_true rfl⟩ m_nil rfl hl.1 rfl (Nat.le_of_ble_eq_true rfl) ⟨Nat.zero_le _, Nat.zero_le _⟩ dX7_isUnder_13 ?_
        refine W.eq (g2 := F0 m 16 ls [.int t2]) rfl ?_
        refine lv_if_eq (tgt := 38) hx hb dX7_isUnder_16 (by decide) (fun c3 => ?_) (fun c3 => ?_)
        · have hF := m_pos c3 hF
          refine lv_iconst (v := 0) hx hb dX7_isUnder_38 (by decide) ?_
          have hF := Option.some.inj hF
          subst hF
          rw [hQ]
          exact W.zret hx hb hr rfl (fun t ht _ => ⟨rfl, ht⟩) (fun _ h => by cases h) dX7_isUnder_39
        · have hF := m_neg c3 hF
          refine lv_iload_n hx hb dX7_isUnder_19 rfl (lv_at hl 1 rfl) ?_
          refine lv_iload_n hx hb dX7_isUnder_20 rfl (lv_at hl 0 rfl) ?_
          refine lv_icmp_ne (tgt := 26) hx hb dX7_isUnder_21 (by decide) (fun c4 => ?_) (fun c4 => ?_)
          · have hF := m_pos c4 hF
            refine va_gets hx hb hGl.1 hS hown k0 (fun _ h9 => h9) dX7_isUnder_26 ?_
            refine W.eq (g2 := F0 m 29 ls [.ref (m_ka E)]) rfl ?_
            refine lv_iload_n hx hb dX7_isUnder_29 rfl (lv_at hl 1 rfl) ?_
            obtain ⟨h5, hF⟩ := m_chk hF
            refine va_ti (v := .int (mKA.getD (y2_4).toNatClampNeg 0)) hx hb hGl.2.1 hS (mIn_ok h5) rfl dX7_isUnder_30 ?_
            refine lv_istore_n (lv' := [(2, .int (mKA.getD (y2_4).toNatClampNeg 0)), (1, .int x1), (3, .int y3_4)]) hx hb dX7_isUnder_31 rfl hl (by decide) rfl (fun ls hl => ?_)
            refine lv_iinc (v := (y3_4 + 1)) (lv' := [(3, .int (y3_4 + 1)), (2, .int (mKA.getD (y2_4).toNatClampNeg 0)), (1, .int x1)]) hx hb dX7_isUnder_32 hl (k := 2) rfl rfl (by decide) rfl (fun ls hl => ?_)
            refine lv_goto (tgt := 4) hx hb dX7_isUnder_35 (by decide) ?_
            exact ih4 (mKA.getD (y2_4).toNatClampNeg 0) (y3_4 + 1) ls hF (lv_sub hl [2, 1, 0] rfl)
          · have hF := m_neg (fun n9 => n9 c4) hF
            refine lv_iconst (v := 1) hx hb dX7_isUnder_24 (by decide) ?_
            have hF := Option.some.inj hF
            subst hF
            rw [hQ]
            exact W.zret hx hb hr rfl (fun t ht _ => ⟨rfl, ht⟩) (fun _ h => by cases h) dX7_isUnder_25
  exact hL4 m_N x0 0 ls hF (lv_sub hl [3, 1, 0] rfl)

abbrev rmX7_leastOf : Room := { frames := 0, cells := 0, slots := 0, locals := 0 }
set_option maxRecDepth 100000 in
set_option maxHeartbeats 400000 in
theorem c_X7_leastOf (l : Launch) (E : mE) (x0 : Int32) (t : Int32) (hF : fn_X7_leastOf x0 = some t) : Met l yX7_leastOf wsX7_leastOf rmX7_leastOf (mPp E [.int x0] ([] : va_W)) (mSp (some (.int t))) 0 0 (fun _ => False) := by
  refine mOfP (cc := cX7_leastOf) (maxL := 2) (ret := (some .int)) (by decide) rfl (Nat.le_of_ble_eq_true rfl) ?_
  intro p e_ s m args below meth c Q hQ CC hr hlocks hP hKN hGl ls hl
  have hS : va_S (fun _ => False) s.heap s.heap [] := va_S.rf
  have hK := hKN.1
  have hx := CC.1
  have hb := CC.2.1
  have hml := CC.2.2.1
  have hown : s.vm.findClass RX7 = some m.cls := CC.2.2.2.1
  have hts := CC.2.2.2.2
  have hl : lv_has ls 2 [(0, .int x0)] := hl
  unfold fn_X7_leastOf at hF
  refine lv_iconst (v := 0) hx hb dX7_leastOf_0 (by decide) ?_
  refine lv_istore_n (lv' := [(1, .int 0), (0, .int x0)]) hx hb dX7_leastOf_1 rfl hl (by decide) rfl (fun ls hl => ?_)
  have hL2 : ∀ (n : Nat) (y1_2 : Int32) (ls : Array Slot), lp_X7_leastOf_2 x0 n y1_2 = some t → lv_has ls 2 [(0, .int x0), (1, .int y1_2)] → W p l e_ rmX7_leastOf s m args below meth c s.heap [] 0 0 Q (F0 m 2 ls []) := by
    intro n
    induction n with
    | zero =>
      intro y1_2 ls hF
      exact nomatch (show (none : Option Int32) = some t from hF)
    | succ n ih2 =>
      intro y1_2 ls hF hl
      have hF : st_X7_leastOf_2 x0 (lp_X7_leastOf_2 x0 n) y1_2 = some t := hF
      unfold st_X7_leastOf_2 at hF
      refine lv_iload_n hx hb dX7_leastOf_2 rfl (lv_at hl 1 rfl) ?_
      refine lv_bipush (v := 9) hx hb dX7_leastOf_3 (by decide) ?_
      refine lv_icmp_gt (tgt := 25) hx hb dX7_leastOf_5 (by decide) (fun c1 => ?_) (fun c1 => ?_)
      · have hF := m_pos c1 hF
        refine lv_bipush (v := (-5)) hx hb dX7_leastOf_25 (by decide) ?_
        have hF := Option.some.inj hF
        subst hF
        rw [hQ]
        exact W.iret hx hb hr (fun t ht _ => ⟨rfl, ht⟩) (fun _ h => by cases h) dX7_leastOf_27
      · have hF := m_neg c1 hF
        refine lv_iload_n hx hb dX7_leastOf_8 rfl (lv_at hl 0 rfl) ?_
        refine lv_iload_n hx hb dX7_leastOf_9 rfl (lv_at hl 1 rfl) ?_
        refine lv_ishr hx hb dX7_leastOf_10 ?_
        refine lv_iconst (v := 1) hx hb dX7_leastOf_11 (by decide) ?_
        refine lv_iand hx hb dX7_leastOf_12 ?_
        refine lv_iconst (v := 1) hx hb dX7_leastOf_13 (by decide) ?_
        refine lv_icmp_ne (tgt := 19) hx hb dX7_leastOf_14 (by decide) (fun c2 => ?_) (fun c2 => ?_)
        · have hF := m_pos c2 hF
          refine lv_iinc (v := (y1_2 + 1)) (lv' := [(1, .int (y1_2 + 1)), (0, .int x0)]) hx hb dX7_leastOf_19 hl (k := 1) rfl rfl (by decide) rfl (fun ls hl => ?_)
          refine lv_goto (tgt := 2) hx hb dX7_leastOf_22 (by decide) ?_
          exact ih2 (y1_2 + 1) ls hF (lv_sub hl [1, 0] rfl)
        · have hF := m_neg (fun n9 => n9 c2) hF
          refine lv_iload_n hx hb dX7_leastOf_17 rfl (lv_at hl 1 rfl) ?_
          have hF := Option.some.inj hF
          subst hF
          rw [hQ]
          exact W.iret hx hb hr (fun t ht _ => ⟨rfl, ht⟩) (fun _ h => by cases h) dX7_leastOf_18
  exact hL2 m_N 0 ls hF (lv_sub hl [1, 0] rfl)

abbrev rmX7_inLowestTerms : Room := { frames := 1, cells := 0, slots := 0, locals := 21 }
set_option maxRecDepth 100000 in
set_option maxHeartbeats 400000 in
theorem c_X7_inLowestTerms (l : Launch) (E : mE) (x0 : Int64) (x1 : Int64) (x2 : Int32) (t : Int64) (hF : fn_X7_inLowestTerms x0 x1 x2 = some t) : Met l yX7_inLowestTerms wsX7_inLowestTerms rmX7_inLowestTerms (mPp E [.long x0, .long x1, .int x2] ([] : va_W)) (mSp (some (.long t))) 0 0 (fun _ => False) := by
  refine mOfP (cc := cX7_inLowestTerms) (maxL := 12) (ret := (some .long)) (by decide) rfl (Nat.le_of_ble_eq_true rfl) ?_
  intro p e_ s m args below meth c Q hQ CC hr hlocks hP hKN hGl ls hl
  have hS : va_S (fun _ => False) s.heap s.heap [] := va_S.rf
  have hK := hKN.1
  have hx := CC.1
  have hb := CC.2.1
  have hml := CC.2.2.1
  have hown : s.vm.findClass RX7 = some m.cls := CC.2.2.2.1
  have hts := CC.2.2.2.2
  have hl : lv_has ls 12 [(0, .long x0), (2, .long x1), (4, .int x2)] := hl
  have k0 := hts (.methodLink RX7 296 Lib.MathLoose.abs_long.x) (by decide +kernel)
  have k1 := hts (.static Lib.MathLoose.abs_long.x) (by decide +kernel)
  have k2 := hts (.initialized "java/lang/Math") (by decide +kernel)
  have k3 := hts (.code Lib.MathLoose.abs_long.x Lib.MathLoose.abs_long.code 2 (some .long)) (by decide +kernel)
  have k4 := hts (.constantLong RX7 214 (-9223372036854775808)) (by decide +kernel)
  unfold fn_X7_inLowestTerms at hF
  refine lv_lload_n hx hb dX7_inLowestTerms_0 rfl (lv_at hl 0 rfl) ?_
  refine va_mabs_long hx hb (hml.trans hl.1.symm) hown k0 k1 k2 k3 (Nat.le_of_ble_eq_true rfl) (Nat.le_of_ble_eq_true rfl) (Nat.zero_le _) (Nat.zero_le _) dX7_inLowestTerms_1 ?_
  refine W.eq (g2 := F0 m 4 ls [.long (mAbsL x0)]) rfl ?_
  refine lv_lstore (lv' := [(5, .long (mAbsL x0)), (0, .long x0), (2, .long x1), (4, .int x2)]) hx hb dX7_inLowestTerms_4 hl (by decide) rfl (fun ls hl => ?_)
  refine lv_lload_n hx hb dX7_inLowestTerms_6 rfl (lv_at hl 2 rfl) ?_
  refine lv_lstore (lv' := [(7, .long x1), (5, .long (mAbsL x0)), (0, .long x0), (2, .long x1), (4, .int x2)]) hx hb dX7_inLowestTerms_7 hl (by decide) rfl (fun ls hl => ?_)
  refine lv_iconst (v := 0) hx hb dX7_inLowestTerms_9 (by decide) ?_
  refine lv_istore (lv' := [(9, .int 0), (7, .long x1), (5, .long (mAbsL x0)), (0, .long x0), (2, .long x1), (4, .int x2)]) hx hb dX7_inLowestTerms_10 hl (by decide) rfl (fun ls hl => ?_)
  obtain ⟨j47, hjd47, hF⟩ := m_jp hF
  have hj47 : ∀ (x5_47 : Int64) (ls : Array Slot), j47 x5_47 = some t → lv_has ls 12 [(0, .long x0), (2, .long x1), (4, .int x2), (5, .long x5_47)] → W p l e_ rmX7_inLowestTerms s m args below meth c s.heap [] 0 0 Q (F0 m 47 ls []) := by
    intro x5_47 ls hF hl
    rw [hjd47] at hF
    refine lv_lload hx hb dX7_inLowestTerms_47 (lv_at hl 3 rfl) ?_
    refine lv_lconst (v := 0) hx hb dX7_inLowestTerms_49 (by decide) ?_
    refine W.lcmp hx hb dX7_inLowestTerms_50 ?_
    refine lv_if_ne (tgt := 58) hx hb dX7_inLowestTerms_51 (by decide) (fun c1 => ?_) (fun c1 => ?_)
    · have hF := m_pos c1 hF
      refine lv_iload hx hb dX7_inLowestTerms_58 (lv_at hl 2 rfl) ?_
      obtain ⟨j68, hjd68, hF⟩ := m_jp hF
      have hj68 : ∀ (z0_68 : Int64) (ls : Array Slot), j68 z0_68 = some t → lv_has ls 12 [(5, .long x5_47)] → W p l e_ rmX7_inLowestTerms s m args below meth c s.heap [] 0 0 Q (F0 m 68 ls [.long z0_68]) := by
        intro z0_68 ls hF hl
        rw [hjd68] at hF
        refine lv_lload hx hb dX7_inLowestTerms_68 (lv_at hl 0 rfl) ?_
        obtain ⟨h2, hF⟩ := m_chk hF
        refine lv_ldiv hx hb dX7_inLowestTerms_70 h2 ?_
        have hF := Option.some.inj hF
        subst hF
        rw [hQ]
        exact W.lret hx hb hr (fun t ht _ => ⟨rfl, ht⟩) (fun _ h => by cases h) dX7_inLowestTerms_71
      clear hjd68
      refine lv_if_ne (tgt := 67) hx hb dX7_inLowestTerms_60 (by decide) (fun c3 => ?_) (fun c3 => ?_)
      · have hF := m_pos c3 hF
        refine lv_lload_n hx hb dX7_inLowestTerms_67 rfl (lv_at hl 1 rfl) ?_
        exact hj68 x1 ls hF (lv_sub hl [3] rfl)
      · have hF := m_neg (fun n9 => n9 c3) hF
        refine lv_lload_n hx hb dX7_inLowestTerms_63 rfl (lv_at hl 0 rfl) ?_
        refine lv_goto (tgt := 68) hx hb dX7_inLowestTerms_64 (by decide) ?_
        exact hj68 x0 ls hF (lv_sub hl [3] rfl)
    · have hF := m_neg (fun n9 => n9 c1) hF
      refine lv_ldc2 (v := (-9223372036854775808 : Int64)) hx hb hown k4 dX7_inLowestTerms_54 ?_
      have hF := Option.some.inj hF
      subst hF
      rw [hQ]
      exact W.lret hx hb hr (fun t ht _ => ⟨rfl, ht⟩) (fun _ h => by cases h) dX7_inLowestTerms_57
  clear hjd47
  have hL12 : ∀ (n : Nat) (y5_12 : Int64) (y7_12 : Int64) (y9_12 : Int32) (ls : Array Slot), lp_X7_inLowestTerms_12 j47 n y5_12 y7_12 y9_12 = some t → lv_has ls 12 [(0, .long x0), (2, .long x1), (4, .int x2), (5, .long y5_12), (7, .long y7_12), (9, .int y9_12)] → W p l e_ rmX7_inLowestTerms s m args below meth c s.heap [] 0 0 Q (F0 m 12 ls []) := by
    intro n
    induction n with
    | zero =>
      intro y5_12 y7_12 y9_12 ls hF
      exact nomatch (show (none : Option Int64) = some t from hF)
    | succ n ih12 =>
      intro y5_12 y7_12 y9_12 ls hF hl
      have hF : st_X7_inLowestTerms_12 j47 (lp_X7_inLowestTerms_12 j47 n) y5_12 y7_12 y9_12 = some t := hF
      unfold st_X7_inLowestTerms_12 at hF
      refine lv_iload hx hb dX7_inLowestTerms_12 (lv_at hl 5 rfl) ?_
      refine lv_bipush (v := 100) hx hb dX7_inLowestTerms_14 (by decide) ?_
      refine lv_icmp_ge (tgt := 47) hx hb dX7_inLowestTerms_16 (by decide) (fun c4 => ?_) (fun c4 => ?_)
      · have hF := m_pos c4 hF
        exact hj47 y5_12 ls hF (lv_sub hl [0, 1, 2, 3] rfl)
      · have hF := m_neg c4 hF
        refine lv_lload hx hb dX7_inLowestTerms_19 (lv_at hl 4 rfl) ?_
        refine lv_lconst (v := 0) hx hb dX7_inLowestTerms_21 (by decide) ?_
        refine W.lcmp hx hb dX7_inLowestTerms_22 ?_
        refine lv_if_eq (tgt := 47) hx hb dX7_inLowestTerms_23 (by decide) (fun c5 => ?_) (fun c5 => ?_)
        · have hF := m_pos c5 hF
          exact hj47 y5_12 ls hF (lv_sub hl [0, 1, 2, 3] rfl)
        · have hF := m_neg c5 hF
          refine lv_lload hx hb dX7_inLowestTerms_26 (lv_at hl 3 rfl) ?_
          refine lv_lload hx hb dX7_inLowestTerms_28 (lv_at hl 4 rfl) ?_
          obtain ⟨h6, hF⟩ := m_chk hF
          refine lv_lrem hx hb dX7_inLowestTerms_30 h6 ?_
          refine W.eq (g2 := F0 m 31 ls [.long (mRemL y5_12 y7_12)]) rfl ?_
          refine lv_lstore (lv' := [(10, .long (mRemL y5_12 y7_12)), (0, .long x0), (2, .long x1), (4, .int x2), (5, .long y5_12), (7, .long y7_12), (9, .int y9_12)]) hx hb dX7_inLowestTerms_31 hl (by decide) rfl (fun ls hl => ?_)
          refine lv_lload hx hb dX7_inLowestTerms_33 (lv_at hl 5 rfl) ?_
          refine lv_lstore (lv' := [(5, .long y7_12), (10, .long (mRemL y5_12 y7_12)), (0, .long x0), (2, .long x1), (4, .int x2), (7, .long y7_12), (9, .int y9_12)]) hx hb dX7_inLowestTerms_35 hl (by decide) rfl (fun ls hl => ?_)
          refine lv_lload hx hb dX7_inLowestTerms_37 (lv_at hl 1 rfl) ?_
          refine lv_lstore (lv' := [(7, .long (mRemL y5_12 y7_12)), (5, .long y7_12), (10, .long (mRemL y5_12 y7_12)), (0, .long x0), (2, .long x1), (4, .int x2), (9, .int y9_12)]) hx hb dX7_inLowestTerms_39 hl (by decide) rfl (fun ls hl => ?_)
          refine lv_iinc (v := (y9_12 + 1)) (lv' := [(9, .int (y9_12 + 1)), (7, .long (mRemL y5_12 y7_12)), (5, .long y7_12), (10, .long (mRemL y5_12 y7_12)), (0, .long x0), (2, .long x1), (4, .int x2)]) hx hb dX7_inLowestTerms_41 hl (k := 6) rfl rfl (by decide) rfl (fun ls hl => ?_)
          refine lv_goto (tgt := 12) hx hb dX7_inLowestTerms_44 (by decide) ?_
          exact ih12 y7_12 (mRemL y5_12 y7_12) (y9_12 + 1) ls hF (lv_sub hl [4, 5, 6, 2, 1, 0] rfl)
  exact hL12 m_N (mAbsL x0) x1 0 ls hF (lv_sub hl [3, 4, 5, 2, 1, 0] rfl)

abbrev rmX8_in : Room := { frames := 0, cells := 0, slots := 0, locals := 0 }
set_option maxRecDepth 100000 in
set_option maxHeartbeats 400000 in
theorem c_X8_in (l : Launch) (E : mE) (x0 : Int32) (x1 : Int32) (x2 : Int32) (t : Int32) (hF : fn_X8_in x0 x1 x2 = some t) : Met l yX8_in wsX8_in rmX8_in (mPp E [.int x0, .int x1, .int x2] ([] : va_W)) (mSp (some (.int t))) 0 0 (fun _ => False) := by
  refine mOfP (cc := cX8_in) (maxL := 3) (ret := (some .boolean)) (by decide) rfl (Nat.le_of_ble_eq_true rfl) ?_
  intro p e_ s m args below meth c Q hQ CC hr hlocks hP hKN hGl ls hl
  have hS : va_S (fun _ => False) s.heap s.heap [] := va_S.rf
  have hK := hKN.1
  have hx := CC.1
  have hb := CC.2.1
  have hml := CC.2.2.1
  have hown : s.vm.findClass RX8 = some m.cls := CC.2.2.2.1
  have hts := CC.2.2.2.2
  have hl : lv_has ls 3 [(0, .int x0), (1, .int x1), (2, .int x2)] := hl
  unfold fn_X8_in at hF
  refine lv_iload_n hx hb dX8_in_0 rfl (lv_at hl 0 rfl) ?_
  refine lv_iload_n hx hb dX8_in_1 rfl (lv_at hl 1 rfl) ?_
  refine lv_icmp_lt (tgt := 14) hx hb dX8_in_2 (by decide) (fun c1 => ?_) (fun c1 => ?_)
  · have hF := m_pos c1 hF
    refine lv_iconst (v := 0) hx hb dX8_in_14 (by decide) ?_
    have hF := Option.some.inj hF
    subst hF
    rw [hQ]
    exact W.zret hx hb hr rfl (fun t ht _ => ⟨rfl, ht⟩) (fun _ h => by cases h) dX8_in_15
  · have hF := m_neg c1 hF
    refine lv_iload_n hx hb dX8_in_5 rfl (lv_at hl 0 rfl) ?_
    refine lv_iload_n hx hb dX8_in_6 rfl (lv_at hl 2 rfl) ?_
    refine lv_icmp_gt (tgt := 14) hx hb dX8_in_7 (by decide) (fun c2 => ?_) (fun c2 => ?_)
    · have hF := m_pos c2 hF
      refine lv_iconst (v := 0) hx hb dX8_in_14 (by decide) ?_
      have hF := Option.some.inj hF
      subst hF
      rw [hQ]
      exact W.zret hx hb hr rfl (fun t ht _ => ⟨rfl, ht⟩) (fun _ h => by cases h) dX8_in_15
    · have hF := m_neg c2 hF
      refine lv_iconst (v := 1) hx hb dX8_in_10 (by decide) ?_
      refine lv_goto (tgt := 15) hx hb dX8_in_11 (by decide) ?_
      have hF := Option.some.inj hF
      subst hF
      rw [hQ]
      exact W.zret hx hb hr rfl (fun t ht _ => ⟨rfl, ht⟩) (fun _ h => by cases h) dX8_in_15

abbrev rmX8_within : Room := { frames := 0, cells := 0, slots := 0, locals := 0 }
set_option maxRecDepth 100000 in
set_option maxHeartbeats 400000 in
theorem c_X8_within (l : Launch) (E : mE) (x0 : Int32) (x1 : Int32) (x2 : Int32) (t : Int32) (hF : fn_X8_within x0 x1 x2 = some t) : Met l yX8_within wsX8_within rmX8_within (mPp E [.int x0, .int x1, .int x2] ([] : va_W)) (mSp (some (.int t))) 0 0 (fun _ => False) := by
  refine mOfP (cc := cX8_within) (maxL := 3) (ret := (some .int)) (by decide) rfl (Nat.le_of_ble_eq_true rfl) ?_
  intro p e_ s m args below meth c Q hQ CC hr hlocks hP hKN hGl ls hl
  have hS : va_S (fun _ => False) s.heap s.heap [] := va_S.rf
  have hK := hKN.1
  have hx := CC.1
  have hb := CC.2.1
  have hml := CC.2.2.1
  have hown : s.vm.findClass RX8 = some m.cls := CC.2.2.2.1
  have hts := CC.2.2.2.2
  have hl : lv_has ls 3 [(0, .int x0), (1, .int x1), (2, .int x2)] := hl
  unfold fn_X8_within at hF
  refine lv_iload_n hx hb dX8_within_0 rfl (lv_at hl 0 rfl) ?_
  refine lv_iload_n hx hb dX8_within_1 rfl (lv_at hl 1 rfl) ?_
  refine lv_icmp_ge (tgt := 9) hx hb dX8_within_2 (by decide) (fun c1 => ?_) (fun c1 => ?_)
  · have hF := m_pos c1 hF
    refine lv_iload_n hx hb dX8_within_9 rfl (lv_at hl 0 rfl) ?_
    refine lv_iload_n hx hb dX8_within_10 rfl (lv_at hl 2 rfl) ?_
    refine lv_icmp_le (tgt := 18) hx hb dX8_within_11 (by decide) (fun c2 => ?_) (fun c2 => ?_)
    · have hF := m_pos c2 hF
      refine lv_iload_n hx hb dX8_within_18 rfl (lv_at hl 0 rfl) ?_
      have hF := Option.some.inj hF
      subst hF
      rw [hQ]
      exact W.iret hx hb hr (fun t ht _ => ⟨rfl, ht⟩) (fun _ h => by cases h) dX8_within_19
    · have hF := m_neg c2 hF
      refine lv_iload_n hx hb dX8_within_14 rfl (lv_at hl 2 rfl) ?_
      refine lv_goto (tgt := 19) hx hb dX8_within_15 (by decide) ?_
      have hF := Option.some.inj hF
      subst hF
      rw [hQ]
      exact W.iret hx hb hr (fun t ht _ => ⟨rfl, ht⟩) (fun _ h => by cases h) dX8_within_19
  · have hF := m_neg c1 hF
    refine lv_iload_n hx hb dX8_within_5 rfl (lv_at hl 1 rfl) ?_
    refine lv_goto (tgt := 19) hx hb dX8_within_6 (by decide) ?_
    have hF := Option.some.inj hF
    subst hF
    rw [hQ]
    exact W.iret hx hb hr (fun t ht _ => ⟨rfl, ht⟩) (fun _ h => by cases h) dX8_within_19

abbrev rmX8_size : Room := { frames := 0, cells := 0, slots := 0, locals := 0 }
set_option maxRecDepth 100000 in
set_option maxHeartbeats 400000 in
theorem c_X8_size (l : Launch) (E : mE) (x0 : Int32) (t : Int32) (hF : fn_X8_size x0 = some t) : Met l yX8_size wsX8_size rmX8_size (mPp E [.int x0] ([] : va_W)) (mSp (some (.int t))) 0 0 (fun _ => False) := by
  refine mOfP (cc := cX8_size) (maxL := 1) (ret := (some .int)) (by decide) rfl (Nat.le_of_ble_eq_true rfl) ?_
  intro p e_ s m args below meth c Q hQ CC hr hlocks hP hKN hGl ls hl
  have hS : va_S (fun _ => False) s.heap s.heap [] := va_S.rf
  have hK := hKN.1
  have hx := CC.1
  have hb := CC.2.1
  have hml := CC.2.2.1
  have hown : s.vm.findClass RX8 = some m.cls := CC.2.2.2.1
  have hts := CC.2.2.2.2
  have hl : lv_has ls 1 [(0, .int x0)] := hl
  unfold fn_X8_size at hF
  refine lv_iload_n hx hb dX8_size_0 rfl (lv_at hl 0 rfl) ?_
  refine lv_if_ge (tgt := 9) hx hb dX8_size_1 (by decide) (fun c1 => ?_) (fun c1 => ?_)
  · have hF := m_pos c1 hF
    refine lv_iload_n hx hb dX8_size_9 rfl (lv_at hl 0 rfl) ?_
    have hF := Option.some.inj hF
    subst hF
    rw [hQ]
    exact W.iret hx hb hr (fun t ht _ => ⟨rfl, ht⟩) (fun _ h => by cases h) dX8_size_10
  · have hF := m_neg c1 hF
    refine lv_iload_n hx hb dX8_size_4 rfl (lv_at hl 0 rfl) ?_
    refine lv_ineg hx hb dX8_size_5 ?_
    refine lv_goto (tgt := 10) hx hb dX8_size_6 (by decide) ?_
    have hF := Option.some.inj hF
    subst hF
    rw [hQ]
    exact W.iret hx hb hr (fun t ht _ => ⟨rfl, ht⟩) (fun _ h => by cases h) dX8_size_10

abbrev rmX8_isPupil : Room := { frames := 1, cells := 0, slots := 0, locals := 22 }
set_option maxRecDepth 100000 in
set_option maxHeartbeats 400000 in
theorem c_X8_isPupil (l : Launch) (E : mE) (a : ModelA) (v : ModelV) (x0 : Int32) (t : Int32) (hF : fn_X8_isPupil v x0 = some t) : Met l yX8_isPupil wsX8_isPupil rmX8_isPupil (mPp E [.ref (Modela_self a), .int x0] (Model_c E a v)) (mSp (some (.int t))) 0 0 (fun _ => False) := by
  refine mOfP (cc := cX8_isPupil) (maxL := 2) (ret := (some .boolean)) (by decide) rfl (Nat.le_of_ble_eq_true rfl) ?_
  intro p e_ s m args below meth c Q hQ CC hr hlocks hP hKN hGl ls hl
  have hS : va_S (fun _ => False) s.heap s.heap [] := va_S.rf
  have hK := hKN.1
  have hx := CC.1
  have hb := CC.2.1
  have hml := CC.2.2.1
  have hown : s.vm.findClass RX8 = some m.cls := CC.2.2.2.1
  have hts := CC.2.2.2.2
  have hl : lv_has ls 2 [(0, .ref (Modela_self a)), (1, .int x0)] := hl
  have k0 := hts (.fieldLink RX8 9 "OneDidAllModel" "s" "[I") (by decide +kernel)
  have k1 := (show ∀ w ∈ u_ws RX8 TX8 20, w ∈ wsX8_isPupil by decide +kernel)
  unfold fn_X8_isPupil at hF
  refine lv_iload_n hx hb dX8_isPupil_0 rfl (lv_at hl 1 rfl) ?_
  refine lv_iconst (v := 0) hx hb dX8_isPupil_1 (by decide) ?_
  refine lv_aload_n hx hb dX8_isPupil_2 rfl (lv_at hl 0 rfl) ?_
  refine va_get (D := E.1) (ci := 8) (v := .ref (Modela_s a)) (C := RX8) (T := TX8) (N := 20) hx hb hts k1 hown hK hP 0 rfl rfl 1 (by decide) k0 (fun _ h9 => h9) rfl dX8_isPupil_3 ?_
  refine lv_bipush (v := 20) hx hb dX8_isPupil_6 (by decide) ?_
  obtain ⟨h1, hF⟩ := m_chk hF
  refine va_iald (f := (Model_s v)) hx hb hK hP 1 1 rfl rfl (mIn_ok h1) dX8_isPupil_8 ?_
  refine W.eq (g2 := F0 m 9 ls [.int ((Model_s v) (20 : Int32).toNatClampNeg), .int 0, .int x0]) rfl ?_
  refine lv_iconst (v := 1) hx hb dX8_isPupil_9 (by decide) ?_
  refine lv_isub hx hb dX8_isPupil_10 ?_
  obtain ⟨t2, ht2, hF⟩ := m_bnd hF
  refine mSP (n := 3) (rest := []) (As := [.int x0, .int 0, .int (((Model_s v) (20 : Int32).toNatClampNeg) - 1)]) CC hKN hGl hS (c_X8_in l E x0 0 (((Model_s v) (20 : Int32).toNatClampNeg) - 1) t2 ht2) gX8_isPupil_X8_in rfl ⟨rfl, rfl⟩ (by decide +kernel) ⟨Nat.le_of_ble_eq_true rfl, Nat.le_of_ble_eq_true rfl⟩ m_nil rfl hl.1 rfl (Nat.le_of_ble_eq_true rfl) ⟨Nat.zero_le _, Nat.zero_le _⟩ dX8_isPupil_11 ?_
  refine W.eq (g2 := F0 m 14 ls [.int t2]) rfl ?_
  obtain ⟨h3, hF⟩ := m_chk hF
  have hF := Option.some.inj hF
  subst hF
  rw [hQ]
  exact W.zret hx hb hr (mBit_nar h3) (fun t ht _ => ⟨rfl, ht⟩) (fun _ h => by cases h) dX8_isPupil_14

abbrev rmX8_keeps : Room := { frames := 0, cells := 0, slots := 0, locals := 0 }
set_option maxRecDepth 100000 in
set_option maxHeartbeats 400000 in
theorem c_X8_keeps (l : Launch) (E : mE) (a : ModelA) (v : ModelV) (t : ModelV) (hF : fn_X8_keeps v = some t) (sz : Nat) : Met l yX8_keeps wsX8_keeps rmX8_keeps (mPm E [.ref (Modela_self a)] sz ((Model_c E a v)) (([] : va_W))) (mSm E (none) ((Model_c E a t)) (va_A ((Model_c E a v)) sz)) 0 0 (va_A ((Model_c E a v)) sz) := by
  refine mOfM (cc := cX8_keeps) (maxL := 2) (ret := none) (by decide) rfl (Nat.le_of_ble_eq_true rfl) ?_
  intro p e_ s m args below meth c Q A hQ CC hr hlocks hin hA hP hD hKN hGl hR0 hRA ls hl
  have hS : va_S A s.heap s.heap [] := va_S.rf
  have hK := hKN.1
  have hx := CC.1
  have hb := CC.2.1
  have hml := CC.2.2.1
  have hown : s.vm.findClass RX8 = some m.cls := CC.2.2.2.1
  have hts := CC.2.2.2.2
  have hl : lv_has ls 2 [(0, .ref (Modela_self a))] := hl
  have k0 := hts (.fieldLink RX8 18 "OneDidAllModel" "frame" "[I") (by decide +kernel)
  have k1 := (show ∀ w ∈ u_ws RX8 TX8 20, w ∈ wsX8_keeps by decide +kernel)
  have k2 := hts (.fieldLink RX8 9 "OneDidAllModel" "s" "[I") (by decide +kernel)
  have hP : va_P E.1 vwCl (Model_c E a v) s.heap := hP
  obtain ⟨H, hH⟩ : ∃ H, H = s.heap := ⟨_, rfl⟩
  obtain ⟨locs, hlc⟩ : ∃ z : List Loc, z = [] := ⟨_, rfl⟩
  rw [← hH] at hP
  rw [← hlc] at hS
  have hS : va_S A s.heap H locs := by rw [hH]; exact hS
  rw [← hH, ← hlc]
  unfold fn_X8_keeps at hF
  refine lv_iconst (v := 0) hx hb dX8_keeps_0 (by decide) ?_
  refine lv_istore_n (lv' := [(1, .int 0), (0, .ref (Modela_self a))]) hx hb dX8_keeps_1 rfl hl (by decide) rfl (fun ls hl => ?_)
  have hL2 : ∀ (n : Nat) (y1_2 : Int32) (wy_2 : ModelV) (H : Heap) (locs : List Loc) (ls : Array Slot), lp_X8_keeps_2  n y1_2 wy_2 = some t → va_P E.1 vwCl (Model_c E a wy_2) H → va_D A (Model_c E a wy_2) → va_S A s.heap H locs → lv_has ls 2 [(0, .ref (Modela_self a)), (1, .int y1_2)] → W p l e_ rmX8_keeps s m args below meth c H locs 0 0 Q (F0 m 2 ls []) := by
    intro n
    induction n with
    | zero =>
      intro y1_2 wy_2 H locs ls hF
      exact nomatch (show (none : Option ModelV) = some t from hF)
    | succ n ih2 =>
      intro y1_2 wy_2 H locs ls hF hP hD hS hl
      have hF : st_X8_keeps_2  (lp_X8_keeps_2  n) y1_2 wy_2 = some t := hF
      unfold st_X8_keeps_2 at hF
      refine lv_iload_n hx hb dX8_keeps_2 rfl (lv_at hl 1 rfl) ?_
      refine lv_bipush (v := 20) hx hb dX8_keeps_3 (by decide) ?_
      refine lv_icmp_ge (tgt := 26) hx hb dX8_keeps_5 (by decide) (fun c1 => ?_) (fun c1 => ?_)
      · have hF := m_pos c1 hF
        have hF := Option.some.inj hF
        subst hF
        rw [hQ]
        exact W.vret hx hb hr (fun t ht _ => ⟨⟨rfl, by rw [ht]; exact hP, hD⟩, hS.F ht⟩) hS.2.2 dX8_keeps_26
      · have hF := m_neg c1 hF
        refine lv_aload_n hx hb dX8_keeps_8 rfl (lv_at hl 0 rfl) ?_
        refine va_get (D := E.1) (ci := 8) (v := .ref (Modela_frame a)) (C := RX8) (T := TX8) (N := 20) hx hb hts k1 hown hK hP 0 rfl rfl 3 (by decide) k0 (fun _ h9 => h9) rfl dX8_keeps_9 ?_
        refine lv_iload_n hx hb dX8_keeps_12 rfl (lv_at hl 1 rfl) ?_
        refine lv_aload_n hx hb dX8_keeps_13 rfl (lv_at hl 0 rfl) ?_
        refine va_get (D := E.1) (ci := 8) (v := .ref (Modela_s a)) (C := RX8) (T := TX8) (N := 20) hx hb hts k1 hown hK hP 0 rfl rfl 1 (by decide) k2 (fun _ h9 => h9) rfl dX8_keeps_14 ?_
        refine lv_iload_n hx hb dX8_keeps_17 rfl (lv_at hl 1 rfl) ?_
        obtain ⟨h2, hF⟩ := m_chk hF
        refine va_iald (f := (Model_s wy_2)) hx hb hK hP 1 1 rfl rfl (mIn_ok h2) dX8_keeps_18 ?_
        refine W.eq (g2 := F0 m 19 ls [.int ((Model_s wy_2) (y1_2).toNatClampNeg), .int y1_2, .ref (Modela_frame a)]) rfl ?_
        obtain ⟨h3, hF⟩ := m_chk hF
        refine va_iast (f := (Model_frame wy_2)) hx hb hK hP hD hS 3 1 rfl rfl (mIn_ok h3) dX8_keeps_19 (fun H locs hP hD hS => ?_)
        have hP : va_P E.1 vwCl (Model_c E a (Model_frame_s wy_2 (upd (Model_frame wy_2) (y1_2).toNatClampNeg ((Model_s wy_2) (y1_2).toNatClampNeg)))) H := hP
        have hD : va_D A (Model_c E a (Model_frame_s wy_2 (upd (Model_frame wy_2) (y1_2).toNatClampNeg ((Model_s wy_2) (y1_2).toNatClampNeg)))) := hD
        refine lv_iinc (v := (y1_2 + 1)) (lv' := [(1, .int (y1_2 + 1)), (0, .ref (Modela_self a))]) hx hb dX8_keeps_20 hl (k := 1) rfl rfl (by decide) rfl (fun ls hl => ?_)
        refine lv_goto (tgt := 2) hx hb dX8_keeps_23 (by decide) ?_
        exact ih2 (y1_2 + 1) (Model_frame_s wy_2 (upd (Model_frame wy_2) (y1_2).toNatClampNeg ((Model_s wy_2) (y1_2).toNatClampNeg))) H locs ls hF hP hD hS (lv_sub hl [1, 0] rfl)
  exact hL2 m_N 0 v H locs ls hF hP hD hS (lv_sub hl [1, 0] rfl)

abbrev rmX8_goesBack : Room := { frames := 0, cells := 0, slots := 0, locals := 0 }
set_option maxRecDepth 100000 in
set_option maxHeartbeats 400000 in
theorem c_X8_goesBack (l : Launch) (E : mE) (a : ModelA) (v : ModelV) (t : ModelV) (hF : fn_X8_goesBack v = some t) (sz : Nat) : Met l yX8_goesBack wsX8_goesBack rmX8_goesBack (mPm E [.ref (Modela_self a)] sz ((Model_c E a v)) (([] : va_W))) (mSm E (none) ((Model_c E a t)) (va_A ((Model_c E a v)) sz)) 0 0 (va_A ((Model_c E a v)) sz) := by
  refine mOfM (cc := cX8_goesBack) (maxL := 2) (ret := none) (by decide) rfl (Nat.le_of_ble_eq_true rfl) ?_
  intro p e_ s m args below meth c Q A hQ CC hr hlocks hin hA hP hD hKN hGl hR0 hRA ls hl
  have hS : va_S A s.heap s.heap [] := va_S.rf
  have hK := hKN.1
  have hx := CC.1
  have hb := CC.2.1
  have hml := CC.2.2.1
  have hown : s.vm.findClass RX8 = some m.cls := CC.2.2.2.1
  have hts := CC.2.2.2.2
  have hl : lv_has ls 2 [(0, .ref (Modela_self a))] := hl
  have k0 := hts (.fieldLink RX8 9 "OneDidAllModel" "s" "[I") (by decide +kernel)
  have k1 := (show ∀ w ∈ u_ws RX8 TX8 20, w ∈ wsX8_goesBack by decide +kernel)
  have k2 := hts (.fieldLink RX8 18 "OneDidAllModel" "frame" "[I") (by decide +kernel)
  have hP : va_P E.1 vwCl (Model_c E a v) s.heap := hP
  obtain ⟨H, hH⟩ : ∃ H, H = s.heap := ⟨_, rfl⟩
  obtain ⟨locs, hlc⟩ : ∃ z : List Loc, z = [] := ⟨_, rfl⟩
  rw [← hH] at hP
  rw [← hlc] at hS
  have hS : va_S A s.heap H locs := by rw [hH]; exact hS
  rw [← hH, ← hlc]
  unfold fn_X8_goesBack at hF
  refine lv_iconst (v := 0) hx hb dX8_goesBack_0 (by decide) ?_
  refine lv_istore_n (lv' := [(1, .int 0), (0, .ref (Modela_self a))]) hx hb dX8_goesBack_1 rfl hl (by decide) rfl (fun ls hl => ?_)
  have hL2 : ∀ (n : Nat) (y1_2 : Int32) (wy_2 : ModelV) (H : Heap) (locs : List Loc) (ls : Array Slot), lp_X8_goesBack_2  n y1_2 wy_2 = some t → va_P E.1 vwCl (Model_c E a wy_2) H → va_D A (Model_c E a wy_2) → va_S A s.heap H locs → lv_has ls 2 [(0, .ref (Modela_self a)), (1, .int y1_2)] → W p l e_ rmX8_goesBack s m args below meth c H locs 0 0 Q (F0 m 2 ls []) := by
    intro n
    induction n with
    | zero =>
      intro y1_2 wy_2 H locs ls hF
      exact nomatch (show (none : Option ModelV) = some t from hF)
    | succ n ih2 =>
      intro y1_2 wy_2 H locs ls hF hP hD hS hl
      have hF : st_X8_goesBack_2  (lp_X8_goesBack_2  n) y1_2 wy_2 = some t := hF
      unfold st_X8_goesBack_2 at hF
      refine lv_iload_n hx hb dX8_goesBack_2 rfl (lv_at hl 1 rfl) ?_
      refine lv_bipush (v := 20) hx hb dX8_goesBack_3 (by decide) ?_
      refine lv_icmp_ge (tgt := 26) hx hb dX8_goesBack_5 (by decide) (fun c1 => ?_) (fun c1 => ?_)
      · have hF := m_pos c1 hF
        have hF := Option.some.inj hF
        subst hF
        rw [hQ]
        exact W.vret hx hb hr (fun t ht _ => ⟨⟨rfl, by rw [ht]; exact hP, hD⟩, hS.F ht⟩) hS.2.2 dX8_goesBack_26
      · have hF := m_neg c1 hF
        refine lv_aload_n hx hb dX8_goesBack_8 rfl (lv_at hl 0 rfl) ?_
        refine va_get (D := E.1) (ci := 8) (v := .ref (Modela_s a)) (C := RX8) (T := TX8) (N := 20) hx hb hts k1 hown hK hP 0 rfl rfl 1 (by decide) k0 (fun _ h9 => h9) rfl dX8_goesBack_9 ?_
        refine lv_iload_n hx hb dX8_goesBack_12 rfl (lv_at hl 1 rfl) ?_
        refine lv_aload_n hx hb dX8_goesBack_13 rfl (lv_at hl 0 rfl) ?_
        refine va_get (D := E.1) (ci := 8) (v := .ref (Modela_frame a)) (C := RX8) (T := TX8) (N := 20) hx hb hts k1 hown hK hP 0 rfl rfl 3 (by decide) k2 (fun _ h9 => h9) rfl dX8_goesBack_14 ?_
        refine lv_iload_n hx hb dX8_goesBack_17 rfl (lv_at hl 1 rfl) ?_
        obtain ⟨h2, hF⟩ := m_chk hF
        refine va_iald (f := (Model_frame wy_2)) hx hb hK hP 3 1 rfl rfl (mIn_ok h2) dX8_goesBack_18 ?_
        refine W.eq (g2 := F0 m 19 ls [.int ((Model_frame wy_2) (y1_2).toNatClampNeg), .int y1_2, .ref (Modela_s a)]) rfl ?_
        obtain ⟨h3, hF⟩ := m_chk hF
        refine va_iast (f := (Model_s wy_2)) hx hb hK hP hD hS 1 1 rfl rfl (mIn_ok h3) dX8_goesBack_19 (fun H locs hP hD hS => ?_)
        have hP : va_P E.1 vwCl (Model_c E a (Model_s_s wy_2 (upd (Model_s wy_2) (y1_2).toNatClampNeg ((Model_frame wy_2) (y1_2).toNatClampNeg)))) H := hP
        have hD : va_D A (Model_c E a (Model_s_s wy_2 (upd (Model_s wy_2) (y1_2).toNatClampNeg ((Model_frame wy_2) (y1_2).toNatClampNeg)))) := hD
        refine lv_iinc (v := (y1_2 + 1)) (lv' := [(1, .int (y1_2 + 1)), (0, .ref (Modela_self a))]) hx hb dX8_goesBack_20 hl (k := 1) rfl rfl (by decide) rfl (fun ls hl => ?_)
        refine lv_goto (tgt := 2) hx hb dX8_goesBack_23 (by decide) ?_
        exact ih2 (y1_2 + 1) (Model_s_s wy_2 (upd (Model_s wy_2) (y1_2).toNatClampNeg ((Model_frame wy_2) (y1_2).toNatClampNeg))) H locs ls hF hP hD hS (lv_sub hl [1, 0] rfl)
  exact hL2 m_N 0 v H locs ls hF hP hD hS (lv_sub hl [1, 0] rfl)

abbrev rmX8_feed : Room := { frames := 1, cells := 0, slots := 0, locals := 22 }
set_option maxRecDepth 100000 in
set_option maxHeartbeats 400000 in
theorem c_X8_feed (l : Launch) (E : mE) (a : ModelA) (v : ModelV) (x0 : Int32) (t : (Int32 × ModelV)) (hF : fn_X8_feed v x0 = some t) (sz : Nat) : Met l yX8_feed wsX8_feed rmX8_feed (mPm E [.ref (Modela_self a), .int x0] sz ((Model_c E a v)) (([] : va_W))) (mSm E (some (.int t.1)) ((Model_c E a t.2)) (va_A ((Model_c E a v)) sz)) 0 0 (va_A ((Model_c E a v)) sz) := by
  refine mOfM (cc := cX8_feed) (maxL := 2) (ret := (some .int)) (by decide) rfl (Nat.le_of_ble_eq_true rfl) ?_
  intro p e_ s m args below meth c Q A hQ CC hr hlocks hin hA hP hD hKN hGl hR0 hRA ls hl
  have hS : va_S A s.heap s.heap [] := va_S.rf
  have hK := hKN.1
  have hx := CC.1
  have hb := CC.2.1
  have hml := CC.2.2.1
  have hown : s.vm.findClass RX8 = some m.cls := CC.2.2.2.1
  have hts := CC.2.2.2.2
  have hl : lv_has ls 2 [(0, .ref (Modela_self a)), (1, .int x0)] := hl
  have k0 := hts (.fieldLink RX8 9 "OneDidAllModel" "s" "[I") (by decide +kernel)
  have k1 := (show ∀ w ∈ u_ws RX8 TX8 20, w ∈ wsX8_feed by decide +kernel)
  have hP : va_P E.1 vwCl (Model_c E a v) s.heap := hP
  obtain ⟨H, hH⟩ : ∃ H, H = s.heap := ⟨_, rfl⟩
  obtain ⟨locs, hlc⟩ : ∃ z : List Loc, z = [] := ⟨_, rfl⟩
  rw [← hH] at hP
  rw [← hlc] at hS
  have hS : va_S A s.heap H locs := by rw [hH]; exact hS
  rw [← hH, ← hlc]
  unfold fn_X8_feed at hF
  refine lv_iload_n hx hb dX8_feed_0 rfl (lv_at hl 1 rfl) ?_
  refine lv_iconst (v := 0) hx hb dX8_feed_1 (by decide) ?_
  refine lv_bipush (v := 127) hx hb dX8_feed_2 (by decide) ?_
  obtain ⟨t1, ht1, hF⟩ := m_bnd hF
  refine mSP (n := 3) (rest := []) (As := [.int x0, .int 0, .int 127]) CC hKN hGl hS (c_X8_in l E x0 0 127 t1 ht1) gX8_feed_X8_in rfl ⟨rfl, rfl⟩ (by decide +kernel) ⟨Nat.le_of_ble_eq_true rfl, Nat.le_of_ble_eq_true rfl⟩ m_nil rfl hl.1 rfl (Nat.le_of_ble_eq_true rfl) ⟨Nat.zero_le _, Nat.zero_le _⟩ dX8_feed_4 ?_
  refine W.eq (g2 := F0 m 7 ls [.int t1]) rfl ?_
  refine lv_if_ne (tgt := 13) hx hb dX8_feed_7 (by decide) (fun c2 => ?_) (fun c2 => ?_)
  · have hF := m_pos c2 hF
    refine lv_aload_n hx hb dX8_feed_13 rfl (lv_at hl 0 rfl) ?_
    refine va_get (D := E.1) (ci := 8) (v := .ref (Modela_s a)) (C := RX8) (T := TX8) (N := 20) hx hb hts k1 hown hK hP 0 rfl rfl 1 (by decide) k0 (fun _ h9 => h9) rfl dX8_feed_14 ?_
    refine lv_bipush (v := 25) hx hb dX8_feed_17 (by decide) ?_
    obtain ⟨h3, hF⟩ := m_chk hF
    refine va_iald (f := (Model_s v)) hx hb hK hP 1 1 rfl rfl (mIn_ok h3) dX8_feed_19 ?_
    refine W.eq (g2 := F0 m 20 ls [.int ((Model_s v) (25 : Int32).toNatClampNeg)]) rfl ?_
    refine lv_bipush (v := 100) hx hb dX8_feed_20 (by decide) ?_
    refine lv_icmp_ne (tgt := 28) hx hb dX8_feed_22 (by decide) (fun c4 => ?_) (fun c4 => ?_)
    · have hF := m_pos c4 hF
      refine lv_aload_n hx hb dX8_feed_28 rfl (lv_at hl 0 rfl) ?_
      refine va_get (D := E.1) (ci := 8) (v := .ref (Modela_s a)) (C := RX8) (T := TX8) (N := 20) hx hb hts k1 hown hK hP 0 rfl rfl 1 (by decide) k0 (fun _ h9 => h9) rfl dX8_feed_29 ?_
      refine lv_bipush (v := 111) hx hb dX8_feed_32 (by decide) ?_
      refine lv_aload_n hx hb dX8_feed_34 rfl (lv_at hl 0 rfl) ?_
      refine va_get (D := E.1) (ci := 8) (v := .ref (Modela_s a)) (C := RX8) (T := TX8) (N := 20) hx hb hts k1 hown hK hP 0 rfl rfl 1 (by decide) k0 (fun _ h9 => h9) rfl dX8_feed_35 ?_
      refine lv_bipush (v := 25) hx hb dX8_feed_38 (by decide) ?_
      obtain ⟨h5, hF⟩ := m_chk hF
      refine va_iald (f := (Model_s v)) hx hb hK hP 1 1 rfl rfl (mIn_ok h5) dX8_feed_40 ?_
      refine W.eq (g2 := F0 m 41 ls [.int ((Model_s v) (25 : Int32).toNatClampNeg), .int 111, .ref (Modela_s a)]) rfl ?_
      refine lv_iadd hx hb dX8_feed_41 ?_
      refine lv_iload_n hx hb dX8_feed_42 rfl (lv_at hl 1 rfl) ?_
      obtain ⟨h6, hF⟩ := m_chk hF
      refine va_iast (f := (Model_s v)) hx hb hK hP hD hS 1 1 rfl rfl (mIn_ok h6) dX8_feed_43 (fun H locs hP hD hS => ?_)
      have hP : va_P E.1 vwCl (Model_c E a (Model_s_s v (upd (Model_s v) ((111 + ((Model_s v) (25 : Int32).toNatClampNeg))).toNatClampNeg x0))) H := hP
      have hD : va_D A (Model_c E a (Model_s_s v (upd (Model_s v) ((111 + ((Model_s v) (25 : Int32).toNatClampNeg))).toNatClampNeg x0))) := hD
      refine lv_aload_n hx hb dX8_feed_44 rfl (lv_at hl 0 rfl) ?_
      refine va_get (D := E.1) (ci := 8) (v := .ref (Modela_s a)) (C := RX8) (T := TX8) (N := 20) hx hb hts k1 hown hK hP 0 rfl rfl 1 (by decide) k0 (fun _ h9 => h9) rfl dX8_feed_45 ?_
      refine lv_bipush (v := 25) hx hb dX8_feed_48 (by decide) ?_
      refine lv_dup2_11 hx hb dX8_feed_50 rfl rfl ?_
      obtain ⟨h7, hF⟩ := m_chk hF
      refine va_iald (f := (upd (Model_s v) ((111 + ((Model_s v) (25 : Int32).toNatClampNeg))).toNatClampNeg x0)) hx hb hK hP 1 1 rfl rfl (mIn_ok h7) dX8_feed_51 ?_
      refine W.eq (g2 := F0 m 52 ls [.int ((upd (Model_s v) ((111 + ((Model_s v) (25 : Int32).toNatClampNeg))).toNatClampNeg x0) (25 : Int32).toNatClampNeg), .int 25, .ref (Modela_s a)]) rfl ?_
      refine lv_iconst (v := 1) hx hb dX8_feed_52 (by decide) ?_
      refine lv_iadd hx hb dX8_feed_53 ?_
      obtain ⟨h8, hF⟩ := m_chk hF
      refine va_iast (f := (upd (Model_s v) ((111 + ((Model_s v) (25 : Int32).toNatClampNeg))).toNatClampNeg x0)) hx hb hK hP hD hS 1 1 rfl rfl (mIn_ok h8) dX8_feed_54 (fun H locs hP hD hS => ?_)
      have hP : va_P E.1 vwCl (Model_c E a (Model_s_s v (upd (upd (Model_s v) ((111 + ((Model_s v) (25 : Int32).toNatClampNeg))).toNatClampNeg x0) (25 : Int32).toNatClampNeg (((upd (Model_s v) ((111 + ((Model_s v) (25 : Int32).toNatClampNeg))).toNatClampNeg x0) (25 : Int32).toNatClampNeg) + 1)))) H := hP
      have hD : va_D A (Model_c E a (Model_s_s v (upd (upd (Model_s v) ((111 + ((Model_s v) (25 : Int32).toNatClampNeg))).toNatClampNeg x0) (25 : Int32).toNatClampNeg (((upd (Model_s v) ((111 + ((Model_s v) (25 : Int32).toNatClampNeg))).toNatClampNeg x0) (25 : Int32).toNatClampNeg) + 1)))) := hD
      refine lv_aload_n hx hb dX8_feed_55 rfl (lv_at hl 0 rfl) ?_
      refine va_get (D := E.1) (ci := 8) (v := .ref (Modela_s a)) (C := RX8) (T := TX8) (N := 20) hx hb hts k1 hown hK hP 0 rfl rfl 1 (by decide) k0 (fun _ h9 => h9) rfl dX8_feed_56 ?_
      refine lv_bipush (v := 25) hx hb dX8_feed_59 (by decide) ?_
      obtain ⟨h9, hF⟩ := m_chk hF
      refine va_iald (f := (upd (upd (Model_s v) ((111 + ((Model_s v) (25 : Int32).toNatClampNeg))).toNatClampNeg x0) (25 : Int32).toNatClampNeg (((upd (Model_s v) ((111 + ((Model_s v) (25 : Int32).toNatClampNeg))).toNatClampNeg x0) (25 : Int32).toNatClampNeg) + 1))) hx hb hK hP 1 1 rfl rfl (mIn_ok h9) dX8_feed_61 ?_
      refine W.eq (g2 := F0 m 62 ls [.int ((upd (upd (Model_s v) ((111 + ((Model_s v) (25 : Int32).toNatClampNeg))).toNatClampNeg x0) (25 : Int32).toNatClampNeg (((upd (Model_s v) ((111 + ((Model_s v) (25 : Int32).toNatClampNeg))).toNatClampNeg x0) (25 : Int32).toNatClampNeg) + 1)) (25 : Int32).toNatClampNeg)]) rfl ?_
      have hF := Option.some.inj hF
      subst hF
      rw [hQ]
      exact W.iret hx hb hr (fun t ht _ => ⟨⟨rfl, by rw [ht]; exact hP, hD⟩, hS.F ht⟩) hS.2.2 dX8_feed_62
    · have hF := m_neg (fun n9 => n9 c4) hF
      refine lv_bipush (v := (-4)) hx hb dX8_feed_25 (by decide) ?_
      have hF := Option.some.inj hF
      subst hF
      rw [hQ]
      exact W.iret hx hb hr (fun t ht _ => ⟨⟨rfl, by rw [ht]; exact hP, hD⟩, hS.F ht⟩) hS.2.2 dX8_feed_27
  · have hF := m_neg (fun n9 => n9 c2) hF
    refine lv_bipush (v := (-2)) hx hb dX8_feed_10 (by decide) ?_
    have hF := Option.some.inj hF
    subst hF
    rw [hQ]
    exact W.iret hx hb hr (fun t ht _ => ⟨⟨rfl, by rw [ht]; exact hP, hD⟩, hS.F ht⟩) hS.2.2 dX8_feed_12

abbrev rmX8_here : Room := { frames := 0, cells := 0, slots := 0, locals := 0 }
set_option maxRecDepth 100000 in
set_option maxHeartbeats 400000 in
theorem c_X8_here (l : Launch) (E : mE) (a : ModelA) (v : ModelV) (t : Int32) (hF : fn_X8_here v = some t) : Met l yX8_here wsX8_here rmX8_here (mPp E [.ref (Modela_self a)] (Model_c E a v)) (mSp (some (.int t))) 0 0 (fun _ => False) := by
  refine mOfP (cc := cX8_here) (maxL := 1) (ret := (some .int)) (by decide) rfl (Nat.le_of_ble_eq_true rfl) ?_
  intro p e_ s m args below meth c Q hQ CC hr hlocks hP hKN hGl ls hl
  have hS : va_S (fun _ => False) s.heap s.heap [] := va_S.rf
  have hK := hKN.1
  have hx := CC.1
  have hb := CC.2.1
  have hml := CC.2.2.1
  have hown : s.vm.findClass RX8 = some m.cls := CC.2.2.2.1
  have hts := CC.2.2.2.2
  have hl : lv_has ls 1 [(0, .ref (Modela_self a))] := hl
  have k0 := hts (.fieldLink RX8 42 "OneDidAllModel" "spot" "I") (by decide +kernel)
  have k1 := (show ∀ w ∈ u_ws RX8 TX8 20, w ∈ wsX8_here by decide +kernel)
  have k2 := hts (.fieldLink RX8 45 "OneDidAllModel" "end" "I") (by decide +kernel)
  have k3 := hts (.fieldLink RX8 9 "OneDidAllModel" "s" "[I") (by decide +kernel)
  unfold fn_X8_here at hF
  refine lv_aload_n hx hb dX8_here_0 rfl (lv_at hl 0 rfl) ?_
  refine va_get (D := E.1) (ci := 8) (v := .int (Model_spot v)) (C := RX8) (T := TX8) (N := 20) hx hb hts k1 hown hK hP 0 rfl rfl 6 (by decide) k0 (fun _ h9 => h9) rfl dX8_here_1 ?_
  refine lv_aload_n hx hb dX8_here_4 rfl (lv_at hl 0 rfl) ?_
  refine va_get (D := E.1) (ci := 8) (v := .int (Model_end v)) (C := RX8) (T := TX8) (N := 20) hx hb hts k1 hown hK hP 0 rfl rfl 7 (by decide) k2 (fun _ h9 => h9) rfl dX8_here_5 ?_
  refine lv_icmp_ge (tgt := 26) hx hb dX8_here_8 (by decide) (fun c1 => ?_) (fun c1 => ?_)
  · have hF := m_pos c1 hF
    refine lv_iconst (v := (-1)) hx hb dX8_here_26 (by decide) ?_
    have hF := Option.some.inj hF
    subst hF
    rw [hQ]
    exact W.iret hx hb hr (fun t ht _ => ⟨rfl, ht⟩) (fun _ h => by cases h) dX8_here_27
  · have hF := m_neg c1 hF
    refine lv_aload_n hx hb dX8_here_11 rfl (lv_at hl 0 rfl) ?_
    refine va_get (D := E.1) (ci := 8) (v := .ref (Modela_s a)) (C := RX8) (T := TX8) (N := 20) hx hb hts k1 hown hK hP 0 rfl rfl 1 (by decide) k3 (fun _ h9 => h9) rfl dX8_here_12 ?_
    refine lv_bipush (v := 111) hx hb dX8_here_15 (by decide) ?_
    refine lv_aload_n hx hb dX8_here_17 rfl (lv_at hl 0 rfl) ?_
    refine va_get (D := E.1) (ci := 8) (v := .int (Model_spot v)) (C := RX8) (T := TX8) (N := 20) hx hb hts k1 hown hK hP 0 rfl rfl 6 (by decide) k0 (fun _ h9 => h9) rfl dX8_here_18 ?_
    refine lv_iadd hx hb dX8_here_21 ?_
    obtain ⟨h2, hF⟩ := m_chk hF
    refine va_iald (f := (Model_s v)) hx hb hK hP 1 1 rfl rfl (mIn_ok h2) dX8_here_22 ?_
    refine W.eq (g2 := F0 m 23 ls [.int ((Model_s v) ((111 + (Model_spot v))).toNatClampNeg)]) rfl ?_
    refine lv_goto (tgt := 27) hx hb dX8_here_23 (by decide) ?_
    have hF := Option.some.inj hF
    subst hF
    rw [hQ]
    exact W.iret hx hb hr (fun t ht _ => ⟨rfl, ht⟩) (fun _ h => by cases h) dX8_here_27

abbrev rmX8_must : Room := { frames := 1, cells := 0, slots := 0, locals := 20 }
set_option maxRecDepth 100000 in
set_option maxHeartbeats 400000 in
theorem c_X8_must (l : Launch) (E : mE) (a : ModelA) (v : ModelV) (x0 : Int32) (t : ModelV) (hF : fn_X8_must v x0 = some t) (sz : Nat) : Met l yX8_must wsX8_must rmX8_must (mPm E [.ref (Modela_self a), .int x0] sz ((Model_c E a v)) (([] : va_W))) (mSm E (none) ((Model_c E a t)) (va_A ((Model_c E a v)) sz)) 0 0 (va_A ((Model_c E a v)) sz) := by
  refine mOfM (cc := cX8_must) (maxL := 2) (ret := none) (by decide) rfl (Nat.le_of_ble_eq_true rfl) ?_
  intro p e_ s m args below meth c Q A hQ CC hr hlocks hin hA hP hD hKN hGl hR0 hRA ls hl
  have hS : va_S A s.heap s.heap [] := va_S.rf
  have hK := hKN.1
  have hx := CC.1
  have hb := CC.2.1
  have hml := CC.2.2.1
  have hown : s.vm.findClass RX8 = some m.cls := CC.2.2.2.1
  have hts := CC.2.2.2.2
  have hl : lv_has ls 2 [(0, .ref (Modela_self a)), (1, .int x0)] := hl
  have k0 := hts (.fieldLink RX8 48 "OneDidAllModel" "isWrong" "Z") (by decide +kernel)
  have k1 := (show ∀ w ∈ u_ws RX8 TX8 20, w ∈ wsX8_must by decide +kernel)
  have k2 := hts (.fieldLink RX8 42 "OneDidAllModel" "spot" "I") (by decide +kernel)
  have hP : va_P E.1 vwCl (Model_c E a v) s.heap := hP
  obtain ⟨H, hH⟩ : ∃ H, H = s.heap := ⟨_, rfl⟩
  obtain ⟨locs, hlc⟩ : ∃ z : List Loc, z = [] := ⟨_, rfl⟩
  rw [← hH] at hP
  rw [← hlc] at hS
  have hS : va_S A s.heap H locs := by rw [hH]; exact hS
  rw [← hH, ← hlc]
  unfold fn_X8_must at hF
  refine lv_aload_n hx hb dX8_must_0 rfl (lv_at hl 0 rfl) ?_
  refine lv_aload_n hx hb dX8_must_1 rfl (lv_at hl 0 rfl) ?_
  refine va_get (D := E.1) (ci := 8) (v := .int (Model_isWrong v)) (C := RX8) (T := TX8) (N := 20) hx hb hts k1 hown hK hP 0 rfl rfl 8 (by decide) k0 (fun _ h9 => h9) rfl dX8_must_2 ?_
  obtain ⟨j21, hjd21, hF⟩ := m_jp hF
  have hj21 : ∀ (z0_21 : Int32) (H : Heap) (locs : List Loc) (ls : Array Slot), j21 z0_21 = some t → va_P E.1 vwCl (Model_c E a v) H → va_D A (Model_c E a v) → va_S A s.heap H locs → lv_has ls 2 [(0, .ref (Modela_self a))] → W p l e_ rmX8_must s m args below meth c H locs 0 0 Q (F0 m 21 ls [.int z0_21, .ref (Modela_self a)]) := by
    intro z0_21 H locs ls hF hP hD hS hl
    rw [hjd21] at hF
    obtain ⟨h1, hF⟩ := m_chk hF
    refine va_put (D := E.1) (ci := 8) (v := .int z0_21) (ty := .boolean) (C := RX8) (T := TX8) (N := 20) hx hb hts k1 tyX8 tyX8_ok nmX8 hown hK hP hD hS 0 rfl rfl 8 (by decide) k0 (fun _ h9 => h9) rfl (by decide +kernel) (mBit_nar h1) (mBit_fit h1) (Nat.le_of_ble_eq_true rfl) dX8_must_21 (fun H locs hP hD hS => ?_)
    have hP : va_P E.1 vwCl (Model_c E a (Model_isWrong_s v z0_21)) H := hP
    have hD : va_D A (Model_c E a (Model_isWrong_s v z0_21)) := hD
    refine lv_aload_n hx hb dX8_must_24 rfl (lv_at hl 0 rfl) ?_
    refine lv_dup hx hb dX8_must_25 rfl ?_
    refine va_get (D := E.1) (ci := 8) (v := .int (Model_spot v)) (C := RX8) (T := TX8) (N := 20) hx hb hts k1 hown hK hP 0 rfl rfl 6 (by decide) k2 (fun _ h9 => h9) rfl dX8_must_26 ?_
    refine lv_aload_n hx hb dX8_must_29 rfl (lv_at hl 0 rfl) ?_
    refine va_get (D := E.1) (ci := 8) (v := .int z0_21) (C := RX8) (T := TX8) (N := 20) hx hb hts k1 hown hK hP 0 rfl rfl 8 (by decide) k0 (fun _ h9 => h9) rfl dX8_must_30 ?_
    obtain ⟨j41, hjd41, hF⟩ := m_jp hF
    have hj41 : ∀ (z0_41 : Int32) (H : Heap) (locs : List Loc) (ls : Array Slot), j41 z0_41 = some t → va_P E.1 vwCl (Model_c E a (Model_isWrong_s v z0_21)) H → va_D A (Model_c E a (Model_isWrong_s v z0_21)) → va_S A s.heap H locs → lv_has ls 2 [] → W p l e_ rmX8_must s m args below meth c H locs 0 0 Q (F0 m 41 ls [.int z0_41, .int (Model_spot v), .ref (Modela_self a)]) := by
      intro z0_41 H locs ls hF hP hD hS hl
      rw [hjd41] at hF
      refine lv_iadd hx hb dX8_must_41 ?_
      refine va_put (D := E.1) (ci := 8) (v := .int ((Model_spot v) + z0_41)) (ty := .int) (C := RX8) (T := TX8) (N := 20) hx hb hts k1 tyX8 tyX8_ok nmX8 hown hK hP hD hS 0 rfl rfl 6 (by decide) k2 (fun _ h9 => h9) rfl (by decide +kernel) rfl rfl (Nat.le_of_ble_eq_true rfl) dX8_must_42 (fun H locs hP hD hS => ?_)
      have hP : va_P E.1 vwCl (Model_c E a (Model_isWrong_s (Model_spot_s v ((Model_spot v) + z0_41)) z0_21)) H := hP
      have hD : va_D A (Model_c E a (Model_isWrong_s (Model_spot_s v ((Model_spot v) + z0_41)) z0_21)) := hD
      have hF := Option.some.inj hF
      subst hF
      rw [hQ]
      exact W.vret hx hb hr (fun t ht _ => ⟨⟨rfl, by rw [ht]; exact hP, hD⟩, hS.F ht⟩) hS.2.2 dX8_must_45
    clear hjd41
    refine lv_if_eq (tgt := 40) hx hb dX8_must_33 (by decide) (fun c2 => ?_) (fun c2 => ?_)
    · have hF := m_pos c2 hF
      refine lv_iconst (v := 1) hx hb dX8_must_40 (by decide) ?_
      exact hj41 1 H locs ls hF hP hD hS (lv_sub hl [] rfl)
    · have hF := m_neg c2 hF
      refine lv_iconst (v := 0) hx hb dX8_must_36 (by decide) ?_
      refine lv_goto (tgt := 41) hx hb dX8_must_37 (by decide) ?_
      exact hj41 0 H locs ls hF hP hD hS (lv_sub hl [] rfl)
  clear hjd21
  obtain ⟨j16, hjd16, hF⟩ := m_jp hF
  have hj16 : ∀ (H : Heap) (locs : List Loc) (ls : Array Slot), j16 () = some t → va_P E.1 vwCl (Model_c E a v) H → va_D A (Model_c E a v) → va_S A s.heap H locs → lv_has ls 2 [(0, .ref (Modela_self a))] → W p l e_ rmX8_must s m args below meth c H locs 0 0 Q (F0 m 16 ls [.ref (Modela_self a)]) := by
    intro H locs ls hF hP hD hS hl
    rw [hjd16] at hF
    refine lv_iconst (v := 1) hx hb dX8_must_16 (by decide) ?_
    refine lv_goto (tgt := 21) hx hb dX8_must_17 (by decide) ?_
    exact hj21 1 H locs ls hF hP hD hS (lv_sub hl [0] rfl)
  clear hjd16
  refine lv_if_ne (tgt := 16) hx hb dX8_must_5 (by decide) (fun c3 => ?_) (fun c3 => ?_)
  · have hF := m_pos c3 hF
    exact hj16 H locs ls hF hP hD hS (lv_sub hl [0] rfl)
  · have hF := m_neg (fun n9 => n9 c3) hF
    refine lv_aload_n hx hb dX8_must_8 rfl (lv_at hl 0 rfl) ?_
    obtain ⟨t4, ht4, hF⟩ := m_bnd hF
    refine mVP (ci := 8) (n := 0) (rest := [.ref (Modela_self a)]) (As := []) CC hKN hGl hS (c_X8_here l E a v t4 ht4) gX8_must_X8_here rfl ⟨rfl, rfl⟩ (by decide +kernel) ⟨Nat.le_of_ble_eq_true rfl, Nat.le_of_ble_eq_true rfl⟩ hP rfl rfl rfl rfl hl.1 rfl (Nat.le_of_ble_eq_true rfl) ⟨Nat.zero_le _, Nat.zero_le _⟩ dX8_must_9 ?_
    refine W.eq (g2 := F0 m 12 ls [.int t4, .ref (Modela_self a)]) rfl ?_
    refine lv_iload_n hx hb dX8_must_12 rfl (lv_at hl 1 rfl) ?_
    refine lv_icmp_eq (tgt := 20) hx hb dX8_must_13 (by decide) (fun c5 => ?_) (fun c5 => ?_)
    · have hF := m_pos c5 hF
      refine lv_iconst (v := 0) hx hb dX8_must_20 (by decide) ?_
      exact hj21 0 H locs ls hF hP hD hS (lv_sub hl [0] rfl)
    · have hF := m_neg c5 hF
      exact hj16 H locs ls hF hP hD hS (lv_sub hl [0] rfl)

abbrev rmX8_spells : Room := { frames := 4, cells := 0, slots := 0, locals := 85 }
set_option maxRecDepth 100000 in
set_option maxHeartbeats 400000 in
theorem c_X8_spells (l : Launch) (E : mE) (a : ModelA) (v : ModelV) (x0 : Nat) (t : ModelV) (hF : fn_X8_spells v x0 = some t) (sz : Nat) : Met l yX8_spells wsX8_spells rmX8_spells (mPm E [.ref (Modela_self a), .ref (m_adK E x0)] sz ((Model_c E a v)) (([] : va_W))) (mSm E (none) ((Model_c E a t)) (va_A ((Model_c E a v)) sz)) 0 0 (va_A ((Model_c E a v)) sz) := by
  refine mOfM (cc := cX8_spells) (maxL := 3) (ret := none) (by decide) rfl (Nat.le_of_ble_eq_true rfl) ?_
  intro p e_ s m args below meth c Q A hQ CC hr hlocks hin hA hP hD hKN hGl hR0 hRA ls hl
  have hS : va_S A s.heap s.heap [] := va_S.rf
  have hK := hKN.1
  have hx := CC.1
  have hb := CC.2.1
  have hml := CC.2.2.1
  have hown : s.vm.findClass RX8 = some m.cls := CC.2.2.2.1
  have hts := CC.2.2.2.2
  have hl : lv_has ls 3 [(0, .ref (Modela_self a)), (1, .ref (m_adK E x0))] := hl
  have hP : va_P E.1 vwCl (Model_c E a v) s.heap := hP
  obtain ⟨H, hH⟩ : ∃ H, H = s.heap := ⟨_, rfl⟩
  obtain ⟨locs, hlc⟩ : ∃ z : List Loc, z = [] := ⟨_, rfl⟩
  rw [← hH] at hP
  rw [← hlc] at hS
  have hS : va_S A s.heap H locs := by rw [hH]; exact hS
  rw [← hH, ← hlc]
  unfold fn_X8_spells at hF
  refine lv_iconst (v := 0) hx hb dX8_spells_0 (by decide) ?_
  refine lv_istore_n (lv' := [(2, .int 0), (0, .ref (Modela_self a)), (1, .ref (m_adK E x0))]) hx hb dX8_spells_1 rfl hl (by decide) rfl (fun ls hl => ?_)
  have hL2 : ∀ (n : Nat) (y2_2 : Int32) (wy_2 : ModelV) (H : Heap) (locs : List Loc) (ls : Array Slot), lp_X8_spells_2 x0 n y2_2 wy_2 = some t → va_P E.1 vwCl (Model_c E a wy_2) H → va_D A (Model_c E a wy_2) → va_S A s.heap H locs → lv_has ls 3 [(0, .ref (Modela_self a)), (1, .ref (m_adK E x0)), (2, .int y2_2)] → W p l e_ rmX8_spells s m args below meth c H locs 0 0 Q (F0 m 2 ls []) := by
    intro n
    induction n with
    | zero =>
      intro y2_2 wy_2 H locs ls hF
      exact nomatch (show (none : Option ModelV) = some t from hF)
    | succ n ih2 =>
      intro y2_2 wy_2 H locs ls hF hP hD hS hl
      have hF : st_X8_spells_2 x0 (lp_X8_spells_2 x0 n) y2_2 wy_2 = some t := hF
      unfold st_X8_spells_2 at hF
      refine lv_iload_n hx hb dX8_spells_2 rfl (lv_at hl 2 rfl) ?_
      refine lv_aload_n hx hb dX8_spells_3 rfl (lv_at hl 1 rfl) ?_
      obtain ⟨h2, hF⟩ := m_chk hF
      obtain ⟨t1, ht1, hF⟩ := m_bnd hF
      refine mVPs (n := 0) (rest := [.int y2_2]) (As := []) CC hKN hGl hS (c_J0_length_8abf5 l E x0 t1 ht1) gX8_spells_J0_length_8abf5 rfl ⟨rfl, rfl⟩ (by decide +kernel) ⟨Nat.le_of_ble_eq_true rfl, Nat.le_of_ble_eq_true rfl⟩ m_nil (vk_recv hGl.2.2.2.2.1 h2 hS) rfl hl.1 rfl (Nat.le_of_ble_eq_true rfl) ⟨Nat.zero_le _, Nat.zero_le _⟩ dX8_spells_4 ?_
      refine W.eq (g2 := F0 m 7 ls [.int t1, .int y2_2]) rfl ?_
      refine lv_icmp_ge (tgt := 25) hx hb dX8_spells_7 (by decide) (fun c3 => ?_) (fun c3 => ?_)
      · have hF := m_pos c3 hF
        have hF := Option.some.inj hF
        subst hF
        rw [hQ]
        exact W.vret hx hb hr (fun t ht _ => ⟨⟨rfl, by rw [ht]; exact hP, hD⟩, hS.F ht⟩) hS.2.2 dX8_spells_25
      · have hF := m_neg c3 hF
        refine lv_aload_n hx hb dX8_spells_10 rfl (lv_at hl 0 rfl) ?_
        refine lv_aload_n hx hb dX8_spells_11 rfl (lv_at hl 1 rfl) ?_
        refine lv_iload_n hx hb dX8_spells_12 rfl (lv_at hl 2 rfl) ?_
        obtain ⟨h5, hF⟩ := m_chk hF
        obtain ⟨t4, ht4, hF⟩ := m_bnd hF
        refine mVPs (n := 1) (rest := [.ref (Modela_self a)]) (As := [.int y2_2]) CC hKN hGl hS (c_J0_charAt_5068e l E x0 y2_2 t4 ht4) gX8_spells_J0_charAt_5068e rfl ⟨rfl, rfl⟩ (by decide +kernel) ⟨Nat.le_of_ble_eq_true rfl, Nat.le_of_ble_eq_true rfl⟩ m_nil (vk_recv hGl.2.2.2.2.1 h5 hS) rfl hl.1 rfl (Nat.le_of_ble_eq_true rfl) ⟨Nat.zero_le _, Nat.zero_le _⟩ dX8_spells_13 ?_
        refine W.eq (g2 := F0 m 16 ls [.int t4, .ref (Modela_self a)]) rfl ?_
        obtain ⟨t6, ht6, hF⟩ := m_bnd hF
        have hPc := hP
        have hDc := hD
        have hFc := va_free (wc := (Model_c E a wy_2)) hD hS hA [0, 1, 2, 3, 4, 5, 6, 7] rfl
        refine mVM (ci := 8) (n := 1) (rest := []) (As := [.int t4]) CC hKN hGl (c_X8_must l E a wy_2 t4 t6 ht6 _) gX8_spells_X8_must rfl ⟨rfl, rfl⟩ (by decide +kernel) ⟨Nat.le_of_ble_eq_true rfl, Nat.le_of_ble_eq_true rfl⟩ hPc hDc m_nil m_nilA hS hFc rfl rfl rfl rfl hl.1 rfl (Nat.le_of_ble_eq_true rfl) ⟨Nat.zero_le _, Nat.zero_le _⟩ dX8_spells_16 (fun H1 locs hP1 hD1 hz1 hk1 hS => ?_)
        have hP : va_P E.1 vwCl (Model_c E a t6) H1 := hP1
        have hD : va_D A (Model_c E a t6) := m_back hD1 hFc
        generalize H1 = H at hP hS ⊢
        refine W.eq (g2 := F0 m 19 ls []) rfl ?_
        refine lv_iinc (v := (y2_2 + 1)) (lv' := [(2, .int (y2_2 + 1)), (0, .ref (Modela_self a)), (1, .ref (m_adK E x0))]) hx hb dX8_spells_19 hl (k := 2) rfl rfl (by decide) rfl (fun ls hl => ?_)
        refine lv_goto (tgt := 2) hx hb dX8_spells_22 (by decide) ?_
        exact ih2 (y2_2 + 1) t6 H locs ls hF hP hD hS (lv_sub hl [1, 2, 0] rfl)
  exact hL2 m_N 0 v H locs ls hF hP hD hS (lv_sub hl [1, 2, 0] rfl)

abbrev rmX8_figures : Room := { frames := 1, cells := 0, slots := 0, locals := 22 }
set_option maxRecDepth 100000 in
set_option maxHeartbeats 400000 in
theorem c_X8_figures (l : Launch) (E : mE) (a : ModelA) (v : ModelV) (t : (Int32 × ModelV)) (hF : fn_X8_figures v = some t) (sz : Nat) : Met l yX8_figures wsX8_figures rmX8_figures (mPm E [.ref (Modela_self a)] sz ((Model_c E a v)) (([] : va_W))) (mSm E (some (.int t.1)) ((Model_c E a t.2)) (va_A ((Model_c E a v)) sz)) 0 0 (va_A ((Model_c E a v)) sz) := by
  refine mOfM (cc := cX8_figures) (maxL := 3) (ret := (some .int)) (by decide) rfl (Nat.le_of_ble_eq_true rfl) ?_
  intro p e_ s m args below meth c Q A hQ CC hr hlocks hin hA hP hD hKN hGl hR0 hRA ls hl
  have hS : va_S A s.heap s.heap [] := va_S.rf
  have hK := hKN.1
  have hx := CC.1
  have hb := CC.2.1
  have hml := CC.2.2.1
  have hown : s.vm.findClass RX8 = some m.cls := CC.2.2.2.1
  have hts := CC.2.2.2.2
  have hl : lv_has ls 3 [(0, .ref (Modela_self a))] := hl
  have k0 := hts (.fieldLink RX8 48 "OneDidAllModel" "isWrong" "Z") (by decide +kernel)
  have k1 := (show ∀ w ∈ u_ws RX8 TX8 20, w ∈ wsX8_figures by decide +kernel)
  have k2 := hts (.fieldLink RX8 42 "OneDidAllModel" "spot" "I") (by decide +kernel)
  have hP : va_P E.1 vwCl (Model_c E a v) s.heap := hP
  obtain ⟨H, hH⟩ : ∃ H, H = s.heap := ⟨_, rfl⟩
  obtain ⟨locs, hlc⟩ : ∃ z : List Loc, z = [] := ⟨_, rfl⟩
  rw [← hH] at hP
  rw [← hlc] at hS
  have hS : va_S A s.heap H locs := by rw [hH]; exact hS
  rw [← hH, ← hlc]
  unfold fn_X8_figures at hF
  refine lv_aload_n hx hb dX8_figures_0 rfl (lv_at hl 0 rfl) ?_
  refine lv_aload_n hx hb dX8_figures_1 rfl (lv_at hl 0 rfl) ?_
  refine va_get (D := E.1) (ci := 8) (v := .int (Model_isWrong v)) (C := RX8) (T := TX8) (N := 20) hx hb hts k1 hown hK hP 0 rfl rfl 8 (by decide) k0 (fun _ h9 => h9) rfl dX8_figures_2 ?_
  obtain ⟨j27, hjd27, hF⟩ := m_jp hF
  have hj27 : ∀ (z0_27 : Int32) (H : Heap) (locs : List Loc) (ls : Array Slot), j27 z0_27 = some t → va_P E.1 vwCl (Model_c E a v) H → va_D A (Model_c E a v) → va_S A s.heap H locs → lv_has ls 3 [(0, .ref (Modela_self a))] → W p l e_ rmX8_figures s m args below meth c H locs 0 0 Q (F0 m 27 ls [.int z0_27, .ref (Modela_self a)]) := by
    intro z0_27 H locs ls hF hP hD hS hl
    rw [hjd27] at hF
    obtain ⟨h1, hF⟩ := m_chk hF
    refine va_put (D := E.1) (ci := 8) (v := .int z0_27) (ty := .boolean) (C := RX8) (T := TX8) (N := 20) hx hb hts k1 tyX8 tyX8_ok nmX8 hown hK hP hD hS 0 rfl rfl 8 (by decide) k0 (fun _ h9 => h9) rfl (by decide +kernel) (mBit_nar h1) (mBit_fit h1) (Nat.le_of_ble_eq_true rfl) dX8_figures_27 (fun H locs hP hD hS => ?_)
    have hP : va_P E.1 vwCl (Model_c E a (Model_isWrong_s v z0_27)) H := hP
    have hD : va_D A (Model_c E a (Model_isWrong_s v z0_27)) := hD
    refine lv_iconst (v := 0) hx hb dX8_figures_30 (by decide) ?_
    refine lv_istore_n (lv' := [(1, .int 0), (0, .ref (Modela_self a))]) hx hb dX8_figures_31 rfl hl (by decide) rfl (fun ls hl => ?_)
    refine lv_iconst (v := 0) hx hb dX8_figures_32 (by decide) ?_
    refine lv_istore_n (lv' := [(2, .int 0), (1, .int 0), (0, .ref (Modela_self a))]) hx hb dX8_figures_33 rfl hl (by decide) rfl (fun ls hl => ?_)
    have hL34 : ∀ (n : Nat) (y1_34 : Int32) (y2_34 : Int32) (wy_34 : ModelV) (H : Heap) (locs : List Loc) (ls : Array Slot), lp_X8_figures_34  n y1_34 y2_34 wy_34 = some t → va_P E.1 vwCl (Model_c E a wy_34) H → va_D A (Model_c E a wy_34) → va_S A s.heap H locs → lv_has ls 3 [(0, .ref (Modela_self a)), (1, .int y1_34), (2, .int y2_34)] → W p l e_ rmX8_figures s m args below meth c H locs 0 0 Q (F0 m 34 ls []) := by
      intro n
      induction n with
      | zero =>
        intro y1_34 y2_34 wy_34 H locs ls hF
        exact nomatch (show (none : Option (Int32 × ModelV)) = some t from hF)
      | succ n ih34 =>
        intro y1_34 y2_34 wy_34 H locs ls hF hP hD hS hl
        have hF : st_X8_figures_34  (lp_X8_figures_34  n) y1_34 y2_34 wy_34 = some t := hF
        unfold st_X8_figures_34 at hF
        refine lv_iload_n hx hb dX8_figures_34 rfl (lv_at hl 2 rfl) ?_
        refine lv_iconst (v := 2) hx hb dX8_figures_35 (by decide) ?_
        refine lv_icmp_ge (tgt := 97) hx hb dX8_figures_36 (by decide) (fun c2 => ?_) (fun c2 => ?_)
        · have hF := m_pos c2 hF
          refine lv_iload_n hx hb dX8_figures_97 rfl (lv_at hl 1 rfl) ?_
          have hF := Option.some.inj hF
          subst hF
          rw [hQ]
          exact W.iret hx hb hr (fun t ht _ => ⟨⟨rfl, by rw [ht]; exact hP, hD⟩, hS.F ht⟩) hS.2.2 dX8_figures_98
        · have hF := m_neg c2 hF
          refine lv_aload_n hx hb dX8_figures_39 rfl (lv_at hl 0 rfl) ?_
          refine va_get (D := E.1) (ci := 8) (v := .int (Model_isWrong wy_34)) (C := RX8) (T := TX8) (N := 20) hx hb hts k1 hown hK hP 0 rfl rfl 8 (by decide) k0 (fun _ h9 => h9) rfl dX8_figures_40 ?_
          refine lv_if_ne (tgt := 97) hx hb dX8_figures_43 (by decide) (fun c3 => ?_) (fun c3 => ?_)
          · have hF := m_pos c3 hF
            refine lv_iload_n hx hb dX8_figures_97 rfl (lv_at hl 1 rfl) ?_
            have hF := Option.some.inj hF
            subst hF
            rw [hQ]
            exact W.iret hx hb hr (fun t ht _ => ⟨⟨rfl, by rw [ht]; exact hP, hD⟩, hS.F ht⟩) hS.2.2 dX8_figures_98
          · have hF := m_neg (fun n9 => n9 c3) hF
            refine lv_aload_n hx hb dX8_figures_46 rfl (lv_at hl 0 rfl) ?_
            obtain ⟨t4, ht4, hF⟩ := m_bnd hF
            refine mVP (ci := 8) (n := 0) (rest := []) (As := []) CC hKN hGl hS (c_X8_here l E a wy_34 t4 ht4) gX8_figures_X8_here rfl ⟨rfl, rfl⟩ (by decide +kernel) ⟨Nat.le_of_ble_eq_true rfl, Nat.le_of_ble_eq_true rfl⟩ hP rfl rfl rfl rfl hl.1 rfl (Nat.le_of_ble_eq_true rfl) ⟨Nat.zero_le _, Nat.zero_le _⟩ dX8_figures_47 ?_
            refine W.eq (g2 := F0 m 50 ls [.int t4]) rfl ?_
            refine lv_bipush (v := 48) hx hb dX8_figures_50 (by decide) ?_
            refine lv_bipush (v := 57) hx hb dX8_figures_52 (by decide) ?_
            obtain ⟨t5, ht5, hF⟩ := m_bnd hF
            refine mSP (n := 3) (rest := []) (As := [.int t4, .int 48, .int 57]) CC hKN hGl hS (c_X8_in l E t4 48 57 t5 ht5) gX8_figures_X8_in rfl ⟨rfl, rfl⟩ (by decide +kernel) ⟨Nat.le_of_ble_eq_true rfl, Nat.le_of_ble_eq_true rfl⟩ m_nil rfl hl.1 rfl (Nat.le_of_ble_eq_true rfl) ⟨Nat.zero_le _, Nat.zero_le _⟩ dX8_figures_54 ?_
            refine W.eq (g2 := F0 m 57 ls [.int t5]) rfl ?_
            refine lv_if_eq (tgt := 97) hx hb dX8_figures_57 (by decide) (fun c6 => ?_) (fun c6 => ?_)
            · have hF := m_pos c6 hF
              refine lv_iload_n hx hb dX8_figures_97 rfl (lv_at hl 1 rfl) ?_
              have hF := Option.some.inj hF
              subst hF
              rw [hQ]
              exact W.iret hx hb hr (fun t ht _ => ⟨⟨rfl, by rw [ht]; exact hP, hD⟩, hS.F ht⟩) hS.2.2 dX8_figures_98
            · have hF := m_neg c6 hF
              refine lv_iload_n hx hb dX8_figures_60 rfl (lv_at hl 2 rfl) ?_
              obtain ⟨j68, hjd68, hF⟩ := m_jp hF
              have hj68 : ∀ (H : Heap) (locs : List Loc) (ls : Array Slot), j68 () = some t → va_P E.1 vwCl (Model_c E a wy_34) H → va_D A (Model_c E a wy_34) → va_S A s.heap H locs → lv_has ls 3 [(0, .ref (Modela_self a)), (1, .int y1_34), (2, .int y2_34)] → W p l e_ rmX8_figures s m args below meth c H locs 0 0 Q (F0 m 68 ls []) := by
                intro H locs ls hF hP hD hS hl
                rw [hjd68] at hF
                refine lv_bipush (v := 10) hx hb dX8_figures_68 (by decide) ?_
                refine lv_iload_n hx hb dX8_figures_70 rfl (lv_at hl 1 rfl) ?_
                refine lv_imul hx hb dX8_figures_71 ?_
                refine lv_aload_n hx hb dX8_figures_72 rfl (lv_at hl 0 rfl) ?_
                obtain ⟨t7, ht7, hF⟩ := m_bnd hF
                refine mVP (ci := 8) (n := 0) (rest := [.int (10 * y1_34)]) (As := []) CC hKN hGl hS (c_X8_here l E a wy_34 t7 ht7) gX8_figures_X8_here rfl ⟨rfl, rfl⟩ (by decide +kernel) ⟨Nat.le_of_ble_eq_true rfl, Nat.le_of_ble_eq_true rfl⟩ hP rfl rfl rfl rfl hl.1 rfl (Nat.le_of_ble_eq_true rfl) ⟨Nat.zero_le _, Nat.zero_le _⟩ dX8_figures_73 ?_
                refine W.eq (g2 := F0 m 76 ls [.int t7, .int (10 * y1_34)]) rfl ?_
                refine lv_iadd hx hb dX8_figures_76 ?_
                refine lv_bipush (v := 48) hx hb dX8_figures_77 (by decide) ?_
                refine lv_isub hx hb dX8_figures_79 ?_
                refine lv_istore_n (lv' := [(1, .int (((10 * y1_34) + t7) - 48)), (0, .ref (Modela_self a)), (2, .int y2_34)]) hx hb dX8_figures_80 rfl hl (by decide) rfl (fun ls hl => ?_)
                refine lv_aload_n hx hb dX8_figures_81 rfl (lv_at hl 1 rfl) ?_
                refine lv_dup hx hb dX8_figures_82 rfl ?_
                refine va_get (D := E.1) (ci := 8) (v := .int (Model_spot wy_34)) (C := RX8) (T := TX8) (N := 20) hx hb hts k1 hown hK hP 0 rfl rfl 6 (by decide) k2 (fun _ h9 => h9) rfl dX8_figures_83 ?_
                refine lv_iconst (v := 1) hx hb dX8_figures_86 (by decide) ?_
                refine lv_iadd hx hb dX8_figures_87 ?_
                refine va_put (D := E.1) (ci := 8) (v := .int ((Model_spot wy_34) + 1)) (ty := .int) (C := RX8) (T := TX8) (N := 20) hx hb hts k1 tyX8 tyX8_ok nmX8 hown hK hP hD hS 0 rfl rfl 6 (by decide) k2 (fun _ h9 => h9) rfl (by decide +kernel) rfl rfl (Nat.le_of_ble_eq_true rfl) dX8_figures_88 (fun H locs hP hD hS => ?_)
                have hP : va_P E.1 vwCl (Model_c E a (Model_spot_s wy_34 ((Model_spot wy_34) + 1))) H := hP
                have hD : va_D A (Model_c E a (Model_spot_s wy_34 ((Model_spot wy_34) + 1))) := hD
                refine lv_iinc (v := (y2_34 + 1)) (lv' := [(2, .int (y2_34 + 1)), (1, .int (((10 * y1_34) + t7) - 48)), (0, .ref (Modela_self a))]) hx hb dX8_figures_91 hl (k := 2) rfl rfl (by decide) rfl (fun ls hl => ?_)
                refine lv_goto (tgt := 34) hx hb dX8_figures_94 (by decide) ?_
                exact ih34 (((10 * y1_34) + t7) - 48) (y2_34 + 1) (Model_spot_s wy_34 ((Model_spot wy_34) + 1)) H locs ls hF hP hD hS (lv_sub hl [2, 1, 0] rfl)
              clear hjd68
              refine lv_if_eq (tgt := 68) hx hb dX8_figures_61 (by decide) (fun c8 => ?_) (fun c8 => ?_)
              · have hF := m_pos c8 hF
                exact hj68 H locs ls hF hP hD hS (lv_sub hl [0, 1, 2] rfl)
              · have hF := m_neg c8 hF
                refine lv_iload_n hx hb dX8_figures_64 rfl (lv_at hl 1 rfl) ?_
                refine lv_if_le (tgt := 97) hx hb dX8_figures_65 (by decide) (fun c9 => ?_) (fun c9 => ?_)
                · have hF := m_pos c9 hF
                  refine lv_iload_n hx hb dX8_figures_97 rfl (lv_at hl 1 rfl) ?_
                  have hF := Option.some.inj hF
                  subst hF
                  rw [hQ]
                  exact W.iret hx hb hr (fun t ht _ => ⟨⟨rfl, by rw [ht]; exact hP, hD⟩, hS.F ht⟩) hS.2.2 dX8_figures_98
                · have hF := m_neg c9 hF
                  exact hj68 H locs ls hF hP hD hS (lv_sub hl [0, 1, 2] rfl)
    exact hL34 m_N 0 0 (Model_isWrong_s v z0_27) H locs ls hF hP hD hS (lv_sub hl [2, 1, 0] rfl)
  clear hjd27
  obtain ⟨j22, hjd22, hF⟩ := m_jp hF
  have hj22 : ∀ (H : Heap) (locs : List Loc) (ls : Array Slot), j22 () = some t → va_P E.1 vwCl (Model_c E a v) H → va_D A (Model_c E a v) → va_S A s.heap H locs → lv_has ls 3 [(0, .ref (Modela_self a))] → W p l e_ rmX8_figures s m args below meth c H locs 0 0 Q (F0 m 22 ls [.ref (Modela_self a)]) := by
    intro H locs ls hF hP hD hS hl
    rw [hjd22] at hF
    refine lv_iconst (v := 1) hx hb dX8_figures_22 (by decide) ?_
    refine lv_goto (tgt := 27) hx hb dX8_figures_23 (by decide) ?_
    exact hj27 1 H locs ls hF hP hD hS (lv_sub hl [0] rfl)
  clear hjd22
  refine lv_if_ne (tgt := 22) hx hb dX8_figures_5 (by decide) (fun c10 => ?_) (fun c10 => ?_)
  · have hF := m_pos c10 hF
    exact hj22 H locs ls hF hP hD hS (lv_sub hl [0] rfl)
  · have hF := m_neg (fun n9 => n9 c10) hF
    refine lv_aload_n hx hb dX8_figures_8 rfl (lv_at hl 0 rfl) ?_
    obtain ⟨t11, ht11, hF⟩ := m_bnd hF
    refine mVP (ci := 8) (n := 0) (rest := [.ref (Modela_self a)]) (As := []) CC hKN hGl hS (c_X8_here l E a v t11 ht11) gX8_figures_X8_here rfl ⟨rfl, rfl⟩ (by decide +kernel) ⟨Nat.le_of_ble_eq_true rfl, Nat.le_of_ble_eq_true rfl⟩ hP rfl rfl rfl rfl hl.1 rfl (Nat.le_of_ble_eq_true rfl) ⟨Nat.zero_le _, Nat.zero_le _⟩ dX8_figures_9 ?_
    refine W.eq (g2 := F0 m 12 ls [.int t11, .ref (Modela_self a)]) rfl ?_
    refine lv_bipush (v := 48) hx hb dX8_figures_12 (by decide) ?_
    refine lv_bipush (v := 57) hx hb dX8_figures_14 (by decide) ?_
    obtain ⟨t12, ht12, hF⟩ := m_bnd hF
    refine mSP (n := 3) (rest := [.ref (Modela_self a)]) (As := [.int t11, .int 48, .int 57]) CC hKN hGl hS (c_X8_in l E t11 48 57 t12 ht12) gX8_figures_X8_in rfl ⟨rfl, rfl⟩ (by decide +kernel) ⟨Nat.le_of_ble_eq_true rfl, Nat.le_of_ble_eq_true rfl⟩ m_nil rfl hl.1 rfl (Nat.le_of_ble_eq_true rfl) ⟨Nat.zero_le _, Nat.zero_le _⟩ dX8_figures_16 ?_
    refine W.eq (g2 := F0 m 19 ls [.int t12, .ref (Modela_self a)]) rfl ?_
    refine lv_if_ne (tgt := 26) hx hb dX8_figures_19 (by decide) (fun c13 => ?_) (fun c13 => ?_)
    · have hF := m_pos c13 hF
      refine lv_iconst (v := 0) hx hb dX8_figures_26 (by decide) ?_
      exact hj27 0 H locs ls hF hP hD hS (lv_sub hl [0] rfl)
    · have hF := m_neg (fun n9 => n9 c13) hF
      exact hj22 H locs ls hF hP hD hS (lv_sub hl [0] rfl)

abbrev rmX8_among : Room := { frames := 4, cells := 0, slots := 0, locals := 85 }
set_option maxRecDepth 100000 in
set_option maxHeartbeats 400000 in
theorem c_X8_among (l : Launch) (E : mE) (a : ModelA) (v : ModelV) (x0 : Nat) (t : (Int32 × ModelV)) (hF : fn_X8_among v x0 = some t) (sz : Nat) : Met l yX8_among wsX8_among rmX8_among (mPm E [.ref (Modela_self a), .ref (m_adK E x0)] sz ((Model_c E a v)) (([] : va_W))) (mSm E (some (.int t.1)) ((Model_c E a t.2)) (va_A ((Model_c E a v)) sz)) 0 0 (va_A ((Model_c E a v)) sz) := by
  refine mOfM (cc := cX8_among) (maxL := 3) (ret := (some .int)) (by decide) rfl (Nat.le_of_ble_eq_true rfl) ?_
  intro p e_ s m args below meth c Q A hQ CC hr hlocks hin hA hP hD hKN hGl hR0 hRA ls hl
  have hS : va_S A s.heap s.heap [] := va_S.rf
  have hK := hKN.1
  have hx := CC.1
  have hb := CC.2.1
  have hml := CC.2.2.1
  have hown : s.vm.findClass RX8 = some m.cls := CC.2.2.2.1
  have hts := CC.2.2.2.2
  have hl : lv_has ls 3 [(0, .ref (Modela_self a)), (1, .ref (m_adK E x0))] := hl
  have k0 := hts (.fieldLink RX8 42 "OneDidAllModel" "spot" "I") (by decide +kernel)
  have k1 := (show ∀ w ∈ u_ws RX8 TX8 20, w ∈ wsX8_among by decide +kernel)
  have hP : va_P E.1 vwCl (Model_c E a v) s.heap := hP
  obtain ⟨H, hH⟩ : ∃ H, H = s.heap := ⟨_, rfl⟩
  obtain ⟨locs, hlc⟩ : ∃ z : List Loc, z = [] := ⟨_, rfl⟩
  rw [← hH] at hP
  rw [← hlc] at hS
  have hS : va_S A s.heap H locs := by rw [hH]; exact hS
  rw [← hH, ← hlc]
  unfold fn_X8_among at hF
  refine lv_iconst (v := 0) hx hb dX8_among_0 (by decide) ?_
  refine lv_istore_n (lv' := [(2, .int 0), (0, .ref (Modela_self a)), (1, .ref (m_adK E x0))]) hx hb dX8_among_1 rfl hl (by decide) rfl (fun ls hl => ?_)
  obtain ⟨j22, hjd22, hF⟩ := m_jp hF
  have hj22 : ∀ (x2_22 : Int32) (H : Heap) (locs : List Loc) (ls : Array Slot), j22 x2_22 = some t → va_P E.1 vwCl (Model_c E a v) H → va_D A (Model_c E a v) → va_S A s.heap H locs → lv_has ls 3 [(0, .ref (Modela_self a)), (2, .int x2_22)] → W p l e_ rmX8_among s m args below meth c H locs 0 0 Q (F0 m 22 ls []) := by
    intro x2_22 H locs ls hF hP hD hS hl
    rw [hjd22] at hF
    refine lv_aload_n hx hb dX8_among_22 rfl (lv_at hl 0 rfl) ?_
    refine lv_dup hx hb dX8_among_23 rfl ?_
    refine va_get (D := E.1) (ci := 8) (v := .int (Model_spot v)) (C := RX8) (T := TX8) (N := 20) hx hb hts k1 hown hK hP 0 rfl rfl 6 (by decide) k0 (fun _ h9 => h9) rfl dX8_among_24 ?_
    refine lv_iconst (v := 1) hx hb dX8_among_27 (by decide) ?_
    refine lv_iadd hx hb dX8_among_28 ?_
    refine va_put (D := E.1) (ci := 8) (v := .int ((Model_spot v) + 1)) (ty := .int) (C := RX8) (T := TX8) (N := 20) hx hb hts k1 tyX8 tyX8_ok nmX8 hown hK hP hD hS 0 rfl rfl 6 (by decide) k0 (fun _ h9 => h9) rfl (by decide +kernel) rfl rfl (Nat.le_of_ble_eq_true rfl) dX8_among_29 (fun H locs hP hD hS => ?_)
    have hP : va_P E.1 vwCl (Model_c E a (Model_spot_s v ((Model_spot v) + 1))) H := hP
    have hD : va_D A (Model_c E a (Model_spot_s v ((Model_spot v) + 1))) := hD
    refine lv_iload_n hx hb dX8_among_32 rfl (lv_at hl 1 rfl) ?_
    have hF := Option.some.inj hF
    subst hF
    rw [hQ]
    exact W.iret hx hb hr (fun t ht _ => ⟨⟨rfl, by rw [ht]; exact hP, hD⟩, hS.F ht⟩) hS.2.2 dX8_among_33
  clear hjd22
  have hL2 : ∀ (n : Nat) (y2_2 : Int32) (H : Heap) (locs : List Loc) (ls : Array Slot), lp_X8_among_2 v x0 j22 n y2_2 = some t → va_P E.1 vwCl (Model_c E a v) H → va_D A (Model_c E a v) → va_S A s.heap H locs → lv_has ls 3 [(0, .ref (Modela_self a)), (1, .ref (m_adK E x0)), (2, .int y2_2)] → W p l e_ rmX8_among s m args below meth c H locs 0 0 Q (F0 m 2 ls []) := by
    intro n
    induction n with
    | zero =>
      intro y2_2 H locs ls hF
      exact nomatch (show (none : Option (Int32 × ModelV)) = some t from hF)
    | succ n ih2 =>
      intro y2_2 H locs ls hF hP hD hS hl
      have hF : st_X8_among_2 v x0 j22 (lp_X8_among_2 v x0 j22 n) y2_2 = some t := hF
      unfold st_X8_among_2 at hF
      refine lv_iload_n hx hb dX8_among_2 rfl (lv_at hl 2 rfl) ?_
      refine lv_aload_n hx hb dX8_among_3 rfl (lv_at hl 1 rfl) ?_
      obtain ⟨h2, hF⟩ := m_chk hF
      obtain ⟨t1, ht1, hF⟩ := m_bnd hF
      refine mVPs (n := 0) (rest := [.int y2_2]) (As := []) CC hKN hGl hS (c_J0_length_8abf5 l E x0 t1 ht1) gX8_among_J0_length_8abf5 rfl ⟨rfl, rfl⟩ (by decide +kernel) ⟨Nat.le_of_ble_eq_true rfl, Nat.le_of_ble_eq_true rfl⟩ m_nil (vk_recv hGl.2.2.2.2.1 h2 hS) rfl hl.1 rfl (Nat.le_of_ble_eq_true rfl) ⟨Nat.zero_le _, Nat.zero_le _⟩ dX8_among_4 ?_
      refine W.eq (g2 := F0 m 7 ls [.int t1, .int y2_2]) rfl ?_
      refine lv_icmp_ge (tgt := 40) hx hb dX8_among_7 (by decide) (fun c3 => ?_) (fun c3 => ?_)
      · have hF := m_pos c3 hF
        refine lv_iconst (v := (-1)) hx hb dX8_among_40 (by decide) ?_
        have hF := Option.some.inj hF
        subst hF
        rw [hQ]
        exact W.iret hx hb hr (fun t ht _ => ⟨⟨rfl, by rw [ht]; exact hP, hD⟩, hS.F ht⟩) hS.2.2 dX8_among_41
      · have hF := m_neg c3 hF
        refine lv_aload_n hx hb dX8_among_10 rfl (lv_at hl 0 rfl) ?_
        obtain ⟨t4, ht4, hF⟩ := m_bnd hF
        refine mVP (ci := 8) (n := 0) (rest := []) (As := []) CC hKN hGl hS (c_X8_here l E a v t4 ht4) gX8_among_X8_here rfl ⟨rfl, rfl⟩ (by decide +kernel) ⟨Nat.le_of_ble_eq_true rfl, Nat.le_of_ble_eq_true rfl⟩ hP rfl rfl rfl rfl hl.1 rfl (Nat.le_of_ble_eq_true rfl) ⟨Nat.zero_le _, Nat.zero_le _⟩ dX8_among_11 ?_
        refine W.eq (g2 := F0 m 14 ls [.int t4]) rfl ?_
        refine lv_aload_n hx hb dX8_among_14 rfl (lv_at hl 1 rfl) ?_
        refine lv_iload_n hx hb dX8_among_15 rfl (lv_at hl 2 rfl) ?_
        obtain ⟨h6, hF⟩ := m_chk hF
        obtain ⟨t5, ht5, hF⟩ := m_bnd hF
        refine mVPs (n := 1) (rest := [.int t4]) (As := [.int y2_2]) CC hKN hGl hS (c_J0_charAt_5068e l E x0 y2_2 t5 ht5) gX8_among_J0_charAt_5068e rfl ⟨rfl, rfl⟩ (by decide +kernel) ⟨Nat.le_of_ble_eq_true rfl, Nat.le_of_ble_eq_true rfl⟩ m_nil (vk_recv hGl.2.2.2.2.1 h6 hS) rfl hl.1 rfl (Nat.le_of_ble_eq_true rfl) ⟨Nat.zero_le _, Nat.zero_le _⟩ dX8_among_16 ?_
        refine W.eq (g2 := F0 m 19 ls [.int t5, .int t4]) rfl ?_
        refine lv_icmp_ne (tgt := 34) hx hb dX8_among_19 (by decide) (fun c7 => ?_) (fun c7 => ?_)
        · have hF := m_pos c7 hF
          refine lv_iinc (v := (y2_2 + 1)) (lv' := [(2, .int (y2_2 + 1)), (0, .ref (Modela_self a)), (1, .ref (m_adK E x0))]) hx hb dX8_among_34 hl (k := 2) rfl rfl (by decide) rfl (fun ls hl => ?_)
          refine lv_goto (tgt := 2) hx hb dX8_among_37 (by decide) ?_
          exact ih2 (y2_2 + 1) H locs ls hF hP hD hS (lv_sub hl [1, 2, 0] rfl)
        · have hF := m_neg (fun n9 => n9 c7) hF
          exact hj22 y2_2 H locs ls hF hP hD hS (lv_sub hl [0, 2] rfl)
  exact hL2 m_N 0 H locs ls hF hP hD hS (lv_sub hl [1, 2, 0] rfl)

abbrev rmX8_emits : Room := { frames := 0, cells := 0, slots := 0, locals := 0 }
set_option maxRecDepth 100000 in
set_option maxHeartbeats 400000 in
theorem c_X8_emits (l : Launch) (E : mE) (a : ModelA) (v : ModelV) (x0 : Int32) (t : ModelV) (hF : fn_X8_emits v x0 = some t) (sz : Nat) : Met l yX8_emits wsX8_emits rmX8_emits (mPm E [.ref (Modela_self a), .int x0] sz ((Model_c E a v)) (([] : va_W))) (mSm E (none) ((Model_c E a t)) (va_A ((Model_c E a v)) sz)) 0 0 (va_A ((Model_c E a v)) sz) := by
  refine mOfM (cc := cX8_emits) (maxL := 2) (ret := none) (by decide) rfl (Nat.le_of_ble_eq_true rfl) ?_
  intro p e_ s m args below meth c Q A hQ CC hr hlocks hin hA hP hD hKN hGl hR0 hRA ls hl
  have hS : va_S A s.heap s.heap [] := va_S.rf
  have hK := hKN.1
  have hx := CC.1
  have hb := CC.2.1
  have hml := CC.2.2.1
  have hown : s.vm.findClass RX8 = some m.cls := CC.2.2.2.1
  have hts := CC.2.2.2.2
  have hl : lv_has ls 2 [(0, .ref (Modela_self a)), (1, .int x0)] := hl
  have k0 := hts (.fieldLink RX8 48 "OneDidAllModel" "isWrong" "Z") (by decide +kernel)
  have k1 := (show ∀ w ∈ u_ws RX8 TX8 20, w ∈ wsX8_emits by decide +kernel)
  have k2 := hts (.fieldLink RX8 9 "OneDidAllModel" "s" "[I") (by decide +kernel)
  have k3 := hts (.fieldLink RX8 69 "OneDidAllModel" "act" "I") (by decide +kernel)
  have hP : va_P E.1 vwCl (Model_c E a v) s.heap := hP
  obtain ⟨H, hH⟩ : ∃ H, H = s.heap := ⟨_, rfl⟩
  obtain ⟨locs, hlc⟩ : ∃ z : List Loc, z = [] := ⟨_, rfl⟩
  rw [← hH] at hP
  rw [← hlc] at hS
  have hS : va_S A s.heap H locs := by rw [hH]; exact hS
  rw [← hH, ← hlc]
  unfold fn_X8_emits at hF
  refine lv_aload_n hx hb dX8_emits_0 rfl (lv_at hl 0 rfl) ?_
  refine va_get (D := E.1) (ci := 8) (v := .int (Model_isWrong v)) (C := RX8) (T := TX8) (N := 20) hx hb hts k1 hown hK hP 0 rfl rfl 8 (by decide) k0 (fun _ h9 => h9) rfl dX8_emits_1 ?_
  refine lv_if_ne (tgt := 56) hx hb dX8_emits_4 (by decide) (fun c1 => ?_) (fun c1 => ?_)
  · have hF := m_pos c1 hF
    have hF := Option.some.inj hF
    subst hF
    rw [hQ]
    exact W.vret hx hb hr (fun t ht _ => ⟨⟨rfl, by rw [ht]; exact hP, hD⟩, hS.F ht⟩) hS.2.2 dX8_emits_56
  · have hF := m_neg (fun n9 => n9 c1) hF
    refine lv_aload_n hx hb dX8_emits_7 rfl (lv_at hl 0 rfl) ?_
    refine va_get (D := E.1) (ci := 8) (v := .ref (Modela_s a)) (C := RX8) (T := TX8) (N := 20) hx hb hts k1 hown hK hP 0 rfl rfl 1 (by decide) k2 (fun _ h9 => h9) rfl dX8_emits_8 ?_
    refine lv_sipush (v := 226) hx hb dX8_emits_11 (by decide) ?_
    refine lv_sipush (v := 140) hx hb dX8_emits_14 (by decide) ?_
    refine lv_aload_n hx hb dX8_emits_17 rfl (lv_at hl 0 rfl) ?_
    refine va_get (D := E.1) (ci := 8) (v := .int (Model_act v)) (C := RX8) (T := TX8) (N := 20) hx hb hts k1 hown hK hP 0 rfl rfl 5 (by decide) k3 (fun _ h9 => h9) rfl dX8_emits_18 ?_
    refine lv_imul hx hb dX8_emits_21 ?_
    refine lv_iadd hx hb dX8_emits_22 ?_
    refine lv_aload_n hx hb dX8_emits_23 rfl (lv_at hl 0 rfl) ?_
    refine va_get (D := E.1) (ci := 8) (v := .ref (Modela_s a)) (C := RX8) (T := TX8) (N := 20) hx hb hts k1 hown hK hP 0 rfl rfl 1 (by decide) k2 (fun _ h9 => h9) rfl dX8_emits_24 ?_
    refine lv_sipush (v := 221) hx hb dX8_emits_27 (by decide) ?_
    refine lv_aload_n hx hb dX8_emits_30 rfl (lv_at hl 0 rfl) ?_
    refine va_get (D := E.1) (ci := 8) (v := .int (Model_act v)) (C := RX8) (T := TX8) (N := 20) hx hb hts k1 hown hK hP 0 rfl rfl 5 (by decide) k3 (fun _ h9 => h9) rfl dX8_emits_31 ?_
    refine lv_iadd hx hb dX8_emits_34 ?_
    obtain ⟨h2, hF⟩ := m_chk hF
    refine va_iald (f := (Model_s v)) hx hb hK hP 1 1 rfl rfl (mIn_ok h2) dX8_emits_35 ?_
    refine W.eq (g2 := F0 m 36 ls [.int ((Model_s v) ((221 + (Model_act v))).toNatClampNeg), .int (226 + (140 * (Model_act v))), .ref (Modela_s a)]) rfl ?_
    refine lv_iadd hx hb dX8_emits_36 ?_
    refine lv_iload_n hx hb dX8_emits_37 rfl (lv_at hl 1 rfl) ?_
    obtain ⟨h3, hF⟩ := m_chk hF
    refine va_iast (f := (Model_s v)) hx hb hK hP hD hS 1 1 rfl rfl (mIn_ok h3) dX8_emits_38 (fun H locs hP hD hS => ?_)
    have hP : va_P E.1 vwCl (Model_c E a (Model_s_s v (upd (Model_s v) (((226 + (140 * (Model_act v))) + ((Model_s v) ((221 + (Model_act v))).toNatClampNeg))).toNatClampNeg x0))) H := hP
    have hD : va_D A (Model_c E a (Model_s_s v (upd (Model_s v) (((226 + (140 * (Model_act v))) + ((Model_s v) ((221 + (Model_act v))).toNatClampNeg))).toNatClampNeg x0))) := hD
    refine lv_aload_n hx hb dX8_emits_39 rfl (lv_at hl 0 rfl) ?_
    refine va_get (D := E.1) (ci := 8) (v := .ref (Modela_s a)) (C := RX8) (T := TX8) (N := 20) hx hb hts k1 hown hK hP 0 rfl rfl 1 (by decide) k2 (fun _ h9 => h9) rfl dX8_emits_40 ?_
    refine lv_sipush (v := 221) hx hb dX8_emits_43 (by decide) ?_
    refine lv_aload_n hx hb dX8_emits_46 rfl (lv_at hl 0 rfl) ?_
    refine va_get (D := E.1) (ci := 8) (v := .int (Model_act v)) (C := RX8) (T := TX8) (N := 20) hx hb hts k1 hown hK hP 0 rfl rfl 5 (by decide) k3 (fun _ h9 => h9) rfl dX8_emits_47 ?_
    refine lv_iadd hx hb dX8_emits_50 ?_
    refine lv_dup2_11 hx hb dX8_emits_51 rfl rfl ?_
    obtain ⟨h4, hF⟩ := m_chk hF
    refine va_iald (f := (upd (Model_s v) (((226 + (140 * (Model_act v))) + ((Model_s v) ((221 + (Model_act v))).toNatClampNeg))).toNatClampNeg x0)) hx hb hK hP 1 1 rfl rfl (mIn_ok h4) dX8_emits_52 ?_
    refine W.eq (g2 := F0 m 53 ls [.int ((upd (Model_s v) (((226 + (140 * (Model_act v))) + ((Model_s v) ((221 + (Model_act v))).toNatClampNeg))).toNatClampNeg x0) ((221 + (Model_act v))).toNatClampNeg), .int (221 + (Model_act v)), .ref (Modela_s a)]) rfl ?_
    refine lv_iconst (v := 1) hx hb dX8_emits_53 (by decide) ?_
    refine lv_iadd hx hb dX8_emits_54 ?_
    obtain ⟨h5, hF⟩ := m_chk hF
    refine va_iast (f := (upd (Model_s v) (((226 + (140 * (Model_act v))) + ((Model_s v) ((221 + (Model_act v))).toNatClampNeg))).toNatClampNeg x0)) hx hb hK hP hD hS 1 1 rfl rfl (mIn_ok h5) dX8_emits_55 (fun H locs hP hD hS => ?_)
    have hP : va_P E.1 vwCl (Model_c E a (Model_s_s v (upd (upd (Model_s v) (((226 + (140 * (Model_act v))) + ((Model_s v) ((221 + (Model_act v))).toNatClampNeg))).toNatClampNeg x0) ((221 + (Model_act v))).toNatClampNeg (((upd (Model_s v) (((226 + (140 * (Model_act v))) + ((Model_s v) ((221 + (Model_act v))).toNatClampNeg))).toNatClampNeg x0) ((221 + (Model_act v))).toNatClampNeg) + 1)))) H := hP
    have hD : va_D A (Model_c E a (Model_s_s v (upd (upd (Model_s v) (((226 + (140 * (Model_act v))) + ((Model_s v) ((221 + (Model_act v))).toNatClampNeg))).toNatClampNeg x0) ((221 + (Model_act v))).toNatClampNeg (((upd (Model_s v) (((226 + (140 * (Model_act v))) + ((Model_s v) ((221 + (Model_act v))).toNatClampNeg))).toNatClampNeg x0) ((221 + (Model_act v))).toNatClampNeg) + 1)))) := hD
    have hF := Option.some.inj hF
    subst hF
    rw [hQ]
    exact W.vret hx hb hr (fun t ht _ => ⟨⟨rfl, by rw [ht]; exact hP, hD⟩, hS.F ht⟩) hS.2.2 dX8_emits_56

abbrev rmX8_tellsHere : Room := { frames := 5, cells := 0, slots := 0, locals := 107 }
set_option maxRecDepth 100000 in
set_option maxHeartbeats 400000 in
theorem c_X8_tellsHere (l : Launch) (E : mE) (a : ModelA) (v : ModelV) (x0 : Int32) (x1 : Nat) (t : ModelV) (hF : fn_X8_tellsHere v x0 x1 = some t) (sz : Nat) : Met l yX8_tellsHere wsX8_tellsHere rmX8_tellsHere (mPm E [.ref (Modela_self a), .int x0, .ref (m_adK E x1)] sz ((Model_c E a v)) (([] : va_W))) (mSm E (none) ((Model_c E a t)) (va_A ((Model_c E a v)) sz)) 0 0 (va_A ((Model_c E a v)) sz) := by
  refine mOfM (cc := cX8_tellsHere) (maxL := 4) (ret := none) (by decide) rfl (Nat.le_of_ble_eq_true rfl) ?_
  intro p e_ s m args below meth c Q A hQ CC hr hlocks hin hA hP hD hKN hGl hR0 hRA ls hl
  have hS : va_S A s.heap s.heap [] := va_S.rf
  have hK := hKN.1
  have hx := CC.1
  have hb := CC.2.1
  have hml := CC.2.2.1
  have hown : s.vm.findClass RX8 = some m.cls := CC.2.2.2.1
  have hts := CC.2.2.2.2
  have hl : lv_has ls 4 [(0, .ref (Modela_self a)), (1, .int x0), (2, .ref (m_adK E x1))] := hl
  have k0 := hts (.fieldLink RX8 48 "OneDidAllModel" "isWrong" "Z") (by decide +kernel)
  have k1 := (show ∀ w ∈ u_ws RX8 TX8 20, w ∈ wsX8_tellsHere by decide +kernel)
  have k2 := hts (.fieldLink RX8 9 "OneDidAllModel" "s" "[I") (by decide +kernel)
  have k3 := hts (.fieldLink RX8 69 "OneDidAllModel" "act" "I") (by decide +kernel)
  have hP : va_P E.1 vwCl (Model_c E a v) s.heap := hP
  obtain ⟨H, hH⟩ : ∃ H, H = s.heap := ⟨_, rfl⟩
  obtain ⟨locs, hlc⟩ : ∃ z : List Loc, z = [] := ⟨_, rfl⟩
  rw [← hH] at hP
  rw [← hlc] at hS
  have hS : va_S A s.heap H locs := by rw [hH]; exact hS
  rw [← hH, ← hlc]
  unfold fn_X8_tellsHere at hF
  refine lv_aload_n hx hb dX8_tellsHere_0 rfl (lv_at hl 0 rfl) ?_
  refine lv_aload_n hx hb dX8_tellsHere_1 rfl (lv_at hl 2 rfl) ?_
  obtain ⟨t1, ht1, hF⟩ := m_bnd hF
  have hPc := hP
  have hDc := hD
  have hFc := va_free (wc := (Model_c E a v)) hD hS hA [0, 1, 2, 3, 4, 5, 6, 7] rfl
  refine mVM (ci := 8) (n := 1) (rest := []) (As := [.ref (m_adK E x1)]) CC hKN hGl (c_X8_spells l E a v x1 t1 ht1 _) gX8_tellsHere_X8_spells rfl ⟨rfl, rfl⟩ (by decide +kernel) ⟨Nat.le_of_ble_eq_true rfl, Nat.le_of_ble_eq_true rfl⟩ hPc hDc m_nil m_nilA hS hFc rfl rfl rfl rfl hl.1 rfl (Nat.le_of_ble_eq_true rfl) ⟨Nat.zero_le _, Nat.zero_le _⟩ dX8_tellsHere_2 (fun H1 locs hP1 hD1 hz1 hk1 hS => ?_)
  have hP : va_P E.1 vwCl (Model_c E a t1) H1 := hP1
  have hD : va_D A (Model_c E a t1) := m_back hD1 hFc
  generalize H1 = H at hP hS ⊢
  refine W.eq (g2 := F0 m 5 ls []) rfl ?_
  refine lv_aload_n hx hb dX8_tellsHere_5 rfl (lv_at hl 0 rfl) ?_
  obtain ⟨t2, ht2, hF⟩ := m_bnd hF
  have hPc := hP
  have hDc := hD
  have hFc := va_free (wc := (Model_c E a t1)) hD hS hA [0, 1, 2, 3, 4, 5, 6, 7] rfl
  refine mVM (ci := 8) (n := 0) (rest := []) (As := []) CC hKN hGl (c_X8_figures l E a t1 t2 ht2 _) gX8_tellsHere_X8_figures rfl ⟨rfl, rfl⟩ (by decide +kernel) ⟨Nat.le_of_ble_eq_true rfl, Nat.le_of_ble_eq_true rfl⟩ hPc hDc m_nil m_nilA hS hFc rfl rfl rfl rfl hl.1 rfl (Nat.le_of_ble_eq_true rfl) ⟨Nat.zero_le _, Nat.zero_le _⟩ dX8_tellsHere_6 (fun H1 locs hP1 hD1 hz1 hk1 hS => ?_)
  have hP : va_P E.1 vwCl (Model_c E a t2.2) H1 := hP1
  have hD : va_D A (Model_c E a t2.2) := m_back hD1 hFc
  generalize H1 = H at hP hS ⊢
  refine W.eq (g2 := F0 m 9 ls [.int t2.1]) rfl ?_
  refine lv_istore_n (lv' := [(3, .int t2.1), (0, .ref (Modela_self a)), (1, .int x0), (2, .ref (m_adK E x1))]) hx hb dX8_tellsHere_9 rfl hl (by decide) rfl (fun ls hl => ?_)
  refine lv_aload_n hx hb dX8_tellsHere_10 rfl (lv_at hl 1 rfl) ?_
  refine va_get (D := E.1) (ci := 8) (v := .int (Model_isWrong t2.2)) (C := RX8) (T := TX8) (N := 20) hx hb hts k1 hown hK hP 0 rfl rfl 8 (by decide) k0 (fun _ h9 => h9) rfl dX8_tellsHere_11 ?_
  refine lv_if_ne (tgt := 29) hx hb dX8_tellsHere_14 (by decide) (fun c3 => ?_) (fun c3 => ?_)
  · have hF := m_pos c3 hF
    have hF := Option.some.inj hF
    subst hF
    rw [hQ]
    exact W.vret hx hb hr (fun t ht _ => ⟨⟨rfl, by rw [ht]; exact hP, hD⟩, hS.F ht⟩) hS.2.2 dX8_tellsHere_29
  · have hF := m_neg (fun n9 => n9 c3) hF
    refine lv_aload_n hx hb dX8_tellsHere_17 rfl (lv_at hl 1 rfl) ?_
    refine va_get (D := E.1) (ci := 8) (v := .ref (Modela_s a)) (C := RX8) (T := TX8) (N := 20) hx hb hts k1 hown hK hP 0 rfl rfl 1 (by decide) k2 (fun _ h9 => h9) rfl dX8_tellsHere_18 ?_
    refine lv_iload_n hx hb dX8_tellsHere_21 rfl (lv_at hl 2 rfl) ?_
    refine lv_aload_n hx hb dX8_tellsHere_22 rfl (lv_at hl 1 rfl) ?_
    refine va_get (D := E.1) (ci := 8) (v := .int (Model_act t2.2)) (C := RX8) (T := TX8) (N := 20) hx hb hts k1 hown hK hP 0 rfl rfl 5 (by decide) k3 (fun _ h9 => h9) rfl dX8_tellsHere_23 ?_
    refine lv_iadd hx hb dX8_tellsHere_26 ?_
    refine lv_iload_n hx hb dX8_tellsHere_27 rfl (lv_at hl 0 rfl) ?_
    obtain ⟨h4, hF⟩ := m_chk hF
    refine va_iast (f := (Model_s t2.2)) hx hb hK hP hD hS 1 1 rfl rfl (mIn_ok h4) dX8_tellsHere_28 (fun H locs hP hD hS => ?_)
    have hP : va_P E.1 vwCl (Model_c E a (Model_s_s t2.2 (upd (Model_s t2.2) ((x0 + (Model_act t2.2))).toNatClampNeg t2.1))) H := hP
    have hD : va_D A (Model_c E a (Model_s_s t2.2 (upd (Model_s t2.2) ((x0 + (Model_act t2.2))).toNatClampNeg t2.1))) := hD
    have hF := Option.some.inj hF
    subst hF
    rw [hQ]
    exact W.vret hx hb hr (fun t ht _ => ⟨⟨rfl, by rw [ht]; exact hP, hD⟩, hS.F ht⟩) hS.2.2 dX8_tellsHere_29

abbrev rmX8_tellsOf : Room := { frames := 0, cells := 0, slots := 0, locals := 0 }
set_option maxRecDepth 100000 in
set_option maxHeartbeats 400000 in
theorem c_X8_tellsOf (l : Launch) (E : mE) (a : ModelA) (v : ModelV) (x0 : Int32) (x1 : Int32) (t : Int32) (hF : fn_X8_tellsOf v x0 x1 = some t) : Met l yX8_tellsOf wsX8_tellsOf rmX8_tellsOf (mPp E [.ref (Modela_self a), .int x0, .int x1] (Model_c E a v)) (mSp (some (.int t))) 0 0 (fun _ => False) := by
  refine mOfP (cc := cX8_tellsOf) (maxL := 3) (ret := (some .int)) (by decide) rfl (Nat.le_of_ble_eq_true rfl) ?_
  intro p e_ s m args below meth c Q hQ CC hr hlocks hP hKN hGl ls hl
  have hS : va_S (fun _ => False) s.heap s.heap [] := va_S.rf
  have hK := hKN.1
  have hx := CC.1
  have hb := CC.2.1
  have hml := CC.2.2.1
  have hown : s.vm.findClass RX8 = some m.cls := CC.2.2.2.1
  have hts := CC.2.2.2.2
  have hl : lv_has ls 3 [(0, .ref (Modela_self a)), (1, .int x0), (2, .int x1)] := hl
  have k0 := hts (.fieldLink RX8 9 "OneDidAllModel" "s" "[I") (by decide +kernel)
  have k1 := (show ∀ w ∈ u_ws RX8 TX8 20, w ∈ wsX8_tellsOf by decide +kernel)
  unfold fn_X8_tellsOf at hF
  refine lv_aload_n hx hb dX8_tellsOf_0 rfl (lv_at hl 0 rfl) ?_
  refine va_get (D := E.1) (ci := 8) (v := .ref (Modela_s a)) (C := RX8) (T := TX8) (N := 20) hx hb hts k1 hown hK hP 0 rfl rfl 1 (by decide) k0 (fun _ h9 => h9) rfl dX8_tellsOf_1 ?_
  refine lv_bipush (v := 26) hx hb dX8_tellsOf_4 (by decide) ?_
  obtain ⟨h1, hF⟩ := m_chk hF
  refine va_iald (f := (Model_s v)) hx hb hK hP 1 1 rfl rfl (mIn_ok h1) dX8_tellsOf_6 ?_
  refine W.eq (g2 := F0 m 7 ls [.int ((Model_s v) (26 : Int32).toNatClampNeg)]) rfl ?_
  refine lv_iconst (v := (-1)) hx hb dX8_tellsOf_7 (by decide) ?_
  refine lv_icmp_ne (tgt := 15) hx hb dX8_tellsOf_8 (by decide) (fun c2 => ?_) (fun c2 => ?_)
  · have hF := m_pos c2 hF
    refine lv_aload_n hx hb dX8_tellsOf_15 rfl (lv_at hl 0 rfl) ?_
    refine va_get (D := E.1) (ci := 8) (v := .ref (Modela_s a)) (C := RX8) (T := TX8) (N := 20) hx hb hts k1 hown hK hP 0 rfl rfl 1 (by decide) k0 (fun _ h9 => h9) rfl dX8_tellsOf_16 ?_
    refine lv_iload_n hx hb dX8_tellsOf_19 rfl (lv_at hl 1 rfl) ?_
    refine lv_aload_n hx hb dX8_tellsOf_20 rfl (lv_at hl 0 rfl) ?_
    refine va_get (D := E.1) (ci := 8) (v := .ref (Modela_s a)) (C := RX8) (T := TX8) (N := 20) hx hb hts k1 hown hK hP 0 rfl rfl 1 (by decide) k0 (fun _ h9 => h9) rfl dX8_tellsOf_21 ?_
    refine lv_bipush (v := 26) hx hb dX8_tellsOf_24 (by decide) ?_
    obtain ⟨h3, hF⟩ := m_chk hF
    refine va_iald (f := (Model_s v)) hx hb hK hP 1 1 rfl rfl (mIn_ok h3) dX8_tellsOf_26 ?_
    refine W.eq (g2 := F0 m 27 ls [.int ((Model_s v) (26 : Int32).toNatClampNeg), .int x0, .ref (Modela_s a)]) rfl ?_
    refine lv_iadd hx hb dX8_tellsOf_27 ?_
    obtain ⟨h4, hF⟩ := m_chk hF
    refine va_iald (f := (Model_s v)) hx hb hK hP 1 1 rfl rfl (mIn_ok h4) dX8_tellsOf_28 ?_
    refine W.eq (g2 := F0 m 29 ls [.int ((Model_s v) ((x0 + ((Model_s v) (26 : Int32).toNatClampNeg))).toNatClampNeg)]) rfl ?_
    have hF := Option.some.inj hF
    subst hF
    rw [hQ]
    exact W.iret hx hb hr (fun t ht _ => ⟨rfl, ht⟩) (fun _ h => by cases h) dX8_tellsOf_29
  · have hF := m_neg (fun n9 => n9 c2) hF
    refine lv_iload_n hx hb dX8_tellsOf_11 rfl (lv_at hl 2 rfl) ?_
    refine lv_goto (tgt := 29) hx hb dX8_tellsOf_12 (by decide) ?_
    have hF := Option.some.inj hF
    subst hF
    rw [hQ]
    exact W.iret hx hb hr (fun t ht _ => ⟨rfl, ht⟩) (fun _ h => by cases h) dX8_tellsOf_29

abbrev rmX8_goalNow : Room := { frames := 1, cells := 0, slots := 0, locals := 22 }
set_option maxRecDepth 100000 in
set_option maxHeartbeats 400000 in
theorem c_X8_goalNow (l : Launch) (E : mE) (a : ModelA) (v : ModelV) (t : Int32) (hF : fn_X8_goalNow v = some t) : Met l yX8_goalNow wsX8_goalNow rmX8_goalNow (mPp E [.ref (Modela_self a)] (Model_c E a v)) (mSp (some (.int t))) 0 0 (fun _ => False) := by
  refine mOfP (cc := cX8_goalNow) (maxL := 1) (ret := (some .int)) (by decide) rfl (Nat.le_of_ble_eq_true rfl) ?_
  intro p e_ s m args below meth c Q hQ CC hr hlocks hP hKN hGl ls hl
  have hS : va_S (fun _ => False) s.heap s.heap [] := va_S.rf
  have hK := hKN.1
  have hx := CC.1
  have hb := CC.2.1
  have hml := CC.2.2.1
  have hown : s.vm.findClass RX8 = some m.cls := CC.2.2.2.1
  have hts := CC.2.2.2.2
  have hl : lv_has ls 1 [(0, .ref (Modela_self a))] := hl
  unfold fn_X8_goalNow at hF
  refine lv_aload_n hx hb dX8_goalNow_0 rfl (lv_at hl 0 rfl) ?_
  refine lv_sipush (v := 211) hx hb dX8_goalNow_1 (by decide) ?_
  refine lv_bipush (v := 60) hx hb dX8_goalNow_4 (by decide) ?_
  obtain ⟨t1, ht1, hF⟩ := m_bnd hF
  refine mVP (ci := 8) (n := 2) (rest := []) (As := [.int 211, .int 60]) CC hKN hGl hS (c_X8_tellsOf l E a v 211 60 t1 ht1) gX8_goalNow_X8_tellsOf rfl ⟨rfl, rfl⟩ (by decide +kernel) ⟨Nat.le_of_ble_eq_true rfl, Nat.le_of_ble_eq_true rfl⟩ hP rfl rfl rfl rfl hl.1 rfl (Nat.le_of_ble_eq_true rfl) ⟨Nat.zero_le _, Nat.zero_le _⟩ dX8_goalNow_6 ?_
  refine W.eq (g2 := F0 m 9 ls [.int t1]) rfl ?_
  refine lv_iconst (v := 1) hx hb dX8_goalNow_9 (by decide) ?_
  refine lv_bipush (v := 99) hx hb dX8_goalNow_10 (by decide) ?_
  obtain ⟨t2, ht2, hF⟩ := m_bnd hF
  refine mSP (n := 3) (rest := []) (As := [.int t1, .int 1, .int 99]) CC hKN hGl hS (c_X8_within l E t1 1 99 t2 ht2) gX8_goalNow_X8_within rfl ⟨rfl, rfl⟩ (by decide +kernel) ⟨Nat.le_of_ble_eq_true rfl, Nat.le_of_ble_eq_true rfl⟩ m_nil rfl hl.1 rfl (Nat.le_of_ble_eq_true rfl) ⟨Nat.zero_le _, Nat.zero_le _⟩ dX8_goalNow_12 ?_
  refine W.eq (g2 := F0 m 15 ls [.int t2]) rfl ?_
  have hF := Option.some.inj hF
  subst hF
  rw [hQ]
  exact W.iret hx hb hr (fun t ht _ => ⟨rfl, ht⟩) (fun _ h => by cases h) dX8_goalNow_15

abbrev rmX8_looks : Room := { frames := 1, cells := 0, slots := 0, locals := 22 }
set_option maxRecDepth 100000 in
set_option maxHeartbeats 400000 in
theorem c_X8_looks (l : Launch) (E : mE) (a : ModelA) (v : ModelV) (x0 : Int32) (t : (Int32 × ModelV)) (hF : fn_X8_looks v x0 = some t) (sz : Nat) : Met l yX8_looks wsX8_looks rmX8_looks (mPm E [.ref (Modela_self a), .int x0] sz ((Model_c E a v)) (([] : va_W))) (mSm E (some (.int t.1)) ((Model_c E a t.2)) (va_A ((Model_c E a v)) sz)) 0 0 (va_A ((Model_c E a v)) sz) := by
  refine mOfM (cc := cX8_looks) (maxL := 11) (ret := (some .int)) (by decide) rfl (Nat.le_of_ble_eq_true rfl) ?_
  intro p e_ s m args below meth c Q A hQ CC hr hlocks hin hA hP hD hKN hGl hR0 hRA ls hl
  have hS : va_S A s.heap s.heap [] := va_S.rf
  have hK := hKN.1
  have hx := CC.1
  have hb := CC.2.1
  have hml := CC.2.2.1
  have hown : s.vm.findClass RX8 = some m.cls := CC.2.2.2.1
  have hts := CC.2.2.2.2
  have hl : lv_has ls 11 [(0, .ref (Modela_self a)), (1, .int x0)] := hl
  have k0 := hts (.fieldLink RX8 21 "OneDidAllModel" "by" "[I") (by decide +kernel)
  have k1 := (show ∀ w ∈ u_ws RX8 TX8 20, w ∈ wsX8_looks by decide +kernel)
  have k2 := hts (.fieldLink RX8 9 "OneDidAllModel" "s" "[I") (by decide +kernel)
  have k3 := hts (.fieldLink RX8 24 "OneDidAllModel" "truths" "[Z") (by decide +kernel)
  have hP : va_P E.1 vwCl (Model_c E a v) s.heap := hP
  obtain ⟨H, hH⟩ : ∃ H, H = s.heap := ⟨_, rfl⟩
  obtain ⟨locs, hlc⟩ : ∃ z : List Loc, z = [] := ⟨_, rfl⟩
  rw [← hH] at hP
  rw [← hlc] at hS
  have hS : va_S A s.heap H locs := by rw [hH]; exact hS
  rw [← hH, ← hlc]
  unfold fn_X8_looks at hF
  refine lv_aload_n hx hb dX8_looks_0 rfl (lv_at hl 0 rfl) ?_
  refine va_get (D := E.1) (ci := 8) (v := .ref (Modela_by a)) (C := RX8) (T := TX8) (N := 20) hx hb hts k1 hown hK hP 0 rfl rfl 10 (by decide) k0 (fun _ h9 => h9) rfl dX8_looks_1 ?_
  refine lv_iconst (v := 0) hx hb dX8_looks_4 (by decide) ?_
  refine lv_iload_n hx hb dX8_looks_5 rfl (lv_at hl 1 rfl) ?_
  obtain ⟨h1, hF⟩ := m_chk hF
  refine va_iast (f := (Model_by v)) hx hb hK hP hD hS 4 1 rfl rfl (mIn_ok h1) dX8_looks_6 (fun H locs hP hD hS => ?_)
  have hP : va_P E.1 vwCl (Model_c E a (Model_by_s v (upd (Model_by v) (0 : Int32).toNatClampNeg x0))) H := hP
  have hD : va_D A (Model_c E a (Model_by_s v (upd (Model_by v) (0 : Int32).toNatClampNeg x0))) := hD
  refine lv_aload_n hx hb dX8_looks_7 rfl (lv_at hl 0 rfl) ?_
  refine va_get (D := E.1) (ci := 8) (v := .ref (Modela_by a)) (C := RX8) (T := TX8) (N := 20) hx hb hts k1 hown hK hP 0 rfl rfl 10 (by decide) k0 (fun _ h9 => h9) rfl dX8_looks_8 ?_
  refine lv_iconst (v := 1) hx hb dX8_looks_11 (by decide) ?_
  refine lv_aload_n hx hb dX8_looks_12 rfl (lv_at hl 0 rfl) ?_
  refine va_get (D := E.1) (ci := 8) (v := .ref (Modela_s a)) (C := RX8) (T := TX8) (N := 20) hx hb hts k1 hown hK hP 0 rfl rfl 1 (by decide) k2 (fun _ h9 => h9) rfl dX8_looks_13 ?_
  refine lv_bipush (v := 27) hx hb dX8_looks_16 (by decide) ?_
  refine lv_iload_n hx hb dX8_looks_18 rfl (lv_at hl 1 rfl) ?_
  refine lv_iadd hx hb dX8_looks_19 ?_
  obtain ⟨h2, hF⟩ := m_chk hF
  refine va_iald (f := (Model_s v)) hx hb hK hP 1 1 rfl rfl (mIn_ok h2) dX8_looks_20 ?_
  refine W.eq (g2 := F0 m 21 ls [.int ((Model_s v) ((27 + x0)).toNatClampNeg), .int 1, .ref (Modela_by a)]) rfl ?_
  obtain ⟨h3, hF⟩ := m_chk hF
  refine va_iast (f := (upd (Model_by v) (0 : Int32).toNatClampNeg x0)) hx hb hK hP hD hS 4 1 rfl rfl (mIn_ok h3) dX8_looks_21 (fun H locs hP hD hS => ?_)
  have hP : va_P E.1 vwCl (Model_c E a (Model_by_s v (upd (upd (Model_by v) (0 : Int32).toNatClampNeg x0) (1 : Int32).toNatClampNeg ((Model_s v) ((27 + x0)).toNatClampNeg)))) H := hP
  have hD : va_D A (Model_c E a (Model_by_s v (upd (upd (Model_by v) (0 : Int32).toNatClampNeg x0) (1 : Int32).toNatClampNeg ((Model_s v) ((27 + x0)).toNatClampNeg)))) := hD
  refine lv_aload_n hx hb dX8_looks_22 rfl (lv_at hl 0 rfl) ?_
  refine va_get (D := E.1) (ci := 8) (v := .ref (Modela_by a)) (C := RX8) (T := TX8) (N := 20) hx hb hts k1 hown hK hP 0 rfl rfl 10 (by decide) k0 (fun _ h9 => h9) rfl dX8_looks_23 ?_
  refine lv_iconst (v := 2) hx hb dX8_looks_26 (by decide) ?_
  refine lv_aload_n hx hb dX8_looks_27 rfl (lv_at hl 0 rfl) ?_
  refine va_get (D := E.1) (ci := 8) (v := .ref (Modela_s a)) (C := RX8) (T := TX8) (N := 20) hx hb hts k1 hown hK hP 0 rfl rfl 1 (by decide) k2 (fun _ h9 => h9) rfl dX8_looks_28 ?_
  refine lv_bipush (v := 33) hx hb dX8_looks_31 (by decide) ?_
  refine lv_iload_n hx hb dX8_looks_33 rfl (lv_at hl 1 rfl) ?_
  refine lv_iadd hx hb dX8_looks_34 ?_
  obtain ⟨h4, hF⟩ := m_chk hF
  refine va_iald (f := (Model_s v)) hx hb hK hP 1 1 rfl rfl (mIn_ok h4) dX8_looks_35 ?_
  refine W.eq (g2 := F0 m 36 ls [.int ((Model_s v) ((33 + x0)).toNatClampNeg), .int 2, .ref (Modela_by a)]) rfl ?_
  obtain ⟨h5, hF⟩ := m_chk hF
  refine va_iast (f := (upd (upd (Model_by v) (0 : Int32).toNatClampNeg x0) (1 : Int32).toNatClampNeg ((Model_s v) ((27 + x0)).toNatClampNeg))) hx hb hK hP hD hS 4 1 rfl rfl (mIn_ok h5) dX8_looks_36 (fun H locs hP hD hS => ?_)
  have hP : va_P E.1 vwCl (Model_c E a (Model_by_s v (upd (upd (upd (Model_by v) (0 : Int32).toNatClampNeg x0) (1 : Int32).toNatClampNeg ((Model_s v) ((27 + x0)).toNatClampNeg)) (2 : Int32).toNatClampNeg ((Model_s v) ((33 + x0)).toNatClampNeg)))) H := hP
  have hD : va_D A (Model_c E a (Model_by_s v (upd (upd (upd (Model_by v) (0 : Int32).toNatClampNeg x0) (1 : Int32).toNatClampNeg ((Model_s v) ((27 + x0)).toNatClampNeg)) (2 : Int32).toNatClampNeg ((Model_s v) ((33 + x0)).toNatClampNeg)))) := hD
  refine lv_aload_n hx hb dX8_looks_37 rfl (lv_at hl 0 rfl) ?_
  refine va_get (D := E.1) (ci := 8) (v := .ref (Modela_by a)) (C := RX8) (T := TX8) (N := 20) hx hb hts k1 hown hK hP 0 rfl rfl 10 (by decide) k0 (fun _ h9 => h9) rfl dX8_looks_38 ?_
  refine lv_iconst (v := 3) hx hb dX8_looks_41 (by decide) ?_
  refine lv_aload_n hx hb dX8_looks_42 rfl (lv_at hl 0 rfl) ?_
  refine va_get (D := E.1) (ci := 8) (v := .ref (Modela_s a)) (C := RX8) (T := TX8) (N := 20) hx hb hts k1 hown hK hP 0 rfl rfl 1 (by decide) k2 (fun _ h9 => h9) rfl dX8_looks_43 ?_
  refine lv_bipush (v := 39) hx hb dX8_looks_46 (by decide) ?_
  refine lv_iload_n hx hb dX8_looks_48 rfl (lv_at hl 1 rfl) ?_
  refine lv_iadd hx hb dX8_looks_49 ?_
  obtain ⟨h6, hF⟩ := m_chk hF
  refine va_iald (f := (Model_s v)) hx hb hK hP 1 1 rfl rfl (mIn_ok h6) dX8_looks_50 ?_
  refine W.eq (g2 := F0 m 51 ls [.int ((Model_s v) ((39 + x0)).toNatClampNeg), .int 3, .ref (Modela_by a)]) rfl ?_
  obtain ⟨h7, hF⟩ := m_chk hF
  refine va_iast (f := (upd (upd (upd (Model_by v) (0 : Int32).toNatClampNeg x0) (1 : Int32).toNatClampNeg ((Model_s v) ((27 + x0)).toNatClampNeg)) (2 : Int32).toNatClampNeg ((Model_s v) ((33 + x0)).toNatClampNeg))) hx hb hK hP hD hS 4 1 rfl rfl (mIn_ok h7) dX8_looks_51 (fun H locs hP hD hS => ?_)
  have hP : va_P E.1 vwCl (Model_c E a (Model_by_s v (upd (upd (upd (upd (Model_by v) (0 : Int32).toNatClampNeg x0) (1 : Int32).toNatClampNeg ((Model_s v) ((27 + x0)).toNatClampNeg)) (2 : Int32).toNatClampNeg ((Model_s v) ((33 + x0)).toNatClampNeg)) (3 : Int32).toNatClampNeg ((Model_s v) ((39 + x0)).toNatClampNeg)))) H := hP
  have hD : va_D A (Model_c E a (Model_by_s v (upd (upd (upd (upd (Model_by v) (0 : Int32).toNatClampNeg x0) (1 : Int32).toNatClampNeg ((Model_s v) ((27 + x0)).toNatClampNeg)) (2 : Int32).toNatClampNeg ((Model_s v) ((33 + x0)).toNatClampNeg)) (3 : Int32).toNatClampNeg ((Model_s v) ((39 + x0)).toNatClampNeg)))) := hD
  refine lv_aload_n hx hb dX8_looks_52 rfl (lv_at hl 0 rfl) ?_
  refine va_get (D := E.1) (ci := 8) (v := .ref (Modela_by a)) (C := RX8) (T := TX8) (N := 20) hx hb hts k1 hown hK hP 0 rfl rfl 10 (by decide) k0 (fun _ h9 => h9) rfl dX8_looks_53 ?_
  refine lv_iconst (v := 4) hx hb dX8_looks_56 (by decide) ?_
  refine lv_aload_n hx hb dX8_looks_57 rfl (lv_at hl 0 rfl) ?_
  refine va_get (D := E.1) (ci := 8) (v := .ref (Modela_s a)) (C := RX8) (T := TX8) (N := 20) hx hb hts k1 hown hK hP 0 rfl rfl 1 (by decide) k2 (fun _ h9 => h9) rfl dX8_looks_58 ?_
  refine lv_iconst (v := 2) hx hb dX8_looks_61 (by decide) ?_
  refine lv_iload_n hx hb dX8_looks_62 rfl (lv_at hl 1 rfl) ?_
  refine lv_iadd hx hb dX8_looks_63 ?_
  obtain ⟨h8, hF⟩ := m_chk hF
  refine va_iald (f := (Model_s v)) hx hb hK hP 1 1 rfl rfl (mIn_ok h8) dX8_looks_64 ?_
  refine W.eq (g2 := F0 m 65 ls [.int ((Model_s v) ((2 + x0)).toNatClampNeg), .int 4, .ref (Modela_by a)]) rfl ?_
  refine lv_bipush (v := 10) hx hb dX8_looks_65 (by decide) ?_
  refine lv_idiv hx hb dX8_looks_67 (by decide) ?_
  obtain ⟨h9, hF⟩ := m_chk hF
  refine va_iast (f := (upd (upd (upd (upd (Model_by v) (0 : Int32).toNatClampNeg x0) (1 : Int32).toNatClampNeg ((Model_s v) ((27 + x0)).toNatClampNeg)) (2 : Int32).toNatClampNeg ((Model_s v) ((33 + x0)).toNatClampNeg)) (3 : Int32).toNatClampNeg ((Model_s v) ((39 + x0)).toNatClampNeg))) hx hb hK hP hD hS 4 1 rfl rfl (mIn_ok h9) dX8_looks_68 (fun H locs hP hD hS => ?_)
  have hP : va_P E.1 vwCl (Model_c E a (Model_by_s v (upd (upd (upd (upd (upd (Model_by v) (0 : Int32).toNatClampNeg x0) (1 : Int32).toNatClampNeg ((Model_s v) ((27 + x0)).toNatClampNeg)) (2 : Int32).toNatClampNeg ((Model_s v) ((33 + x0)).toNatClampNeg)) (3 : Int32).toNatClampNeg ((Model_s v) ((39 + x0)).toNatClampNeg)) (4 : Int32).toNatClampNeg (((Model_s v) ((2 + x0)).toNatClampNeg) / 10)))) H := hP
  have hD : va_D A (Model_c E a (Model_by_s v (upd (upd (upd (upd (upd (Model_by v) (0 : Int32).toNatClampNeg x0) (1 : Int32).toNatClampNeg ((Model_s v) ((27 + x0)).toNatClampNeg)) (2 : Int32).toNatClampNeg ((Model_s v) ((33 + x0)).toNatClampNeg)) (3 : Int32).toNatClampNeg ((Model_s v) ((39 + x0)).toNatClampNeg)) (4 : Int32).toNatClampNeg (((Model_s v) ((2 + x0)).toNatClampNeg) / 10)))) := hD
  refine lv_aload_n hx hb dX8_looks_69 rfl (lv_at hl 0 rfl) ?_
  refine va_get (D := E.1) (ci := 8) (v := .ref (Modela_by a)) (C := RX8) (T := TX8) (N := 20) hx hb hts k1 hown hK hP 0 rfl rfl 10 (by decide) k0 (fun _ h9 => h9) rfl dX8_looks_70 ?_
  refine lv_iconst (v := 5) hx hb dX8_looks_73 (by decide) ?_
  refine lv_aload_n hx hb dX8_looks_74 rfl (lv_at hl 0 rfl) ?_
  refine va_get (D := E.1) (ci := 8) (v := .ref (Modela_s a)) (C := RX8) (T := TX8) (N := 20) hx hb hts k1 hown hK hP 0 rfl rfl 1 (by decide) k2 (fun _ h9 => h9) rfl dX8_looks_75 ?_
  refine lv_iconst (v := 0) hx hb dX8_looks_78 (by decide) ?_
  obtain ⟨h10, hF⟩ := m_chk hF
  refine va_iald (f := (Model_s v)) hx hb hK hP 1 1 rfl rfl (mIn_ok h10) dX8_looks_79 ?_
  refine W.eq (g2 := F0 m 80 ls [.int ((Model_s v) (0 : Int32).toNatClampNeg), .int 5, .ref (Modela_by a)]) rfl ?_
  refine lv_bipush (v := 10) hx hb dX8_looks_80 (by decide) ?_
  refine lv_irem hx hb dX8_looks_82 (by decide) ?_
  refine W.eq (g2 := F0 m 83 ls [.int (mRem ((Model_s v) (0 : Int32).toNatClampNeg) 10), .int 5, .ref (Modela_by a)]) rfl ?_
  obtain ⟨h11, hF⟩ := m_chk hF
  refine va_iast (f := (upd (upd (upd (upd (upd (Model_by v) (0 : Int32).toNatClampNeg x0) (1 : Int32).toNatClampNeg ((Model_s v) ((27 + x0)).toNatClampNeg)) (2 : Int32).toNatClampNeg ((Model_s v) ((33 + x0)).toNatClampNeg)) (3 : Int32).toNatClampNeg ((Model_s v) ((39 + x0)).toNatClampNeg)) (4 : Int32).toNatClampNeg (((Model_s v) ((2 + x0)).toNatClampNeg) / 10))) hx hb hK hP hD hS 4 1 rfl rfl (mIn_ok h11) dX8_looks_83 (fun H locs hP hD hS => ?_)
  have hP : va_P E.1 vwCl (Model_c E a (Model_by_s v (upd (upd (upd (upd (upd (upd (Model_by v) (0 : Int32).toNatClampNeg x0) (1 : Int32).toNatClampNeg ((Model_s v) ((27 + x0)).toNatClampNeg)) (2 : Int32).toNatClampNeg ((Model_s v) ((33 + x0)).toNatClampNeg)) (3 : Int32).toNatClampNeg ((Model_s v) ((39 + x0)).toNatClampNeg)) (4 : Int32).toNatClampNeg (((Model_s v) ((2 + x0)).toNatClampNeg) / 10)) (5 : Int32).toNatClampNeg (mRem ((Model_s v) (0 : Int32).toNatClampNeg) 10)))) H := hP
  have hD : va_D A (Model_c E a (Model_by_s v (upd (upd (upd (upd (upd (upd (Model_by v) (0 : Int32).toNatClampNeg x0) (1 : Int32).toNatClampNeg ((Model_s v) ((27 + x0)).toNatClampNeg)) (2 : Int32).toNatClampNeg ((Model_s v) ((33 + x0)).toNatClampNeg)) (3 : Int32).toNatClampNeg ((Model_s v) ((39 + x0)).toNatClampNeg)) (4 : Int32).toNatClampNeg (((Model_s v) ((2 + x0)).toNatClampNeg) / 10)) (5 : Int32).toNatClampNeg (mRem ((Model_s v) (0 : Int32).toNatClampNeg) 10)))) := hD
  refine lv_iconst (v := 0) hx hb dX8_looks_84 (by decide) ?_
  refine lv_istore_n (lv' := [(2, .int 0), (0, .ref (Modela_self a)), (1, .int x0)]) hx hb dX8_looks_85 rfl hl (by decide) rfl (fun ls hl => ?_)
  refine lv_aload_n hx hb dX8_looks_86 rfl (lv_at hl 1 rfl) ?_
  refine lv_sipush (v := 221) hx hb dX8_looks_87 (by decide) ?_
  refine lv_iconst (v := 0) hx hb dX8_looks_90 (by decide) ?_
  obtain ⟨t12, ht12, hF⟩ := m_bnd hF
  refine mVP (ci := 8) (n := 2) (rest := []) (As := [.int 221, .int 0]) CC hKN hGl hS (c_X8_tellsOf l E a (Model_by_s v (upd (upd (upd (upd (upd (upd (Model_by v) (0 : Int32).toNatClampNeg x0) (1 : Int32).toNatClampNeg ((Model_s v) ((27 + x0)).toNatClampNeg)) (2 : Int32).toNatClampNeg ((Model_s v) ((33 + x0)).toNatClampNeg)) (3 : Int32).toNatClampNeg ((Model_s v) ((39 + x0)).toNatClampNeg)) (4 : Int32).toNatClampNeg (((Model_s v) ((2 + x0)).toNatClampNeg) / 10)) (5 : Int32).toNatClampNeg (mRem ((Model_s v) (0 : Int32).toNatClampNeg) 10))) 221 0 t12 ht12) gX8_looks_X8_tellsOf rfl ⟨rfl, rfl⟩ (by decide +kernel) ⟨Nat.le_of_ble_eq_true rfl, Nat.le_of_ble_eq_true rfl⟩ hP rfl rfl rfl rfl hl.1 rfl (Nat.le_of_ble_eq_true rfl) ⟨Nat.zero_le _, Nat.zero_le _⟩ dX8_looks_91 ?_
  refine W.eq (g2 := F0 m 94 ls [.int t12]) rfl ?_
  refine lv_istore_n (lv' := [(3, .int t12), (2, .int 0), (0, .ref (Modela_self a)), (1, .int x0)]) hx hb dX8_looks_94 rfl hl (by decide) rfl (fun ls hl => ?_)
  refine lv_sipush (v := 226) hx hb dX8_looks_95 (by decide) ?_
  refine lv_sipush (v := 140) hx hb dX8_looks_98 (by decide) ?_
  refine lv_aload_n hx hb dX8_looks_101 rfl (lv_at hl 2 rfl) ?_
  refine va_get (D := E.1) (ci := 8) (v := .ref (Modela_s a)) (C := RX8) (T := TX8) (N := 20) hx hb hts k1 hown hK hP 0 rfl rfl 1 (by decide) k2 (fun _ h9 => h9) rfl dX8_looks_102 ?_
  refine lv_bipush (v := 26) hx hb dX8_looks_105 (by decide) ?_
  obtain ⟨h13, hF⟩ := m_chk hF
  refine va_iald (f := (Model_s v)) hx hb hK hP 1 1 rfl rfl (mIn_ok h13) dX8_looks_107 ?_
  refine W.eq (g2 := F0 m 108 ls [.int ((Model_s v) (26 : Int32).toNatClampNeg), .int 140, .int 226]) rfl ?_
  refine lv_imul hx hb dX8_looks_108 ?_
  refine lv_iadd hx hb dX8_looks_109 ?_
  refine lv_istore (lv' := [(4, .int (226 + (140 * ((Model_s v) (26 : Int32).toNatClampNeg)))), (3, .int t12), (2, .int 0), (0, .ref (Modela_self a)), (1, .int x0)]) hx hb dX8_looks_110 hl (by decide) rfl (fun ls hl => ?_)
  refine lv_iconst (v := 0) hx hb dX8_looks_112 (by decide) ?_
  refine lv_istore (lv' := [(5, .int 0), (4, .int (226 + (140 * ((Model_s v) (26 : Int32).toNatClampNeg)))), (3, .int t12), (2, .int 0), (0, .ref (Modela_self a)), (1, .int x0)]) hx hb dX8_looks_113 hl (by decide) rfl (fun ls hl => ?_)
  refine lv_iload hx hb dX8_looks_115 (lv_at hl 1 rfl) ?_
  refine lv_istore (lv' := [(6, .int (226 + (140 * ((Model_s v) (26 : Int32).toNatClampNeg)))), (5, .int 0), (4, .int (226 + (140 * ((Model_s v) (26 : Int32).toNatClampNeg)))), (3, .int t12), (2, .int 0), (0, .ref (Modela_self a)), (1, .int x0)]) hx hb dX8_looks_117 hl (by decide) rfl (fun ls hl => ?_)
  have hL119 : ∀ (n : Nat) (y2_119 : Int32) (y5_119 : Int32) (y6_119 : Int32) (wy_119 : ModelV) (H : Heap) (locs : List Loc) (ls : Array Slot), lp_X8_looks_119 v t12 n y2_119 y5_119 y6_119 wy_119 = some t → va_P E.1 vwCl (Model_c E a wy_119) H → va_D A (Model_c E a wy_119) → va_S A s.heap H locs → lv_has ls 11 [(0, .ref (Modela_self a)), (2, .int y2_119), (3, .int t12), (4, .int (226 + (140 * ((Model_s v) (26 : Int32).toNatClampNeg)))), (5, .int y5_119), (6, .int y6_119)] → W p l e_ rmX8_looks s m args below meth c H locs 0 0 Q (F0 m 119 ls []) := by
    intro n
    induction n with
    | zero =>
      intro y2_119 y5_119 y6_119 wy_119 H locs ls hF
      exact nomatch (show (none : Option (Int32 × ModelV)) = some t from hF)
    | succ n ih119 =>
      intro y2_119 y5_119 y6_119 wy_119 H locs ls hF hP hD hS hl
      have hF : st_X8_looks_119 v t12 (lp_X8_looks_119 v t12 n) y2_119 y5_119 y6_119 wy_119 = some t := hF
      unfold st_X8_looks_119 at hF
      refine lv_iload hx hb dX8_looks_119 (lv_at hl 5 rfl) ?_
      refine lv_iload hx hb dX8_looks_121 (lv_at hl 3 rfl) ?_
      refine lv_iload_n hx hb dX8_looks_123 rfl (lv_at hl 2 rfl) ?_
      refine lv_iadd hx hb dX8_looks_124 ?_
      refine lv_icmp_ge (tgt := 425) hx hb dX8_looks_125 (by decide) (fun c14 => ?_) (fun c14 => ?_)
      · have hF := m_pos c14 hF
        refine lv_iload_n hx hb dX8_looks_425 rfl (lv_at hl 1 rfl) ?_
        have hF := Option.some.inj hF
        subst hF
        rw [hQ]
        exact W.iret hx hb hr (fun t ht _ => ⟨⟨rfl, by rw [ht]; exact hP, hD⟩, hS.F ht⟩) hS.2.2 dX8_looks_426
      · have hF := m_neg c14 hF
        refine lv_aload_n hx hb dX8_looks_128 rfl (lv_at hl 0 rfl) ?_
        refine va_get (D := E.1) (ci := 8) (v := .ref (Modela_s a)) (C := RX8) (T := TX8) (N := 20) hx hb hts k1 hown hK hP 0 rfl rfl 1 (by decide) k2 (fun _ h9 => h9) rfl dX8_looks_129 ?_
        refine lv_iload hx hb dX8_looks_132 (lv_at hl 5 rfl) ?_
        obtain ⟨h15, hF⟩ := m_chk hF
        refine va_iald (f := (Model_s wy_119)) hx hb hK hP 1 1 rfl rfl (mIn_ok h15) dX8_looks_134 ?_
        refine W.eq (g2 := F0 m 135 ls [.int ((Model_s wy_119) (y6_119).toNatClampNeg)]) rfl ?_
        refine lv_istore (lv' := [(7, .int ((Model_s wy_119) (y6_119).toNatClampNeg)), (0, .ref (Modela_self a)), (2, .int y2_119), (3, .int t12), (4, .int (226 + (140 * ((Model_s v) (26 : Int32).toNatClampNeg)))), (5, .int y5_119), (6, .int y6_119)]) hx hb dX8_looks_135 hl (by decide) rfl (fun ls hl => ?_)
        refine lv_iload hx hb dX8_looks_137 (lv_at hl 0 rfl) ?_
        obtain ⟨j419, hjd419, hF⟩ := m_jp hF
        have hj419 : ∀ (x2_419 : Int32) (x5_419 : Int32) (wx_419 : ModelV) (H : Heap) (locs : List Loc) (ls : Array Slot), j419 x2_419 x5_419 wx_419 = some t → va_P E.1 vwCl (Model_c E a wx_419) H → va_D A (Model_c E a wx_419) → va_S A s.heap H locs → lv_has ls 11 [(0, .ref (Modela_self a)), (2, .int x2_419), (3, .int t12), (4, .int (226 + (140 * ((Model_s v) (26 : Int32).toNatClampNeg)))), (5, .int x5_419), (6, .int y6_119)] → W p l e_ rmX8_looks s m args below meth c H locs 0 0 Q (F0 m 419 ls []) := by
          intro x2_419 x5_419 wx_419 H locs ls hF hP hD hS hl
          rw [hjd419] at hF
          refine lv_iinc (v := (y6_119 + 1)) (lv' := [(6, .int (y6_119 + 1)), (0, .ref (Modela_self a)), (2, .int x2_419), (3, .int t12), (4, .int (226 + (140 * ((Model_s v) (26 : Int32).toNatClampNeg)))), (5, .int x5_419)]) hx hb dX8_looks_419 hl (k := 5) rfl rfl (by decide) rfl (fun ls hl => ?_)
          refine lv_goto (tgt := 119) hx hb dX8_looks_422 (by decide) ?_
          exact ih119 x2_419 x5_419 (y6_119 + 1) wx_419 H locs ls hF hP hD hS (lv_sub hl [1, 2, 3, 4, 5, 0] rfl)
        clear hjd419
        refine lv_if_lt (tgt := 236) hx hb dX8_looks_139 (by decide) (fun c16 => ?_) (fun c16 => ?_)
        · have hF := m_pos c16 hF
          refine lv_iload hx hb dX8_looks_236 (lv_at hl 0 rfl) ?_
          refine lv_iconst (v := (-1)) hx hb dX8_looks_238 (by decide) ?_
          refine lv_icmp_ne (tgt := 271) hx hb dX8_looks_239 (by decide) (fun c17 => ?_) (fun c17 => ?_)
          · have hF := m_pos c17 hF
            refine lv_iload hx hb dX8_looks_271 (lv_at hl 0 rfl) ?_
            refine lv_bipush (v := (-10)) hx hb dX8_looks_273 (by decide) ?_
            refine lv_icmp_le (tgt := 357) hx hb dX8_looks_275 (by decide) (fun c18 => ?_) (fun c18 => ?_)
            · have hF := m_pos c18 hF
              refine lv_iconst (v := 0) hx hb dX8_looks_357 (by decide) ?_
              refine lv_istore (lv' := [(5, .int 0), (7, .int ((Model_s wy_119) (y6_119).toNatClampNeg)), (0, .ref (Modela_self a)), (2, .int y2_119), (3, .int t12), (4, .int (226 + (140 * ((Model_s v) (26 : Int32).toNatClampNeg)))), (6, .int y6_119)]) hx hb dX8_looks_358 hl (by decide) rfl (fun ls hl => ?_)
              refine lv_aload_n hx hb dX8_looks_360 rfl (lv_at hl 2 rfl) ?_
              refine va_get (D := E.1) (ci := 8) (v := .ref (Modela_truths a)) (C := RX8) (T := TX8) (N := 20) hx hb hts k1 hown hK hP 0 rfl rfl 11 (by decide) k3 (fun _ h9 => h9) rfl dX8_looks_361 ?_
              refine lv_iconst (v := 0) hx hb dX8_looks_364 (by decide) ?_
              obtain ⟨h19, hF⟩ := m_chk hF
              refine va_zald (f := (Model_truths wy_119)) hx hb hK hP 5 2 rfl rfl (mIn_ok h19) dX8_looks_365 ?_
              refine W.eq (g2 := F0 m 366 ls [.int ((Model_truths wy_119) (0 : Int32).toNatClampNeg)]) rfl ?_
              refine lv_istore (lv' := [(8, .int ((Model_truths wy_119) (0 : Int32).toNatClampNeg)), (5, .int 0), (7, .int ((Model_s wy_119) (y6_119).toNatClampNeg)), (0, .ref (Modela_self a)), (2, .int y2_119), (3, .int t12), (4, .int (226 + (140 * ((Model_s v) (26 : Int32).toNatClampNeg)))), (6, .int y6_119)]) hx hb dX8_looks_366 hl (by decide) rfl (fun ls hl => ?_)
              refine lv_iload_n hx hb dX8_looks_368 rfl (lv_at hl 4 rfl) ?_
              refine lv_iload hx hb dX8_looks_369 (lv_at hl 0 rfl) ?_
              obtain ⟨j391, hjd391, hF⟩ := m_jp hF
              have hj391 : ∀ (z0_391 : Int32) (H : Heap) (locs : List Loc) (ls : Array Slot), j391 z0_391 = some t → va_P E.1 vwCl (Model_c E a wy_119) H → va_D A (Model_c E a wy_119) → va_S A s.heap H locs → lv_has ls 11 [(0, .ref (Modela_self a)), (3, .int t12), (4, .int (226 + (140 * ((Model_s v) (26 : Int32).toNatClampNeg)))), (5, .int 0), (6, .int y6_119), (7, .int ((Model_s wy_119) (y6_119).toNatClampNeg)), (8, .int ((Model_truths wy_119) (0 : Int32).toNatClampNeg))] → W p l e_ rmX8_looks s m args below meth c H locs 0 0 Q (F0 m 391 ls [.int z0_391, .int y2_119]) := by
                intro z0_391 H locs ls hF hP hD hS hl
                rw [hjd391] at hF
                refine lv_iadd hx hb dX8_looks_391 ?_
                refine lv_istore_n (lv' := [(2, .int (y2_119 + z0_391)), (0, .ref (Modela_self a)), (3, .int t12), (4, .int (226 + (140 * ((Model_s v) (26 : Int32).toNatClampNeg)))), (5, .int 0), (6, .int y6_119), (7, .int ((Model_s wy_119) (y6_119).toNatClampNeg)), (8, .int ((Model_truths wy_119) (0 : Int32).toNatClampNeg))]) hx hb dX8_looks_392 rfl hl (by decide) rfl (fun ls hl => ?_)
                refine lv_iload_n hx hb dX8_looks_393 rfl (lv_at hl 0 rfl) ?_
                refine lv_iload hx hb dX8_looks_394 (lv_at hl 7 rfl) ?_
                obtain ⟨j417, hjd417, hF⟩ := m_jp hF
                have hj417 : ∀ (z0_417 : Int32) (H : Heap) (locs : List Loc) (ls : Array Slot), j417 z0_417 = some t → va_P E.1 vwCl (Model_c E a wy_119) H → va_D A (Model_c E a wy_119) → va_S A s.heap H locs → lv_has ls 11 [(0, .ref (Modela_self a)), (3, .int t12), (4, .int (226 + (140 * ((Model_s v) (26 : Int32).toNatClampNeg)))), (5, .int 0), (6, .int y6_119)] → W p l e_ rmX8_looks s m args below meth c H locs 0 0 Q (F0 m 417 ls [.int z0_417, .int (y2_119 + z0_391)]) := by
                  intro z0_417 H locs ls hF hP hD hS hl
                  rw [hjd417] at hF
                  refine lv_isub hx hb dX8_looks_417 ?_
                  refine lv_istore_n (lv' := [(2, .int ((y2_119 + z0_391) - z0_417)), (0, .ref (Modela_self a)), (3, .int t12), (4, .int (226 + (140 * ((Model_s v) (26 : Int32).toNatClampNeg)))), (5, .int 0), (6, .int y6_119)]) hx hb dX8_looks_418 rfl hl (by decide) rfl (fun ls hl => ?_)
                  exact hj419 ((y2_119 + z0_391) - z0_417) 0 wy_119 H locs ls hF hP hD hS (lv_sub hl [1, 0, 2, 3, 4, 5] rfl)
                clear hjd417
                obtain ⟨j416, hjd416, hF⟩ := m_jp hF
                have hj416 : ∀ (H : Heap) (locs : List Loc) (ls : Array Slot), j416 () = some t → va_P E.1 vwCl (Model_c E a wy_119) H → va_D A (Model_c E a wy_119) → va_S A s.heap H locs → lv_has ls 11 [(0, .ref (Modela_self a)), (3, .int t12), (4, .int (226 + (140 * ((Model_s v) (26 : Int32).toNatClampNeg)))), (5, .int 0), (6, .int y6_119)] → W p l e_ rmX8_looks s m args below meth c H locs 0 0 Q (F0 m 416 ls [.int (y2_119 + z0_391)]) := by
                  intro H locs ls hF hP hD hS hl
                  rw [hjd416] at hF
                  refine lv_iconst (v := 0) hx hb dX8_looks_416 (by decide) ?_
                  exact hj417 0 H locs ls hF hP hD hS (lv_sub hl [0, 1, 2, 3, 4] rfl)
                clear hjd416
                refine lv_if_eq (tgt := 416) hx hb dX8_looks_396 (by decide) (fun c20 => ?_) (fun c20 => ?_)
                · have hF := m_pos c20 hF
                  exact hj416 H locs ls hF hP hD hS (lv_sub hl [1, 2, 3, 4, 5] rfl)
                · have hF := m_neg c20 hF
                  refine lv_iload hx hb dX8_looks_399 (lv_at hl 6 rfl) ?_
                  refine lv_sipush (v := (-200)) hx hb dX8_looks_401 (by decide) ?_
                  refine lv_icmp_gt (tgt := 416) hx hb dX8_looks_404 (by decide) (fun c21 => ?_) (fun c21 => ?_)
                  · have hF := m_pos c21 hF
                    exact hj416 H locs ls hF hP hD hS (lv_sub hl [1, 2, 3, 4, 5] rfl)
                  · have hF := m_neg c21 hF
                    refine lv_sipush (v := (-200)) hx hb dX8_looks_407 (by decide) ?_
                    refine lv_iload hx hb dX8_looks_410 (lv_at hl 6 rfl) ?_
                    refine lv_isub hx hb dX8_looks_412 ?_
                    refine lv_goto (tgt := 417) hx hb dX8_looks_413 (by decide) ?_
                    exact hj417 ((-200) - ((Model_s wy_119) (y6_119).toNatClampNeg)) H locs ls hF hP hD hS (lv_sub hl [1, 2, 3, 4, 5] rfl)
              clear hjd391
              obtain ⟨j390, hjd390, hF⟩ := m_jp hF
              have hj390 : ∀ (H : Heap) (locs : List Loc) (ls : Array Slot), j390 () = some t → va_P E.1 vwCl (Model_c E a wy_119) H → va_D A (Model_c E a wy_119) → va_S A s.heap H locs → lv_has ls 11 [(0, .ref (Modela_self a)), (3, .int t12), (4, .int (226 + (140 * ((Model_s v) (26 : Int32).toNatClampNeg)))), (5, .int 0), (6, .int y6_119), (7, .int ((Model_s wy_119) (y6_119).toNatClampNeg)), (8, .int ((Model_truths wy_119) (0 : Int32).toNatClampNeg))] → W p l e_ rmX8_looks s m args below meth c H locs 0 0 Q (F0 m 390 ls [.int y2_119]) := by
                intro H locs ls hF hP hD hS hl
                rw [hjd390] at hF
                refine lv_iconst (v := 0) hx hb dX8_looks_390 (by decide) ?_
                exact hj391 0 H locs ls hF hP hD hS (lv_sub hl [0, 1, 2, 3, 4, 5, 6] rfl)
              clear hjd390
              refine lv_if_eq (tgt := 390) hx hb dX8_looks_371 (by decide) (fun c22 => ?_) (fun c22 => ?_)
              · have hF := m_pos c22 hF
                exact hj390 H locs ls hF hP hD hS (lv_sub hl [3, 5, 6, 1, 7, 2, 0] rfl)
              · have hF := m_neg c22 hF
                refine lv_iload hx hb dX8_looks_374 (lv_at hl 2 rfl) ?_
                refine lv_sipush (v := (-200)) hx hb dX8_looks_376 (by decide) ?_
                refine lv_icmp_le (tgt := 390) hx hb dX8_looks_379 (by decide) (fun c23 => ?_) (fun c23 => ?_)
                · have hF := m_pos c23 hF
                  exact hj390 H locs ls hF hP hD hS (lv_sub hl [3, 5, 6, 1, 7, 2, 0] rfl)
                · have hF := m_neg c23 hF
                  refine lv_bipush (v := (-10)) hx hb dX8_looks_382 (by decide) ?_
                  refine lv_iload hx hb dX8_looks_384 (lv_at hl 2 rfl) ?_
                  refine lv_isub hx hb dX8_looks_386 ?_
                  refine lv_goto (tgt := 391) hx hb dX8_looks_387 (by decide) ?_
                  exact hj391 ((-10) - ((Model_s wy_119) (y6_119).toNatClampNeg)) H locs ls hF hP hD hS (lv_sub hl [3, 5, 6, 1, 7, 2, 0] rfl)
            · have hF := m_neg c18 hF
              refine lv_iinc (v := (y5_119 + (-1))) (lv' := [(5, .int (y5_119 + (-1))), (7, .int ((Model_s wy_119) (y6_119).toNatClampNeg)), (0, .ref (Modela_self a)), (2, .int y2_119), (3, .int t12), (4, .int (226 + (140 * ((Model_s v) (26 : Int32).toNatClampNeg)))), (6, .int y6_119)]) hx hb dX8_looks_278 hl (k := 5) rfl rfl (by decide) rfl (fun ls hl => ?_)
              refine lv_aload_n hx hb dX8_looks_281 rfl (lv_at hl 2 rfl) ?_
              refine va_get (D := E.1) (ci := 8) (v := .ref (Modela_truths a)) (C := RX8) (T := TX8) (N := 20) hx hb hts k1 hown hK hP 0 rfl rfl 11 (by decide) k3 (fun _ h9 => h9) rfl dX8_looks_282 ?_
              refine lv_iload hx hb dX8_looks_285 (lv_at hl 0 rfl) ?_
              refine lv_iconst (v := 1) hx hb dX8_looks_287 (by decide) ?_
              refine lv_isub hx hb dX8_looks_288 ?_
              refine lv_iload hx hb dX8_looks_289 (lv_at hl 1 rfl) ?_
              refine lv_bipush (v := (-2)) hx hb dX8_looks_291 (by decide) ?_
              obtain ⟨j353, hjd353, hF⟩ := m_jp hF
              have hj353 : ∀ (z0_353 : Int32) (H : Heap) (locs : List Loc) (ls : Array Slot), j353 z0_353 = some t → va_P E.1 vwCl (Model_c E a wy_119) H → va_D A (Model_c E a wy_119) → va_S A s.heap H locs → lv_has ls 11 [(0, .ref (Modela_self a)), (2, .int y2_119), (3, .int t12), (4, .int (226 + (140 * ((Model_s v) (26 : Int32).toNatClampNeg)))), (5, .int (y5_119 + (-1))), (6, .int y6_119)] → W p l e_ rmX8_looks s m args below meth c H locs 0 0 Q (F0 m 353 ls [.int z0_353, .int ((y5_119 + (-1)) - 1), .ref (Modela_truths a)]) := by
                intro z0_353 H locs ls hF hP hD hS hl
                rw [hjd353] at hF
                obtain ⟨h24, hF⟩ := m_chk hF
                refine va_zast (f := (Model_truths wy_119)) hx hb hK hP hD hS 5 2 rfl rfl (mIn_ok h24) dX8_looks_353 (fun H locs hP hD hS => ?_)
                have hP : va_P E.1 vwCl (Model_c E a (Model_truths_s wy_119 (upd (Model_truths wy_119) (((y5_119 + (-1)) - 1)).toNatClampNeg (vp_nar .boolean z0_353)))) H := hP
                have hD : va_D A (Model_c E a (Model_truths_s wy_119 (upd (Model_truths wy_119) (((y5_119 + (-1)) - 1)).toNatClampNeg (vp_nar .boolean z0_353)))) := hD
                refine lv_goto (tgt := 419) hx hb dX8_looks_354 (by decide) ?_
                exact hj419 y2_119 (y5_119 + (-1)) (Model_truths_s wy_119 (upd (Model_truths wy_119) (((y5_119 + (-1)) - 1)).toNatClampNeg (vp_nar .boolean z0_353))) H locs ls hF hP hD hS (lv_sub hl [0, 1, 2, 3, 4, 5] rfl)
              clear hjd353
              refine lv_icmp_ne (tgt := 326) hx hb dX8_looks_293 (by decide) (fun c25 => ?_) (fun c25 => ?_)
              · have hF := m_pos c25 hF
                refine lv_aload_n hx hb dX8_looks_326 rfl (lv_at hl 2 rfl) ?_
                refine va_get (D := E.1) (ci := 8) (v := .ref (Modela_truths a)) (C := RX8) (T := TX8) (N := 20) hx hb hts k1 hown hK hP 0 rfl rfl 11 (by decide) k3 (fun _ h9 => h9) rfl dX8_looks_327 ?_
                refine lv_iload hx hb dX8_looks_330 (lv_at hl 0 rfl) ?_
                refine lv_iconst (v := 1) hx hb dX8_looks_332 (by decide) ?_
                refine lv_isub hx hb dX8_looks_333 ?_
                obtain ⟨h26, hF⟩ := m_chk hF
                refine va_zald (f := (Model_truths wy_119)) hx hb hK hP 5 2 rfl rfl (mIn_ok h26) dX8_looks_334 ?_
                refine W.eq (g2 := F0 m 335 ls [.int ((Model_truths wy_119) (((y5_119 + (-1)) - 1)).toNatClampNeg), .int ((y5_119 + (-1)) - 1), .ref (Modela_truths a)]) rfl ?_
                obtain ⟨j348, hjd348, hF⟩ := m_jp hF
                have hj348 : ∀ (H : Heap) (locs : List Loc) (ls : Array Slot), j348 () = some t → va_P E.1 vwCl (Model_c E a wy_119) H → va_D A (Model_c E a wy_119) → va_S A s.heap H locs → lv_has ls 11 [(0, .ref (Modela_self a)), (2, .int y2_119), (3, .int t12), (4, .int (226 + (140 * ((Model_s v) (26 : Int32).toNatClampNeg)))), (5, .int (y5_119 + (-1))), (6, .int y6_119)] → W p l e_ rmX8_looks s m args below meth c H locs 0 0 Q (F0 m 348 ls [.int ((y5_119 + (-1)) - 1), .ref (Modela_truths a)]) := by
                  intro H locs ls hF hP hD hS hl
                  rw [hjd348] at hF
                  refine lv_iconst (v := 1) hx hb dX8_looks_348 (by decide) ?_
                  refine lv_goto (tgt := 353) hx hb dX8_looks_349 (by decide) ?_
                  exact hj353 1 H locs ls hF hP hD hS (lv_sub hl [0, 1, 2, 3, 4, 5] rfl)
                clear hjd348
                refine lv_if_ne (tgt := 348) hx hb dX8_looks_335 (by decide) (fun c27 => ?_) (fun c27 => ?_)
                · have hF := m_pos c27 hF
                  exact hj348 H locs ls hF hP hD hS (lv_sub hl [2, 3, 4, 5, 0, 6] rfl)
                · have hF := m_neg (fun n9 => n9 c27) hF
                  refine lv_aload_n hx hb dX8_looks_338 rfl (lv_at hl 2 rfl) ?_
                  refine va_get (D := E.1) (ci := 8) (v := .ref (Modela_truths a)) (C := RX8) (T := TX8) (N := 20) hx hb hts k1 hown hK hP 0 rfl rfl 11 (by decide) k3 (fun _ h9 => h9) rfl dX8_looks_339 ?_
                  refine lv_iload hx hb dX8_looks_342 (lv_at hl 0 rfl) ?_
                  obtain ⟨h28, hF⟩ := m_chk hF
                  refine va_zald (f := (Model_truths wy_119)) hx hb hK hP 5 2 rfl rfl (mIn_ok h28) dX8_looks_344 ?_
                  refine W.eq (g2 := F0 m 345 ls [.int ((Model_truths wy_119) ((y5_119 + (-1))).toNatClampNeg), .int ((y5_119 + (-1)) - 1), .ref (Modela_truths a)]) rfl ?_
                  refine lv_if_eq (tgt := 352) hx hb dX8_looks_345 (by decide) (fun c29 => ?_) (fun c29 => ?_)
                  · have hF := m_pos c29 hF
                    refine lv_iconst (v := 0) hx hb dX8_looks_352 (by decide) ?_
                    exact hj353 0 H locs ls hF hP hD hS (lv_sub hl [2, 3, 4, 5, 0, 6] rfl)
                  · have hF := m_neg c29 hF
                    exact hj348 H locs ls hF hP hD hS (lv_sub hl [2, 3, 4, 5, 0, 6] rfl)
              · have hF := m_neg (fun n9 => n9 c25) hF
                refine lv_aload_n hx hb dX8_looks_296 rfl (lv_at hl 2 rfl) ?_
                refine va_get (D := E.1) (ci := 8) (v := .ref (Modela_truths a)) (C := RX8) (T := TX8) (N := 20) hx hb hts k1 hown hK hP 0 rfl rfl 11 (by decide) k3 (fun _ h9 => h9) rfl dX8_looks_297 ?_
                refine lv_iload hx hb dX8_looks_300 (lv_at hl 0 rfl) ?_
                refine lv_iconst (v := 1) hx hb dX8_looks_302 (by decide) ?_
                refine lv_isub hx hb dX8_looks_303 ?_
                obtain ⟨h30, hF⟩ := m_chk hF
                refine va_zald (f := (Model_truths wy_119)) hx hb hK hP 5 2 rfl rfl (mIn_ok h30) dX8_looks_304 ?_
                refine W.eq (g2 := F0 m 305 ls [.int ((Model_truths wy_119) (((y5_119 + (-1)) - 1)).toNatClampNeg), .int ((y5_119 + (-1)) - 1), .ref (Modela_truths a)]) rfl ?_
                obtain ⟨j322, hjd322, hF⟩ := m_jp hF
                have hj322 : ∀ (H : Heap) (locs : List Loc) (ls : Array Slot), j322 () = some t → va_P E.1 vwCl (Model_c E a wy_119) H → va_D A (Model_c E a wy_119) → va_S A s.heap H locs → lv_has ls 11 [(0, .ref (Modela_self a)), (2, .int y2_119), (3, .int t12), (4, .int (226 + (140 * ((Model_s v) (26 : Int32).toNatClampNeg)))), (5, .int (y5_119 + (-1))), (6, .int y6_119)] → W p l e_ rmX8_looks s m args below meth c H locs 0 0 Q (F0 m 322 ls [.int ((y5_119 + (-1)) - 1), .ref (Modela_truths a)]) := by
                  intro H locs ls hF hP hD hS hl
                  rw [hjd322] at hF
                  refine lv_iconst (v := 0) hx hb dX8_looks_322 (by decide) ?_
                  refine lv_goto (tgt := 353) hx hb dX8_looks_323 (by decide) ?_
                  exact hj353 0 H locs ls hF hP hD hS (lv_sub hl [0, 1, 2, 3, 4, 5] rfl)
                clear hjd322
                refine lv_if_eq (tgt := 322) hx hb dX8_looks_305 (by decide) (fun c31 => ?_) (fun c31 => ?_)
                · have hF := m_pos c31 hF
                  exact hj322 H locs ls hF hP hD hS (lv_sub hl [2, 3, 4, 5, 0, 6] rfl)
                · have hF := m_neg c31 hF
                  refine lv_aload_n hx hb dX8_looks_308 rfl (lv_at hl 2 rfl) ?_
                  refine va_get (D := E.1) (ci := 8) (v := .ref (Modela_truths a)) (C := RX8) (T := TX8) (N := 20) hx hb hts k1 hown hK hP 0 rfl rfl 11 (by decide) k3 (fun _ h9 => h9) rfl dX8_looks_309 ?_
                  refine lv_iload hx hb dX8_looks_312 (lv_at hl 0 rfl) ?_
                  obtain ⟨h32, hF⟩ := m_chk hF
                  refine va_zald (f := (Model_truths wy_119)) hx hb hK hP 5 2 rfl rfl (mIn_ok h32) dX8_looks_314 ?_
                  refine W.eq (g2 := F0 m 315 ls [.int ((Model_truths wy_119) ((y5_119 + (-1))).toNatClampNeg), .int ((y5_119 + (-1)) - 1), .ref (Modela_truths a)]) rfl ?_
                  refine lv_if_eq (tgt := 322) hx hb dX8_looks_315 (by decide) (fun c33 => ?_) (fun c33 => ?_)
                  · have hF := m_pos c33 hF
                    exact hj322 H locs ls hF hP hD hS (lv_sub hl [2, 3, 4, 5, 0, 6] rfl)
                  · have hF := m_neg c33 hF
                    refine lv_iconst (v := 1) hx hb dX8_looks_318 (by decide) ?_
                    refine lv_goto (tgt := 353) hx hb dX8_looks_319 (by decide) ?_
                    exact hj353 1 H locs ls hF hP hD hS (lv_sub hl [2, 3, 4, 5, 0, 6] rfl)
          · have hF := m_neg (fun n9 => n9 c17) hF
            refine lv_aload_n hx hb dX8_looks_242 rfl (lv_at hl 1 rfl) ?_
            refine va_get (D := E.1) (ci := 8) (v := .ref (Modela_truths a)) (C := RX8) (T := TX8) (N := 20) hx hb hts k1 hown hK hP 0 rfl rfl 11 (by decide) k3 (fun _ h9 => h9) rfl dX8_looks_243 ?_
            refine lv_iload hx hb dX8_looks_246 (lv_at hl 5 rfl) ?_
            refine lv_iconst (v := 1) hx hb dX8_looks_248 (by decide) ?_
            refine lv_isub hx hb dX8_looks_249 ?_
            refine lv_aload_n hx hb dX8_looks_250 rfl (lv_at hl 1 rfl) ?_
            refine va_get (D := E.1) (ci := 8) (v := .ref (Modela_truths a)) (C := RX8) (T := TX8) (N := 20) hx hb hts k1 hown hK hP 0 rfl rfl 11 (by decide) k3 (fun _ h9 => h9) rfl dX8_looks_251 ?_
            refine lv_iload hx hb dX8_looks_254 (lv_at hl 5 rfl) ?_
            refine lv_iconst (v := 1) hx hb dX8_looks_256 (by decide) ?_
            refine lv_isub hx hb dX8_looks_257 ?_
            obtain ⟨h34, hF⟩ := m_chk hF
            refine va_zald (f := (Model_truths wy_119)) hx hb hK hP 5 2 rfl rfl (mIn_ok h34) dX8_looks_258 ?_
            refine W.eq (g2 := F0 m 259 ls [.int ((Model_truths wy_119) ((y5_119 - 1)).toNatClampNeg), .int (y5_119 - 1), .ref (Modela_truths a)]) rfl ?_
            obtain ⟨j267, hjd267, hF⟩ := m_jp hF
            have hj267 : ∀ (z0_267 : Int32) (H : Heap) (locs : List Loc) (ls : Array Slot), j267 z0_267 = some t → va_P E.1 vwCl (Model_c E a wy_119) H → va_D A (Model_c E a wy_119) → va_S A s.heap H locs → lv_has ls 11 [(0, .ref (Modela_self a)), (2, .int y2_119), (3, .int t12), (4, .int (226 + (140 * ((Model_s v) (26 : Int32).toNatClampNeg)))), (5, .int y5_119), (6, .int y6_119)] → W p l e_ rmX8_looks s m args below meth c H locs 0 0 Q (F0 m 267 ls [.int z0_267, .int (y5_119 - 1), .ref (Modela_truths a)]) := by
              intro z0_267 H locs ls hF hP hD hS hl
              rw [hjd267] at hF
              obtain ⟨h35, hF⟩ := m_chk hF
              refine va_zast (f := (Model_truths wy_119)) hx hb hK hP hD hS 5 2 rfl rfl (mIn_ok h35) dX8_looks_267 (fun H locs hP hD hS => ?_)
              have hP : va_P E.1 vwCl (Model_c E a (Model_truths_s wy_119 (upd (Model_truths wy_119) ((y5_119 - 1)).toNatClampNeg (vp_nar .boolean z0_267)))) H := hP
              have hD : va_D A (Model_c E a (Model_truths_s wy_119 (upd (Model_truths wy_119) ((y5_119 - 1)).toNatClampNeg (vp_nar .boolean z0_267)))) := hD
              refine lv_goto (tgt := 419) hx hb dX8_looks_268 (by decide) ?_
              exact hj419 y2_119 y5_119 (Model_truths_s wy_119 (upd (Model_truths wy_119) ((y5_119 - 1)).toNatClampNeg (vp_nar .boolean z0_267))) H locs ls hF hP hD hS (lv_sub hl [0, 1, 2, 3, 4, 5] rfl)
            clear hjd267
            refine lv_if_ne (tgt := 266) hx hb dX8_looks_259 (by decide) (fun c36 => ?_) (fun c36 => ?_)
            · have hF := m_pos c36 hF
              refine lv_iconst (v := 0) hx hb dX8_looks_266 (by decide) ?_
              exact hj267 0 H locs ls hF hP hD hS (lv_sub hl [1, 2, 3, 4, 5, 6] rfl)
            · have hF := m_neg (fun n9 => n9 c36) hF
              refine lv_iconst (v := 1) hx hb dX8_looks_262 (by decide) ?_
              refine lv_goto (tgt := 267) hx hb dX8_looks_263 (by decide) ?_
              exact hj267 1 H locs ls hF hP hD hS (lv_sub hl [1, 2, 3, 4, 5, 6] rfl)
        · have hF := m_neg c16 hF
          refine lv_aload_n hx hb dX8_looks_142 rfl (lv_at hl 1 rfl) ?_
          refine va_get (D := E.1) (ci := 8) (v := .ref (Modela_by a)) (C := RX8) (T := TX8) (N := 20) hx hb hts k1 hown hK hP 0 rfl rfl 10 (by decide) k0 (fun _ h9 => h9) rfl dX8_looks_143 ?_
          refine lv_iload hx hb dX8_looks_146 (lv_at hl 0 rfl) ?_
          refine lv_bipush (v := 8) hx hb dX8_looks_148 (by decide) ?_
          refine lv_irem hx hb dX8_looks_150 (by decide) ?_
          refine W.eq (g2 := F0 m 151 ls [.int (mRem ((Model_s wy_119) (y6_119).toNatClampNeg) 8), .ref (Modela_by a)]) rfl ?_
          obtain ⟨h37, hF⟩ := m_chk hF
          refine va_iald (f := (Model_by wy_119)) hx hb hK hP 4 1 rfl rfl (mIn_ok h37) dX8_looks_151 ?_
          refine W.eq (g2 := F0 m 152 ls [.int ((Model_by wy_119) ((mRem ((Model_s wy_119) (y6_119).toNatClampNeg) 8)).toNatClampNeg)]) rfl ?_
          refine lv_istore (lv' := [(8, .int ((Model_by wy_119) ((mRem ((Model_s wy_119) (y6_119).toNatClampNeg) 8)).toNatClampNeg)), (7, .int ((Model_s wy_119) (y6_119).toNatClampNeg)), (0, .ref (Modela_self a)), (2, .int y2_119), (3, .int t12), (4, .int (226 + (140 * ((Model_s v) (26 : Int32).toNatClampNeg)))), (5, .int y5_119), (6, .int y6_119)]) hx hb dX8_looks_152 hl (by decide) rfl (fun ls hl => ?_)
          refine lv_iload hx hb dX8_looks_154 (lv_at hl 1 rfl) ?_
          refine lv_bipush (v := 8) hx hb dX8_looks_156 (by decide) ?_
          refine lv_idiv hx hb dX8_looks_158 (by decide) ?_
          refine lv_iconst (v := 4) hx hb dX8_looks_159 (by decide) ?_
          refine lv_irem hx hb dX8_looks_160 (by decide) ?_
          refine W.eq (g2 := F0 m 161 ls [.int (mRem (((Model_s wy_119) (y6_119).toNatClampNeg) / 8) 4)]) rfl ?_
          refine lv_istore (lv' := [(9, .int (mRem (((Model_s wy_119) (y6_119).toNatClampNeg) / 8) 4)), (8, .int ((Model_by wy_119) ((mRem ((Model_s wy_119) (y6_119).toNatClampNeg) 8)).toNatClampNeg)), (7, .int ((Model_s wy_119) (y6_119).toNatClampNeg)), (0, .ref (Modela_self a)), (2, .int y2_119), (3, .int t12), (4, .int (226 + (140 * ((Model_s v) (26 : Int32).toNatClampNeg)))), (5, .int y5_119), (6, .int y6_119)]) hx hb dX8_looks_161 hl (by decide) rfl (fun ls hl => ?_)
          refine lv_iload hx hb dX8_looks_163 (lv_at hl 2 rfl) ?_
          refine lv_bipush (v := 32) hx hb dX8_looks_165 (by decide) ?_
          refine lv_idiv hx hb dX8_looks_167 (by decide) ?_
          refine lv_istore (lv' := [(10, .int (((Model_s wy_119) (y6_119).toNatClampNeg) / 32)), (9, .int (mRem (((Model_s wy_119) (y6_119).toNatClampNeg) / 8) 4)), (8, .int ((Model_by wy_119) ((mRem ((Model_s wy_119) (y6_119).toNatClampNeg) 8)).toNatClampNeg)), (7, .int ((Model_s wy_119) (y6_119).toNatClampNeg)), (0, .ref (Modela_self a)), (2, .int y2_119), (3, .int t12), (4, .int (226 + (140 * ((Model_s v) (26 : Int32).toNatClampNeg)))), (5, .int y5_119), (6, .int y6_119)]) hx hb dX8_looks_168 hl (by decide) rfl (fun ls hl => ?_)
          refine lv_aload_n hx hb dX8_looks_170 rfl (lv_at hl 4 rfl) ?_
          refine va_get (D := E.1) (ci := 8) (v := .ref (Modela_truths a)) (C := RX8) (T := TX8) (N := 20) hx hb hts k1 hown hK hP 0 rfl rfl 11 (by decide) k3 (fun _ h9 => h9) rfl dX8_looks_171 ?_
          refine lv_iload hx hb dX8_looks_174 (lv_at hl 8 rfl) ?_
          refine lv_iload hx hb dX8_looks_176 (lv_at hl 1 rfl) ?_
          obtain ⟨j229, hjd229, hF⟩ := m_jp hF
          have hj229 : ∀ (z0_229 : Int32) (H : Heap) (locs : List Loc) (ls : Array Slot), j229 z0_229 = some t → va_P E.1 vwCl (Model_c E a wy_119) H → va_D A (Model_c E a wy_119) → va_S A s.heap H locs → lv_has ls 11 [(0, .ref (Modela_self a)), (2, .int y2_119), (3, .int t12), (4, .int (226 + (140 * ((Model_s v) (26 : Int32).toNatClampNeg)))), (5, .int y5_119), (6, .int y6_119)] → W p l e_ rmX8_looks s m args below meth c H locs 0 0 Q (F0 m 229 ls [.int z0_229, .int y5_119, .ref (Modela_truths a)]) := by
            intro z0_229 H locs ls hF hP hD hS hl
            rw [hjd229] at hF
            obtain ⟨h38, hF⟩ := m_chk hF
            refine va_zast (f := (Model_truths wy_119)) hx hb hK hP hD hS 5 2 rfl rfl (mIn_ok h38) dX8_looks_229 (fun H locs hP hD hS => ?_)
            have hP : va_P E.1 vwCl (Model_c E a (Model_truths_s wy_119 (upd (Model_truths wy_119) (y5_119).toNatClampNeg (vp_nar .boolean z0_229)))) H := hP
            have hD : va_D A (Model_c E a (Model_truths_s wy_119 (upd (Model_truths wy_119) (y5_119).toNatClampNeg (vp_nar .boolean z0_229)))) := hD
            refine lv_iinc (v := (y5_119 + 1)) (lv' := [(5, .int (y5_119 + 1)), (0, .ref (Modela_self a)), (2, .int y2_119), (3, .int t12), (4, .int (226 + (140 * ((Model_s v) (26 : Int32).toNatClampNeg)))), (6, .int y6_119)]) hx hb dX8_looks_230 hl (k := 4) rfl rfl (by decide) rfl (fun ls hl => ?_)
            refine lv_goto (tgt := 419) hx hb dX8_looks_233 (by decide) ?_
            exact hj419 y2_119 (y5_119 + 1) (Model_truths_s wy_119 (upd (Model_truths wy_119) (y5_119).toNatClampNeg (vp_nar .boolean z0_229))) H locs ls hF hP hD hS (lv_sub hl [1, 2, 3, 4, 0, 5] rfl)
          clear hjd229
          refine lv_if_ne (tgt := 196) hx hb dX8_looks_178 (by decide) (fun c39 => ?_) (fun c39 => ?_)
          · have hF := m_pos c39 hF
            refine lv_iload hx hb dX8_looks_196 (lv_at hl 1 rfl) ?_
            refine lv_iconst (v := 1) hx hb dX8_looks_198 (by decide) ?_
            refine lv_icmp_ne (tgt := 217) hx hb dX8_looks_199 (by decide) (fun c40 => ?_) (fun c40 => ?_)
            · have hF := m_pos c40 hF
              refine lv_iload hx hb dX8_looks_217 (lv_at hl 2 rfl) ?_
              refine lv_iload hx hb dX8_looks_219 (lv_at hl 0 rfl) ?_
              refine lv_icmp_le (tgt := 228) hx hb dX8_looks_221 (by decide) (fun c41 => ?_) (fun c41 => ?_)
              · have hF := m_pos c41 hF
                refine lv_iconst (v := 0) hx hb dX8_looks_228 (by decide) ?_
                exact hj229 0 H locs ls hF hP hD hS (lv_sub hl [4, 5, 6, 7, 8, 9] rfl)
              · have hF := m_neg c41 hF
                refine lv_iconst (v := 1) hx hb dX8_looks_224 (by decide) ?_
                refine lv_goto (tgt := 229) hx hb dX8_looks_225 (by decide) ?_
                exact hj229 1 H locs ls hF hP hD hS (lv_sub hl [4, 5, 6, 7, 8, 9] rfl)
            · have hF := m_neg (fun n9 => n9 c40) hF
              refine lv_iload hx hb dX8_looks_202 (lv_at hl 2 rfl) ?_
              refine lv_iload hx hb dX8_looks_204 (lv_at hl 0 rfl) ?_
              refine lv_icmp_ne (tgt := 213) hx hb dX8_looks_206 (by decide) (fun c42 => ?_) (fun c42 => ?_)
              · have hF := m_pos c42 hF
                refine lv_iconst (v := 0) hx hb dX8_looks_213 (by decide) ?_
                refine lv_goto (tgt := 229) hx hb dX8_looks_214 (by decide) ?_
                exact hj229 0 H locs ls hF hP hD hS (lv_sub hl [4, 5, 6, 7, 8, 9] rfl)
              · have hF := m_neg (fun n9 => n9 c42) hF
                refine lv_iconst (v := 1) hx hb dX8_looks_209 (by decide) ?_
                refine lv_goto (tgt := 229) hx hb dX8_looks_210 (by decide) ?_
                exact hj229 1 H locs ls hF hP hD hS (lv_sub hl [4, 5, 6, 7, 8, 9] rfl)
          · have hF := m_neg (fun n9 => n9 c39) hF
            refine lv_iload hx hb dX8_looks_181 (lv_at hl 2 rfl) ?_
            refine lv_iload hx hb dX8_looks_183 (lv_at hl 0 rfl) ?_
            refine lv_icmp_ge (tgt := 192) hx hb dX8_looks_185 (by decide) (fun c43 => ?_) (fun c43 => ?_)
            · have hF := m_pos c43 hF
              refine lv_iconst (v := 0) hx hb dX8_looks_192 (by decide) ?_
              refine lv_goto (tgt := 229) hx hb dX8_looks_193 (by decide) ?_
              exact hj229 0 H locs ls hF hP hD hS (lv_sub hl [4, 5, 6, 7, 8, 9] rfl)
            · have hF := m_neg c43 hF
              refine lv_iconst (v := 1) hx hb dX8_looks_188 (by decide) ?_
              refine lv_goto (tgt := 229) hx hb dX8_looks_189 (by decide) ?_
              exact hj229 1 H locs ls hF hP hD hS (lv_sub hl [4, 5, 6, 7, 8, 9] rfl)
  exact hL119 m_N 0 0 (226 + (140 * ((Model_s v) (26 : Int32).toNatClampNeg))) (Model_by_s v (upd (upd (upd (upd (upd (upd (Model_by v) (0 : Int32).toNatClampNeg x0) (1 : Int32).toNatClampNeg ((Model_s v) ((27 + x0)).toNatClampNeg)) (2 : Int32).toNatClampNeg ((Model_s v) ((33 + x0)).toNatClampNeg)) (3 : Int32).toNatClampNeg ((Model_s v) ((39 + x0)).toNatClampNeg)) (4 : Int32).toNatClampNeg (((Model_s v) ((2 + x0)).toNatClampNeg) / 10)) (5 : Int32).toNatClampNeg (mRem ((Model_s v) (0 : Int32).toNatClampNeg) 10))) H locs ls hF hP hD hS (lv_sub hl [5, 4, 3, 2, 1, 0] rfl)

