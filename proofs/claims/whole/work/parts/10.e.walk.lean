abbrev rmX8_skilled : Room := { frames := 7, cells := 0, slots := 0, locals := 168 }
set_option maxRecDepth 100000 in
set_option maxHeartbeats 400000 in
theorem c_X8_skilled (l : Launch) (E : mE) (a : ModelA) (v : ModelV) (x0 : Int32) (x1 : Int32) (t : (Int32 × ModelV)) (hF : fn_X8_skilled v x0 x1 = some t) (sz : Nat) : Met l yX8_skilled wsX8_skilled rmX8_skilled (mPm E [.ref (Modela_self a), .int x0, .int x1] sz ((Model_c E a v)) (([] : va_W))) (mSm E (some (.int t.1)) ((Model_c E a t.2)) (va_A ((Model_c E a v)) sz)) 0 0 (va_A ((Model_c E a v)) sz) := by
  refine mOfM (cc := cX8_skilled) (maxL := 3) (ret := (some .int)) (by decide) rfl (Nat.le_of_ble_eq_true rfl) ?_
  intro p e_ s m args below meth c Q A hQ CC hr hlocks hin hA hP hD hKN hGl hR0 hRA ls hl
  have hS : va_S A s.heap s.heap [] := va_S.rf
  have hK := hKN.1
  have hx := CC.1
  have hb := CC.2.1
  have hml := CC.2.2.1
  have hown : s.vm.findClass RX8 = some m.cls := CC.2.2.2.1
  have hts := CC.2.2.2.2
  have hl : lv_has ls 3 [(0, .ref (Modela_self a)), (1, .int x0), (2, .int x1)] := hl
  have k0 := hts (.fieldLink RX8 238 "OneDidAllModel" "firstFitting" "I") (by decide +kernel)
  have k1 := (show ∀ w ∈ u_ws RX8 TX8 20, w ∈ wsX8_skilled by decide +kernel)
  have k2 := hts (.fieldLink RX8 235 "OneDidAllModel" "fitting" "I") (by decide +kernel)
  have hP : va_P E.1 vwCl (Model_c E a v) s.heap := hP
  obtain ⟨H, hH⟩ : ∃ H, H = s.heap := ⟨_, rfl⟩
  obtain ⟨locs, hlc⟩ : ∃ z : List Loc, z = [] := ⟨_, rfl⟩
  rw [← hH] at hP
  rw [← hlc] at hS
  have hS : va_S A s.heap H locs := by rw [hH]; exact hS
  rw [← hH, ← hlc]
  unfold fn_X8_skilled at hF
  refine lv_aload_n hx hb dX8_skilled_0 rfl (lv_at hl 0 rfl) ?_
  refine lv_iload_n hx hb dX8_skilled_1 rfl (lv_at hl 1 rfl) ?_
  obtain ⟨t1, ht1, hF⟩ := m_bnd hF
  refine mVP (ci := 8) (n := 1) (rest := []) (As := [.int x0]) CC hKN hGl hS (c_X8_isPupil l E a v x0 t1 ht1) gX8_skilled_X8_isPupil rfl ⟨rfl, rfl⟩ (by decide +kernel) ⟨Nat.le_of_ble_eq_true rfl, Nat.le_of_ble_eq_true rfl⟩ hP rfl rfl rfl rfl hl.1 rfl (Nat.le_of_ble_eq_true rfl) ⟨Nat.zero_le _, Nat.zero_le _⟩ dX8_skilled_2 ?_
  refine W.eq (g2 := F0 m 5 ls [.int t1]) rfl ?_
  refine lv_if_eq (tgt := 17) hx hb dX8_skilled_5 (by decide) (fun c2 => ?_) (fun c2 => ?_)
  · have hF := m_pos c2 hF
    refine lv_iconst (v := (-1)) hx hb dX8_skilled_17 (by decide) ?_
    have hF := Option.some.inj hF
    subst hF
    rw [hQ]
    exact W.iret hx hb hr (fun t ht _ => ⟨⟨rfl, by rw [ht]; exact hP, hD⟩, hS.F ht⟩) hS.2.2 dX8_skilled_18
  · have hF := m_neg c2 hF
    refine lv_iload_n hx hb dX8_skilled_8 rfl (lv_at hl 2 rfl) ?_
    refine lv_iconst (v := 0) hx hb dX8_skilled_9 (by decide) ?_
    refine lv_iconst (v := 1) hx hb dX8_skilled_10 (by decide) ?_
    obtain ⟨t3, ht3, hF⟩ := m_bnd hF
    refine mSP (n := 3) (rest := []) (As := [.int x1, .int 0, .int 1]) CC hKN hGl hS (c_X8_in l E x1 0 1 t3 ht3) gX8_skilled_X8_in rfl ⟨rfl, rfl⟩ (by decide +kernel) ⟨Nat.le_of_ble_eq_true rfl, Nat.le_of_ble_eq_true rfl⟩ m_nil rfl hl.1 rfl (Nat.le_of_ble_eq_true rfl) ⟨Nat.zero_le _, Nat.zero_le _⟩ dX8_skilled_11 ?_
    refine W.eq (g2 := F0 m 14 ls [.int t3]) rfl ?_
    refine lv_if_ne (tgt := 19) hx hb dX8_skilled_14 (by decide) (fun c4 => ?_) (fun c4 => ?_)
    · have hF := m_pos c4 hF
      refine lv_aload_n hx hb dX8_skilled_19 rfl (lv_at hl 0 rfl) ?_
      refine lv_bipush (v := 39) hx hb dX8_skilled_20 (by decide) ?_
      refine lv_iload_n hx hb dX8_skilled_22 rfl (lv_at hl 1 rfl) ?_
      refine lv_iadd hx hb dX8_skilled_23 ?_
      refine lv_iconst (v := 1) hx hb dX8_skilled_24 (by decide) ?_
      refine lv_bipush (v := 9) hx hb dX8_skilled_25 (by decide) ?_
      obtain ⟨t5, ht5, hF⟩ := m_bnd hF
      have hPc := hP
      have hDc := hD
      have hFc := va_free (wc := (Model_c E a v)) hD hS hA [0, 1, 2, 3, 4, 5, 6, 7] rfl
      refine mVM (ci := 8) (n := 3) (rest := []) (As := [.int (39 + x0), .int 1, .int 9]) CC hKN hGl (c_X8_looksForFitting l E a v (39 + x0) 1 9 t5 ht5 _) gX8_skilled_X8_looksForFitting rfl ⟨rfl, rfl⟩ (by decide +kernel) ⟨Nat.le_of_ble_eq_true rfl, Nat.le_of_ble_eq_true rfl⟩ hPc hDc m_nil m_nilA hS hFc rfl rfl rfl rfl hl.1 rfl (Nat.le_of_ble_eq_true rfl) ⟨Nat.zero_le _, Nat.zero_le _⟩ dX8_skilled_27 (fun H1 locs hP1 hD1 hz1 hk1 hS => ?_)
      have hP : va_P E.1 vwCl (Model_c E a t5) H1 := hP1
      have hD : va_D A (Model_c E a t5) := m_back hD1 hFc
      generalize H1 = H at hP hS ⊢
      refine W.eq (g2 := F0 m 30 ls []) rfl ?_
      refine lv_iload_n hx hb dX8_skilled_30 rfl (lv_at hl 2 rfl) ?_
      refine lv_if_ne (tgt := 41) hx hb dX8_skilled_31 (by decide) (fun c6 => ?_) (fun c6 => ?_)
      · have hF := m_pos c6 hF
        refine lv_aload_n hx hb dX8_skilled_41 rfl (lv_at hl 0 rfl) ?_
        refine va_get (D := E.1) (ci := 8) (v := .int (Model_firstFitting t5)) (C := RX8) (T := TX8) (N := 20) hx hb hts k1 hown hK hP 0 rfl rfl 14 (by decide) k0 (fun _ h9 => h9) rfl dX8_skilled_42 ?_
        have hF := Option.some.inj hF
        subst hF
        rw [hQ]
        exact W.iret hx hb hr (fun t ht _ => ⟨⟨rfl, by rw [ht]; exact hP, hD⟩, hS.F ht⟩) hS.2.2 dX8_skilled_45
      · have hF := m_neg (fun n9 => n9 c6) hF
        refine lv_aload_n hx hb dX8_skilled_34 rfl (lv_at hl 0 rfl) ?_
        refine va_get (D := E.1) (ci := 8) (v := .int (Model_fitting t5)) (C := RX8) (T := TX8) (N := 20) hx hb hts k1 hown hK hP 0 rfl rfl 13 (by decide) k2 (fun _ h9 => h9) rfl dX8_skilled_35 ?_
        refine lv_goto (tgt := 45) hx hb dX8_skilled_38 (by decide) ?_
        have hF := Option.some.inj hF
        subst hF
        rw [hQ]
        exact W.iret hx hb hr (fun t ht _ => ⟨⟨rfl, by rw [ht]; exact hP, hD⟩, hS.F ht⟩) hS.2.2 dX8_skilled_45
    · have hF := m_neg (fun n9 => n9 c4) hF
      refine lv_iconst (v := (-1)) hx hb dX8_skilled_17 (by decide) ?_
      have hF := Option.some.inj hF
      subst hF
      rw [hQ]
      exact W.iret hx hb hr (fun t ht _ => ⟨⟨rfl, by rw [ht]; exact hP, hD⟩, hS.F ht⟩) hS.2.2 dX8_skilled_18

abbrev rmX8_firm : Room := { frames := 7, cells := 0, slots := 0, locals := 168 }
set_option maxRecDepth 100000 in
set_option maxHeartbeats 400000 in
theorem c_X8_firm (l : Launch) (E : mE) (a : ModelA) (v : ModelV) (x0 : Int32) (x1 : Int32) (t : (Int32 × ModelV)) (hF : fn_X8_firm v x0 x1 = some t) (sz : Nat) : Met l yX8_firm wsX8_firm rmX8_firm (mPm E [.ref (Modela_self a), .int x0, .int x1] sz ((Model_c E a v)) (([] : va_W))) (mSm E (some (.int t.1)) ((Model_c E a t.2)) (va_A ((Model_c E a v)) sz)) 0 0 (va_A ((Model_c E a v)) sz) := by
  refine mOfM (cc := cX8_firm) (maxL := 3) (ret := (some .int)) (by decide) rfl (Nat.le_of_ble_eq_true rfl) ?_
  intro p e_ s m args below meth c Q A hQ CC hr hlocks hin hA hP hD hKN hGl hR0 hRA ls hl
  have hS : va_S A s.heap s.heap [] := va_S.rf
  have hK := hKN.1
  have hx := CC.1
  have hb := CC.2.1
  have hml := CC.2.2.1
  have hown : s.vm.findClass RX8 = some m.cls := CC.2.2.2.1
  have hts := CC.2.2.2.2
  have hl : lv_has ls 3 [(0, .ref (Modela_self a)), (1, .int x0), (2, .int x1)] := hl
  have k0 := hts (.fieldLink RX8 238 "OneDidAllModel" "firstFitting" "I") (by decide +kernel)
  have k1 := (show ∀ w ∈ u_ws RX8 TX8 20, w ∈ wsX8_firm by decide +kernel)
  have k2 := hts (.fieldLink RX8 235 "OneDidAllModel" "fitting" "I") (by decide +kernel)
  have hP : va_P E.1 vwCl (Model_c E a v) s.heap := hP
  obtain ⟨H, hH⟩ : ∃ H, H = s.heap := ⟨_, rfl⟩
  obtain ⟨locs, hlc⟩ : ∃ z : List Loc, z = [] := ⟨_, rfl⟩
  rw [← hH] at hP
  rw [← hlc] at hS
  have hS : va_S A s.heap H locs := by rw [hH]; exact hS
  rw [← hH, ← hlc]
  unfold fn_X8_firm at hF
  refine lv_aload_n hx hb dX8_firm_0 rfl (lv_at hl 0 rfl) ?_
  refine lv_iload_n hx hb dX8_firm_1 rfl (lv_at hl 1 rfl) ?_
  obtain ⟨t1, ht1, hF⟩ := m_bnd hF
  refine mVP (ci := 8) (n := 1) (rest := []) (As := [.int x0]) CC hKN hGl hS (c_X8_isPupil l E a v x0 t1 ht1) gX8_firm_X8_isPupil rfl ⟨rfl, rfl⟩ (by decide +kernel) ⟨Nat.le_of_ble_eq_true rfl, Nat.le_of_ble_eq_true rfl⟩ hP rfl rfl rfl rfl hl.1 rfl (Nat.le_of_ble_eq_true rfl) ⟨Nat.zero_le _, Nat.zero_le _⟩ dX8_firm_2 ?_
  refine W.eq (g2 := F0 m 5 ls [.int t1]) rfl ?_
  refine lv_if_eq (tgt := 17) hx hb dX8_firm_5 (by decide) (fun c2 => ?_) (fun c2 => ?_)
  · have hF := m_pos c2 hF
    refine lv_iconst (v := (-1)) hx hb dX8_firm_17 (by decide) ?_
    have hF := Option.some.inj hF
    subst hF
    rw [hQ]
    exact W.iret hx hb hr (fun t ht _ => ⟨⟨rfl, by rw [ht]; exact hP, hD⟩, hS.F ht⟩) hS.2.2 dX8_firm_18
  · have hF := m_neg c2 hF
    refine lv_iload_n hx hb dX8_firm_8 rfl (lv_at hl 2 rfl) ?_
    refine lv_iconst (v := 0) hx hb dX8_firm_9 (by decide) ?_
    refine lv_iconst (v := 1) hx hb dX8_firm_10 (by decide) ?_
    obtain ⟨t3, ht3, hF⟩ := m_bnd hF
    refine mSP (n := 3) (rest := []) (As := [.int x1, .int 0, .int 1]) CC hKN hGl hS (c_X8_in l E x1 0 1 t3 ht3) gX8_firm_X8_in rfl ⟨rfl, rfl⟩ (by decide +kernel) ⟨Nat.le_of_ble_eq_true rfl, Nat.le_of_ble_eq_true rfl⟩ m_nil rfl hl.1 rfl (Nat.le_of_ble_eq_true rfl) ⟨Nat.zero_le _, Nat.zero_le _⟩ dX8_firm_11 ?_
    refine W.eq (g2 := F0 m 14 ls [.int t3]) rfl ?_
    refine lv_if_ne (tgt := 19) hx hb dX8_firm_14 (by decide) (fun c4 => ?_) (fun c4 => ?_)
    · have hF := m_pos c4 hF
      refine lv_aload_n hx hb dX8_firm_19 rfl (lv_at hl 0 rfl) ?_
      refine lv_bipush (v := 33) hx hb dX8_firm_20 (by decide) ?_
      refine lv_iload_n hx hb dX8_firm_22 rfl (lv_at hl 1 rfl) ?_
      refine lv_iadd hx hb dX8_firm_23 ?_
      refine lv_iconst (v := 0) hx hb dX8_firm_24 (by decide) ?_
      refine lv_bipush (v := 9) hx hb dX8_firm_25 (by decide) ?_
      obtain ⟨t5, ht5, hF⟩ := m_bnd hF
      have hPc := hP
      have hDc := hD
      have hFc := va_free (wc := (Model_c E a v)) hD hS hA [0, 1, 2, 3, 4, 5, 6, 7] rfl
      refine mVM (ci := 8) (n := 3) (rest := []) (As := [.int (33 + x0), .int 0, .int 9]) CC hKN hGl (c_X8_looksForFitting l E a v (33 + x0) 0 9 t5 ht5 _) gX8_firm_X8_looksForFitting rfl ⟨rfl, rfl⟩ (by decide +kernel) ⟨Nat.le_of_ble_eq_true rfl, Nat.le_of_ble_eq_true rfl⟩ hPc hDc m_nil m_nilA hS hFc rfl rfl rfl rfl hl.1 rfl (Nat.le_of_ble_eq_true rfl) ⟨Nat.zero_le _, Nat.zero_le _⟩ dX8_firm_27 (fun H1 locs hP1 hD1 hz1 hk1 hS => ?_)
      have hP : va_P E.1 vwCl (Model_c E a t5) H1 := hP1
      have hD : va_D A (Model_c E a t5) := m_back hD1 hFc
      generalize H1 = H at hP hS ⊢
      refine W.eq (g2 := F0 m 30 ls []) rfl ?_
      refine lv_iload_n hx hb dX8_firm_30 rfl (lv_at hl 2 rfl) ?_
      refine lv_if_ne (tgt := 41) hx hb dX8_firm_31 (by decide) (fun c6 => ?_) (fun c6 => ?_)
      · have hF := m_pos c6 hF
        refine lv_aload_n hx hb dX8_firm_41 rfl (lv_at hl 0 rfl) ?_
        refine va_get (D := E.1) (ci := 8) (v := .int (Model_firstFitting t5)) (C := RX8) (T := TX8) (N := 20) hx hb hts k1 hown hK hP 0 rfl rfl 14 (by decide) k0 (fun _ h9 => h9) rfl dX8_firm_42 ?_
        have hF := Option.some.inj hF
        subst hF
        rw [hQ]
        exact W.iret hx hb hr (fun t ht _ => ⟨⟨rfl, by rw [ht]; exact hP, hD⟩, hS.F ht⟩) hS.2.2 dX8_firm_45
      · have hF := m_neg (fun n9 => n9 c6) hF
        refine lv_aload_n hx hb dX8_firm_34 rfl (lv_at hl 0 rfl) ?_
        refine va_get (D := E.1) (ci := 8) (v := .int (Model_fitting t5)) (C := RX8) (T := TX8) (N := 20) hx hb hts k1 hown hK hP 0 rfl rfl 13 (by decide) k2 (fun _ h9 => h9) rfl dX8_firm_35 ?_
        refine lv_goto (tgt := 45) hx hb dX8_firm_38 (by decide) ?_
        have hF := Option.some.inj hF
        subst hF
        rw [hQ]
        exact W.iret hx hb hr (fun t ht _ => ⟨⟨rfl, by rw [ht]; exact hP, hD⟩, hS.F ht⟩) hS.2.2 dX8_firm_45
    · have hF := m_neg (fun n9 => n9 c4) hF
      refine lv_iconst (v := (-1)) hx hb dX8_firm_17 (by decide) ?_
      have hF := Option.some.inj hF
      subst hF
      rw [hQ]
      exact W.iret hx hb hr (fun t ht _ => ⟨⟨rfl, by rw [ht]; exact hP, hD⟩, hS.F ht⟩) hS.2.2 dX8_firm_18

abbrev rmX8_odds : Room := { frames := 7, cells := 0, slots := 0, locals := 165 }
set_option maxRecDepth 100000 in
set_option maxHeartbeats 400000 in
theorem c_X8_odds (l : Launch) (E : mE) (a : ModelA) (v : ModelV) (x0 : Int32) (x1 : Int32) (x2 : Int32) (t : (Int64 × ModelV)) (hF : fn_X8_odds v x0 x1 x2 = some t) (sz : Nat) : Met l yX8_odds wsX8_odds rmX8_odds (mPm E [.ref (Modela_self a), .int x0, .int x1, .int x2] sz ((Model_c E a v)) (([] : va_W))) (mSm E (some (.long t.1)) ((Model_c E a t.2)) (va_A ((Model_c E a v)) sz)) 0 0 (va_A ((Model_c E a v)) sz) := by
  refine mOfM (cc := cX8_odds) (maxL := 7) (ret := (some .long)) (by decide) rfl (Nat.le_of_ble_eq_true rfl) ?_
  intro p e_ s m args below meth c Q A hQ CC hr hlocks hin hA hP hD hKN hGl hR0 hRA ls hl
  have hS : va_S A s.heap s.heap [] := va_S.rf
  have hK := hKN.1
  have hx := CC.1
  have hb := CC.2.1
  have hml := CC.2.2.1
  have hown : s.vm.findClass RX8 = some m.cls := CC.2.2.2.1
  have hts := CC.2.2.2.2
  have hl : lv_has ls 7 [(0, .ref (Modela_self a)), (1, .int x0), (2, .int x1), (3, .int x2)] := hl
  have k0 := hts (.constantLong RX8 222 (-9223372036854775808)) (by decide +kernel)
  have k1 := hts (.constant RX8 184 (99999)) (by decide +kernel)
  have k2 := hts (.fieldLink RX8 9 "OneDidAllModel" "s" "[I") (by decide +kernel)
  have k3 := (show ∀ w ∈ u_ws RX8 TX8 20, w ∈ wsX8_odds by decide +kernel)
  have hP : va_P E.1 vwCl (Model_c E a v) s.heap := hP
  obtain ⟨H, hH⟩ : ∃ H, H = s.heap := ⟨_, rfl⟩
  obtain ⟨locs, hlc⟩ : ∃ z : List Loc, z = [] := ⟨_, rfl⟩
  rw [← hH] at hP
  rw [← hlc] at hS
  have hS : va_S A s.heap H locs := by rw [hH]; exact hS
  rw [← hH, ← hlc]
  unfold fn_X8_odds at hF
  refine lv_iload_n hx hb dX8_odds_0 rfl (lv_at hl 1 rfl) ?_
  refine lv_iconst (v := 0) hx hb dX8_odds_1 (by decide) ?_
  refine lv_bipush (v := 60) hx hb dX8_odds_2 (by decide) ?_
  obtain ⟨t1, ht1, hF⟩ := m_bnd hF
  refine mSP (n := 3) (rest := []) (As := [.int x0, .int 0, .int 60]) CC hKN hGl hS (c_X8_in l E x0 0 60 t1 ht1) gX8_odds_X8_in rfl ⟨rfl, rfl⟩ (by decide +kernel) ⟨Nat.le_of_ble_eq_true rfl, Nat.le_of_ble_eq_true rfl⟩ m_nil rfl hl.1 rfl (Nat.le_of_ble_eq_true rfl) ⟨Nat.zero_le _, Nat.zero_le _⟩ dX8_odds_4 ?_
  refine W.eq (g2 := F0 m 7 ls [.int t1]) rfl ?_
  obtain ⟨j39, hjd39, hF⟩ := m_jp hF
  have hj39 : ∀ (H : Heap) (locs : List Loc) (ls : Array Slot), j39 () = some t → va_P E.1 vwCl (Model_c E a v) H → va_D A (Model_c E a v) → va_S A s.heap H locs → lv_has ls 7 [] → W p l e_ rmX8_odds s m args below meth c H locs 0 0 Q (F0 m 39 ls []) := by
    intro H locs ls hF hP hD hS hl
    rw [hjd39] at hF
    refine lv_ldc2 (v := (-9223372036854775808 : Int64)) hx hb hown k0 dX8_odds_39 ?_
    have hF := Option.some.inj hF
    subst hF
    rw [hQ]
    exact W.lret hx hb hr (fun t ht _ => ⟨⟨rfl, by rw [ht]; exact hP, hD⟩, hS.F ht⟩) hS.2.2 dX8_odds_42
  clear hjd39
  refine lv_if_eq (tgt := 39) hx hb dX8_odds_7 (by decide) (fun c2 => ?_) (fun c2 => ?_)
  · have hF := m_pos c2 hF
    exact hj39 H locs ls hF hP hD hS (lv_sub hl [] rfl)
  · have hF := m_neg c2 hF
    refine lv_iload_n hx hb dX8_odds_10 rfl (lv_at hl 2 rfl) ?_
    refine lv_iconst (v := 0) hx hb dX8_odds_11 (by decide) ?_
    refine lv_ldc (v := 99999) hx hb hown k1 dX8_odds_12 ?_
    obtain ⟨t3, ht3, hF⟩ := m_bnd hF
    refine mSP (n := 3) (rest := []) (As := [.int x1, .int 0, .int 99999]) CC hKN hGl hS (c_X8_in l E x1 0 99999 t3 ht3) gX8_odds_X8_in rfl ⟨rfl, rfl⟩ (by decide +kernel) ⟨Nat.le_of_ble_eq_true rfl, Nat.le_of_ble_eq_true rfl⟩ m_nil rfl hl.1 rfl (Nat.le_of_ble_eq_true rfl) ⟨Nat.zero_le _, Nat.zero_le _⟩ dX8_odds_14 ?_
    refine W.eq (g2 := F0 m 17 ls [.int t3]) rfl ?_
    refine lv_if_eq (tgt := 39) hx hb dX8_odds_17 (by decide) (fun c4 => ?_) (fun c4 => ?_)
    · have hF := m_pos c4 hF
      exact hj39 H locs ls hF hP hD hS (lv_sub hl [] rfl)
    · have hF := m_neg c4 hF
      refine lv_iload_n hx hb dX8_odds_20 rfl (lv_at hl 3 rfl) ?_
      refine lv_iconst (v := 0) hx hb dX8_odds_21 (by decide) ?_
      refine lv_iconst (v := 1) hx hb dX8_odds_22 (by decide) ?_
      obtain ⟨t5, ht5, hF⟩ := m_bnd hF
      refine mSP (n := 3) (rest := []) (As := [.int x2, .int 0, .int 1]) CC hKN hGl hS (c_X8_in l E x2 0 1 t5 ht5) gX8_odds_X8_in rfl ⟨rfl, rfl⟩ (by decide +kernel) ⟨Nat.le_of_ble_eq_true rfl, Nat.le_of_ble_eq_true rfl⟩ m_nil rfl hl.1 rfl (Nat.le_of_ble_eq_true rfl) ⟨Nat.zero_le _, Nat.zero_le _⟩ dX8_odds_23 ?_
      refine W.eq (g2 := F0 m 26 ls [.int t5]) rfl ?_
      refine lv_if_eq (tgt := 39) hx hb dX8_odds_26 (by decide) (fun c6 => ?_) (fun c6 => ?_)
      · have hF := m_pos c6 hF
        exact hj39 H locs ls hF hP hD hS (lv_sub hl [] rfl)
      · have hF := m_neg c6 hF
        refine lv_aload_n hx hb dX8_odds_29 rfl (lv_at hl 0 rfl) ?_
        refine va_get (D := E.1) (ci := 8) (v := .ref (Modela_s a)) (C := RX8) (T := TX8) (N := 20) hx hb hts k3 hown hK hP 0 rfl rfl 1 (by decide) k2 (fun _ h9 => h9) rfl dX8_odds_30 ?_
        refine lv_bipush (v := 20) hx hb dX8_odds_33 (by decide) ?_
        obtain ⟨h7, hF⟩ := m_chk hF
        refine va_iald (f := (Model_s v)) hx hb hK hP 1 1 rfl rfl (mIn_ok h7) dX8_odds_35 ?_
        refine W.eq (g2 := F0 m 36 ls [.int ((Model_s v) (20 : Int32).toNatClampNeg)]) rfl ?_
        refine lv_if_ne (tgt := 43) hx hb dX8_odds_36 (by decide) (fun c8 => ?_) (fun c8 => ?_)
        · have hF := m_pos c8 hF
          refine lv_lconst (v := 0) hx hb dX8_odds_43 (by decide) ?_
          refine lv_lstore (lv' := [(4, .long (0 : Int64)), (0, .ref (Modela_self a)), (1, .int x0), (2, .int x1), (3, .int x2)]) hx hb dX8_odds_44 hl (by decide) rfl (fun ls hl => ?_)
          refine lv_iconst (v := 0) hx hb dX8_odds_46 (by decide) ?_
          refine lv_istore (lv' := [(6, .int 0), (4, .long (0 : Int64)), (0, .ref (Modela_self a)), (1, .int x0), (2, .int x1), (3, .int x2)]) hx hb dX8_odds_47 hl (by decide) rfl (fun ls hl => ?_)
          obtain ⟨j97, hjd97, hF⟩ := m_jp hF
          have hj97 : ∀ (x4_97 : Int64) (wx_97 : ModelV) (H : Heap) (locs : List Loc) (ls : Array Slot), j97 x4_97 wx_97 = some t → va_P E.1 vwCl (Model_c E a wx_97) H → va_D A (Model_c E a wx_97) → va_S A s.heap H locs → lv_has ls 7 [(0, .ref (Modela_self a)), (3, .int x2), (4, .long x4_97)] → W p l e_ rmX8_odds s m args below meth c H locs 0 0 Q (F0 m 97 ls []) := by
            intro x4_97 wx_97 H locs ls hF hP hD hS hl
            rw [hjd97] at hF
            refine lv_lload hx hb dX8_odds_97 (lv_at hl 2 rfl) ?_
            refine lv_aload_n hx hb dX8_odds_99 rfl (lv_at hl 0 rfl) ?_
            refine va_get (D := E.1) (ci := 8) (v := .ref (Modela_s a)) (C := RX8) (T := TX8) (N := 20) hx hb hts k3 hown hK hP 0 rfl rfl 1 (by decide) k2 (fun _ h9 => h9) rfl dX8_odds_100 ?_
            refine lv_bipush (v := 20) hx hb dX8_odds_103 (by decide) ?_
            obtain ⟨h9, hF⟩ := m_chk hF
            refine va_iald (f := (Model_s wx_97)) hx hb hK hP 1 1 rfl rfl (mIn_ok h9) dX8_odds_105 ?_
            refine W.eq (g2 := F0 m 106 ls [.int ((Model_s wx_97) (20 : Int32).toNatClampNeg), .long x4_97]) rfl ?_
            refine lv_i2l (v := (((Model_s wx_97) (20 : Int32).toNatClampNeg)).toInt64) hx hb dX8_odds_106 rfl ?_
            refine lv_iload_n hx hb dX8_odds_107 rfl (lv_at hl 1 rfl) ?_
            obtain ⟨t10, ht10, hF⟩ := m_bnd hF
            refine mSP (n := 3) (rest := []) (As := [.long x4_97, .long (((Model_s wx_97) (20 : Int32).toNatClampNeg)).toInt64, .int x2]) CC hKN hGl hS (c_X8_lowest l E x4_97 (((Model_s wx_97) (20 : Int32).toNatClampNeg)).toInt64 x2 t10 ht10) gX8_odds_X8_lowest rfl ⟨rfl, rfl⟩ (by decide +kernel) ⟨Nat.le_of_ble_eq_true rfl, Nat.le_of_ble_eq_true rfl⟩ m_nil rfl hl.1 rfl (Nat.le_of_ble_eq_true rfl) ⟨Nat.zero_le _, Nat.zero_le _⟩ dX8_odds_108 ?_
            refine W.eq (g2 := F0 m 111 ls [.long t10]) rfl ?_
            have hF := Option.some.inj hF
            subst hF
            rw [hQ]
            exact W.lret hx hb hr (fun t ht _ => ⟨⟨rfl, by rw [ht]; exact hP, hD⟩, hS.F ht⟩) hS.2.2 dX8_odds_111
          clear hjd97
          have hL49 : ∀ (n : Nat) (y4_49 : Int64) (y6_49 : Int32) (wy_49 : ModelV) (H : Heap) (locs : List Loc) (ls : Array Slot), lp_X8_odds_49 x0 x1 j97 n y4_49 y6_49 wy_49 = some t → va_P E.1 vwCl (Model_c E a wy_49) H → va_D A (Model_c E a wy_49) → va_S A s.heap H locs → lv_has ls 7 [(0, .ref (Modela_self a)), (1, .int x0), (2, .int x1), (3, .int x2), (4, .long y4_49), (6, .int y6_49)] → W p l e_ rmX8_odds s m args below meth c H locs 0 0 Q (F0 m 49 ls []) := by
            intro n
            induction n with
            | zero =>
              intro y4_49 y6_49 wy_49 H locs ls hF
              exact nomatch (show (none : Option (Int64 × ModelV)) = some t from hF)
            | succ n ih49 =>
              intro y4_49 y6_49 wy_49 H locs ls hF hP hD hS hl
              have hF : st_X8_odds_49 x0 x1 j97 (lp_X8_odds_49 x0 x1 j97 n) y4_49 y6_49 wy_49 = some t := hF
              unfold st_X8_odds_49 at hF
              refine lv_iload hx hb dX8_odds_49 (lv_at hl 5 rfl) ?_
              refine lv_aload_n hx hb dX8_odds_51 rfl (lv_at hl 0 rfl) ?_
              refine va_get (D := E.1) (ci := 8) (v := .ref (Modela_s a)) (C := RX8) (T := TX8) (N := 20) hx hb hts k3 hown hK hP 0 rfl rfl 1 (by decide) k2 (fun _ h9 => h9) rfl dX8_odds_52 ?_
              refine lv_bipush (v := 20) hx hb dX8_odds_55 (by decide) ?_
              obtain ⟨h11, hF⟩ := m_chk hF
              refine va_iald (f := (Model_s wy_49)) hx hb hK hP 1 1 rfl rfl (mIn_ok h11) dX8_odds_57 ?_
              refine W.eq (g2 := F0 m 58 ls [.int ((Model_s wy_49) (20 : Int32).toNatClampNeg), .int y6_49]) rfl ?_
              refine lv_icmp_ge (tgt := 97) hx hb dX8_odds_58 (by decide) (fun c12 => ?_) (fun c12 => ?_)
              · have hF := m_pos c12 hF
                exact hj97 y4_49 wy_49 H locs ls hF hP hD hS (lv_sub hl [0, 3, 4] rfl)
              · have hF := m_neg c12 hF
                refine lv_lload hx hb dX8_odds_61 (lv_at hl 4 rfl) ?_
                refine lv_aload_n hx hb dX8_odds_63 rfl (lv_at hl 0 rfl) ?_
                refine lv_aload_n hx hb dX8_odds_64 rfl (lv_at hl 0 rfl) ?_
                obtain ⟨t13, ht13, hF⟩ := m_bnd hF
                refine mVP (ci := 8) (n := 0) (rest := [.ref (Modela_self a), .long y4_49]) (As := []) CC hKN hGl hS (c_X8_setIn l E a wy_49 t13 ht13) gX8_odds_X8_setIn rfl ⟨rfl, rfl⟩ (by decide +kernel) ⟨Nat.le_of_ble_eq_true rfl, Nat.le_of_ble_eq_true rfl⟩ hP rfl rfl rfl rfl hl.1 rfl (Nat.le_of_ble_eq_true rfl) ⟨Nat.zero_le _, Nat.zero_le _⟩ dX8_odds_65 ?_
                refine W.eq (g2 := F0 m 68 ls [.int t13, .ref (Modela_self a), .long y4_49]) rfl ?_
                refine lv_iconst (v := 1) hx hb dX8_odds_68 (by decide) ?_
                refine lv_iload hx hb dX8_odds_69 (lv_at hl 5 rfl) ?_
                refine lv_ishl hx hb dX8_odds_71 ?_
                refine lv_iconst (v := (-1)) hx hb dX8_odds_72 (by decide) ?_
                refine lv_ixor hx hb dX8_odds_73 ?_
                refine lv_iand hx hb dX8_odds_74 ?_
                refine lv_iload_n hx hb dX8_odds_75 rfl (lv_at hl 1 rfl) ?_
                obtain ⟨t14, ht14, hF⟩ := m_bnd hF
                have hPc := hP
                have hDc := hD
                have hFc := va_free (wc := (Model_c E a wy_49)) hD hS hA [0, 1, 2, 3, 4, 5, 6, 7] rfl
                refine mVM (ci := 8) (n := 2) (rest := [.long y4_49]) (As := [.int (t13 &&& (((1 : Int32) <<< (y6_49 &&& 31)) ^^^ (-1))), .int x0]) CC hKN hGl (c_X8_workBy l E a wy_49 (t13 &&& (((1 : Int32) <<< (y6_49 &&& 31)) ^^^ (-1))) x0 t14 ht14 _) gX8_odds_X8_workBy rfl ⟨rfl, rfl⟩ (by decide +kernel) ⟨Nat.le_of_ble_eq_true rfl, Nat.le_of_ble_eq_true rfl⟩ hPc hDc m_nil m_nilA hS hFc rfl rfl rfl rfl hl.1 rfl (Nat.le_of_ble_eq_true rfl) ⟨Nat.zero_le _, Nat.zero_le _⟩ dX8_odds_76 (fun H1 locs hP1 hD1 hz1 hk1 hS => ?_)
                have hP : va_P E.1 vwCl (Model_c E a t14.2) H1 := hP1
                have hD : va_D A (Model_c E a t14.2) := m_back hD1 hFc
                generalize H1 = H at hP hS ⊢
                refine W.eq (g2 := F0 m 79 ls [.int t14.1, .long y4_49]) rfl ?_
                refine lv_iload_n hx hb dX8_odds_79 rfl (lv_at hl 2 rfl) ?_
                obtain ⟨j88, hjd88, hF⟩ := m_jp hF
                have hj88 : ∀ (z0_88 : Int64) (H : Heap) (locs : List Loc) (ls : Array Slot), j88 z0_88 = some t → va_P E.1 vwCl (Model_c E a t14.2) H → va_D A (Model_c E a t14.2) → va_S A s.heap H locs → lv_has ls 7 [(0, .ref (Modela_self a)), (1, .int x0), (2, .int x1), (3, .int x2), (6, .int y6_49)] → W p l e_ rmX8_odds s m args below meth c H locs 0 0 Q (F0 m 88 ls [.long z0_88, .long y4_49]) := by
                  intro z0_88 H locs ls hF hP hD hS hl
                  rw [hjd88] at hF
                  refine lv_ladd hx hb dX8_odds_88 ?_
                  refine lv_lstore (lv' := [(4, .long (y4_49 + z0_88)), (0, .ref (Modela_self a)), (1, .int x0), (2, .int x1), (3, .int x2), (6, .int y6_49)]) hx hb dX8_odds_89 hl (by decide) rfl (fun ls hl => ?_)
                  refine lv_iinc (v := (y6_49 + 1)) (lv' := [(6, .int (y6_49 + 1)), (4, .long (y4_49 + z0_88)), (0, .ref (Modela_self a)), (1, .int x0), (2, .int x1), (3, .int x2)]) hx hb dX8_odds_91 hl (k := 5) rfl rfl (by decide) rfl (fun ls hl => ?_)
                  refine lv_goto (tgt := 49) hx hb dX8_odds_94 (by decide) ?_
                  exact ih49 (y4_49 + z0_88) (y6_49 + 1) t14.2 H locs ls hF hP hD hS (lv_sub hl [2, 3, 4, 5, 1, 0] rfl)
                clear hjd88
                refine lv_icmp_lt (tgt := 87) hx hb dX8_odds_80 (by decide) (fun c15 => ?_) (fun c15 => ?_)
                · have hF := m_pos c15 hF
                  refine lv_lconst (v := 0) hx hb dX8_odds_87 (by decide) ?_
                  exact hj88 (0 : Int64) H locs ls hF hP hD hS (lv_sub hl [0, 1, 2, 3, 5] rfl)
                · have hF := m_neg c15 hF
                  refine lv_lconst (v := 1) hx hb dX8_odds_83 (by decide) ?_
                  refine lv_goto (tgt := 88) hx hb dX8_odds_84 (by decide) ?_
                  exact hj88 (1 : Int64) H locs ls hF hP hD hS (lv_sub hl [0, 1, 2, 3, 5] rfl)
          exact hL49 m_N (0 : Int64) 0 v H locs ls hF hP hD hS (lv_sub hl [2, 3, 4, 5, 1, 0] rfl)
        · have hF := m_neg (fun n9 => n9 c8) hF
          exact hj39 H locs ls hF hP hD hS (lv_sub hl [] rfl)

abbrev rmX8_mean : Room := { frames := 6, cells := 0, slots := 0, locals := 142 }
set_option maxRecDepth 100000 in
set_option maxHeartbeats 400000 in
theorem c_X8_mean (l : Launch) (E : mE) (a : ModelA) (v : ModelV) (x0 : Int32) (x1 : Int32) (t : (Int64 × ModelV)) (hF : fn_X8_mean v x0 x1 = some t) (sz : Nat) : Met l yX8_mean wsX8_mean rmX8_mean (mPm E [.ref (Modela_self a), .int x0, .int x1] sz ((Model_c E a v)) (([] : va_W))) (mSm E (some (.long t.1)) ((Model_c E a t.2)) (va_A ((Model_c E a v)) sz)) 0 0 (va_A ((Model_c E a v)) sz) := by
  refine mOfM (cc := cX8_mean) (maxL := 5) (ret := (some .long)) (by decide) rfl (Nat.le_of_ble_eq_true rfl) ?_
  intro p e_ s m args below meth c Q A hQ CC hr hlocks hin hA hP hD hKN hGl hR0 hRA ls hl
  have hS : va_S A s.heap s.heap [] := va_S.rf
  have hK := hKN.1
  have hx := CC.1
  have hb := CC.2.1
  have hml := CC.2.2.1
  have hown : s.vm.findClass RX8 = some m.cls := CC.2.2.2.1
  have hts := CC.2.2.2.2
  have hl : lv_has ls 5 [(0, .ref (Modela_self a)), (1, .int x0), (2, .int x1)] := hl
  have k0 := hts (.constantLong RX8 222 (-9223372036854775808)) (by decide +kernel)
  have k1 := hts (.fieldLink RX8 9 "OneDidAllModel" "s" "[I") (by decide +kernel)
  have k2 := (show ∀ w ∈ u_ws RX8 TX8 20, w ∈ wsX8_mean by decide +kernel)
  have hP : va_P E.1 vwCl (Model_c E a v) s.heap := hP
  obtain ⟨H, hH⟩ : ∃ H, H = s.heap := ⟨_, rfl⟩
  obtain ⟨locs, hlc⟩ : ∃ z : List Loc, z = [] := ⟨_, rfl⟩
  rw [← hH] at hP
  rw [← hlc] at hS
  have hS : va_S A s.heap H locs := by rw [hH]; exact hS
  rw [← hH, ← hlc]
  unfold fn_X8_mean at hF
  refine lv_iload_n hx hb dX8_mean_0 rfl (lv_at hl 1 rfl) ?_
  refine lv_iconst (v := 0) hx hb dX8_mean_1 (by decide) ?_
  refine lv_bipush (v := 60) hx hb dX8_mean_2 (by decide) ?_
  obtain ⟨t1, ht1, hF⟩ := m_bnd hF
  refine mSP (n := 3) (rest := []) (As := [.int x0, .int 0, .int 60]) CC hKN hGl hS (c_X8_in l E x0 0 60 t1 ht1) gX8_mean_X8_in rfl ⟨rfl, rfl⟩ (by decide +kernel) ⟨Nat.le_of_ble_eq_true rfl, Nat.le_of_ble_eq_true rfl⟩ m_nil rfl hl.1 rfl (Nat.le_of_ble_eq_true rfl) ⟨Nat.zero_le _, Nat.zero_le _⟩ dX8_mean_4 ?_
  refine W.eq (g2 := F0 m 7 ls [.int t1]) rfl ?_
  obtain ⟨j29, hjd29, hF⟩ := m_jp hF
  have hj29 : ∀ (H : Heap) (locs : List Loc) (ls : Array Slot), j29 () = some t → va_P E.1 vwCl (Model_c E a v) H → va_D A (Model_c E a v) → va_S A s.heap H locs → lv_has ls 5 [] → W p l e_ rmX8_mean s m args below meth c H locs 0 0 Q (F0 m 29 ls []) := by
    intro H locs ls hF hP hD hS hl
    rw [hjd29] at hF
    refine lv_ldc2 (v := (-9223372036854775808 : Int64)) hx hb hown k0 dX8_mean_29 ?_
    have hF := Option.some.inj hF
    subst hF
    rw [hQ]
    exact W.lret hx hb hr (fun t ht _ => ⟨⟨rfl, by rw [ht]; exact hP, hD⟩, hS.F ht⟩) hS.2.2 dX8_mean_32
  clear hjd29
  refine lv_if_eq (tgt := 29) hx hb dX8_mean_7 (by decide) (fun c2 => ?_) (fun c2 => ?_)
  · have hF := m_pos c2 hF
    exact hj29 H locs ls hF hP hD hS (lv_sub hl [] rfl)
  · have hF := m_neg c2 hF
    refine lv_iload_n hx hb dX8_mean_10 rfl (lv_at hl 2 rfl) ?_
    refine lv_iconst (v := 0) hx hb dX8_mean_11 (by decide) ?_
    refine lv_iconst (v := 1) hx hb dX8_mean_12 (by decide) ?_
    obtain ⟨t3, ht3, hF⟩ := m_bnd hF
    refine mSP (n := 3) (rest := []) (As := [.int x1, .int 0, .int 1]) CC hKN hGl hS (c_X8_in l E x1 0 1 t3 ht3) gX8_mean_X8_in rfl ⟨rfl, rfl⟩ (by decide +kernel) ⟨Nat.le_of_ble_eq_true rfl, Nat.le_of_ble_eq_true rfl⟩ m_nil rfl hl.1 rfl (Nat.le_of_ble_eq_true rfl) ⟨Nat.zero_le _, Nat.zero_le _⟩ dX8_mean_13 ?_
    refine W.eq (g2 := F0 m 16 ls [.int t3]) rfl ?_
    refine lv_if_eq (tgt := 29) hx hb dX8_mean_16 (by decide) (fun c4 => ?_) (fun c4 => ?_)
    · have hF := m_pos c4 hF
      exact hj29 H locs ls hF hP hD hS (lv_sub hl [] rfl)
    · have hF := m_neg c4 hF
      refine lv_aload_n hx hb dX8_mean_19 rfl (lv_at hl 0 rfl) ?_
      refine va_get (D := E.1) (ci := 8) (v := .ref (Modela_s a)) (C := RX8) (T := TX8) (N := 20) hx hb hts k2 hown hK hP 0 rfl rfl 1 (by decide) k1 (fun _ h9 => h9) rfl dX8_mean_20 ?_
      refine lv_bipush (v := 20) hx hb dX8_mean_23 (by decide) ?_
      obtain ⟨h5, hF⟩ := m_chk hF
      refine va_iald (f := (Model_s v)) hx hb hK hP 1 1 rfl rfl (mIn_ok h5) dX8_mean_25 ?_
      refine W.eq (g2 := F0 m 26 ls [.int ((Model_s v) (20 : Int32).toNatClampNeg)]) rfl ?_
      refine lv_if_ne (tgt := 33) hx hb dX8_mean_26 (by decide) (fun c6 => ?_) (fun c6 => ?_)
      · have hF := m_pos c6 hF
        refine lv_aload_n hx hb dX8_mean_33 rfl (lv_at hl 0 rfl) ?_
        obtain ⟨t7, ht7, hF⟩ := m_bnd hF
        have hPc := hP
        have hDc := hD
        have hFc := va_free (wc := (Model_c E a v)) hD hS hA [0, 1, 2, 3, 4, 5, 6, 7] rfl
        refine mVM (ci := 8) (n := 0) (rest := []) (As := []) CC hKN hGl (c_X8_keeps l E a v t7 ht7 _) gX8_mean_X8_keeps rfl ⟨rfl, rfl⟩ (by decide +kernel) ⟨Nat.le_of_ble_eq_true rfl, Nat.le_of_ble_eq_true rfl⟩ hPc hDc m_nil m_nilA hS hFc rfl rfl rfl rfl hl.1 rfl (Nat.le_of_ble_eq_true rfl) ⟨Nat.zero_le _, Nat.zero_le _⟩ dX8_mean_34 (fun H1 locs hP1 hD1 hz1 hk1 hS => ?_)
        have hP : va_P E.1 vwCl (Model_c E a t7) H1 := hP1
        have hD : va_D A (Model_c E a t7) := m_back hD1 hFc
        generalize H1 = H at hP hS ⊢
        refine W.eq (g2 := F0 m 37 ls []) rfl ?_
        refine lv_aload_n hx hb dX8_mean_37 rfl (lv_at hl 0 rfl) ?_
        refine lv_iload_n hx hb dX8_mean_38 rfl (lv_at hl 1 rfl) ?_
        obtain ⟨t8, ht8, hF⟩ := m_bnd hF
        have hPc := hP
        have hDc := hD
        have hFc := va_free (wc := (Model_c E a t7)) hD hS hA [0, 1, 2, 3, 4, 5, 6, 7] rfl
        refine mVM (ci := 8) (n := 1) (rest := []) (As := [.int x0]) CC hKN hGl (c_X8_goesOn l E a t7 x0 t8 ht8 _) gX8_mean_X8_goesOn rfl ⟨rfl, rfl⟩ (by decide +kernel) ⟨Nat.le_of_ble_eq_true rfl, Nat.le_of_ble_eq_true rfl⟩ hPc hDc m_nil m_nilA hS hFc rfl rfl rfl rfl hl.1 rfl (Nat.le_of_ble_eq_true rfl) ⟨Nat.zero_le _, Nat.zero_le _⟩ dX8_mean_39 (fun H1 locs hP1 hD1 hz1 hk1 hS => ?_)
        have hP : va_P E.1 vwCl (Model_c E a t8) H1 := hP1
        have hD : va_D A (Model_c E a t8) := m_back hD1 hFc
        generalize H1 = H at hP hS ⊢
        refine W.eq (g2 := F0 m 42 ls []) rfl ?_
        refine lv_aload_n hx hb dX8_mean_42 rfl (lv_at hl 0 rfl) ?_
        obtain ⟨t9, ht9, hF⟩ := m_bnd hF
        refine mVP (ci := 8) (n := 0) (rest := []) (As := []) CC hKN hGl hS (c_X8_allMore l E a t8 t9 ht9) gX8_mean_X8_allMore rfl ⟨rfl, rfl⟩ (by decide +kernel) ⟨Nat.le_of_ble_eq_true rfl, Nat.le_of_ble_eq_true rfl⟩ hP rfl rfl rfl rfl hl.1 rfl (Nat.le_of_ble_eq_true rfl) ⟨Nat.zero_le _, Nat.zero_le _⟩ dX8_mean_43 ?_
        refine W.eq (g2 := F0 m 46 ls [.int t9]) rfl ?_
        refine lv_i2l (v := (t9).toInt64) hx hb dX8_mean_46 rfl ?_
        refine lv_lstore_n (lv' := [(3, .long (t9).toInt64), (0, .ref (Modela_self a)), (1, .int x0), (2, .int x1)]) hx hb dX8_mean_47 rfl hl (by decide) rfl (fun ls hl => ?_)
        refine lv_aload_n hx hb dX8_mean_48 rfl (lv_at hl 1 rfl) ?_
        obtain ⟨t10, ht10, hF⟩ := m_bnd hF
        have hPc := hP
        have hDc := hD
        have hFc := va_free (wc := (Model_c E a t8)) hD hS hA [0, 1, 2, 3, 4, 5, 6, 7] rfl
        refine mVM (ci := 8) (n := 0) (rest := []) (As := []) CC hKN hGl (c_X8_goesBack l E a t8 t10 ht10 _) gX8_mean_X8_goesBack rfl ⟨rfl, rfl⟩ (by decide +kernel) ⟨Nat.le_of_ble_eq_true rfl, Nat.le_of_ble_eq_true rfl⟩ hPc hDc m_nil m_nilA hS hFc rfl rfl rfl rfl hl.1 rfl (Nat.le_of_ble_eq_true rfl) ⟨Nat.zero_le _, Nat.zero_le _⟩ dX8_mean_49 (fun H1 locs hP1 hD1 hz1 hk1 hS => ?_)
        have hP : va_P E.1 vwCl (Model_c E a t10) H1 := hP1
        have hD : va_D A (Model_c E a t10) := m_back hD1 hFc
        generalize H1 = H at hP hS ⊢
        refine W.eq (g2 := F0 m 52 ls []) rfl ?_
        refine lv_lload_n hx hb dX8_mean_52 rfl (lv_at hl 0 rfl) ?_
        refine lv_aload_n hx hb dX8_mean_53 rfl (lv_at hl 1 rfl) ?_
        refine va_get (D := E.1) (ci := 8) (v := .ref (Modela_s a)) (C := RX8) (T := TX8) (N := 20) hx hb hts k2 hown hK hP 0 rfl rfl 1 (by decide) k1 (fun _ h9 => h9) rfl dX8_mean_54 ?_
        refine lv_bipush (v := 20) hx hb dX8_mean_57 (by decide) ?_
        obtain ⟨h11, hF⟩ := m_chk hF
        refine va_iald (f := (Model_s t10)) hx hb hK hP 1 1 rfl rfl (mIn_ok h11) dX8_mean_59 ?_
        refine W.eq (g2 := F0 m 60 ls [.int ((Model_s t10) (20 : Int32).toNatClampNeg), .long (t9).toInt64]) rfl ?_
        refine lv_i2l (v := (((Model_s t10) (20 : Int32).toNatClampNeg)).toInt64) hx hb dX8_mean_60 rfl ?_
        refine lv_iload_n hx hb dX8_mean_61 rfl (lv_at hl 3 rfl) ?_
        obtain ⟨t12, ht12, hF⟩ := m_bnd hF
        refine mSP (n := 3) (rest := []) (As := [.long (t9).toInt64, .long (((Model_s t10) (20 : Int32).toNatClampNeg)).toInt64, .int x1]) CC hKN hGl hS (c_X8_lowest l E (t9).toInt64 (((Model_s t10) (20 : Int32).toNatClampNeg)).toInt64 x1 t12 ht12) gX8_mean_X8_lowest rfl ⟨rfl, rfl⟩ (by decide +kernel) ⟨Nat.le_of_ble_eq_true rfl, Nat.le_of_ble_eq_true rfl⟩ m_nil rfl hl.1 rfl (Nat.le_of_ble_eq_true rfl) ⟨Nat.zero_le _, Nat.zero_le _⟩ dX8_mean_62 ?_
        refine W.eq (g2 := F0 m 65 ls [.long t12]) rfl ?_
        have hF := Option.some.inj hF
        subst hF
        rw [hQ]
        exact W.lret hx hb hr (fun t ht _ => ⟨⟨rfl, by rw [ht]; exact hP, hD⟩, hS.F ht⟩) hS.2.2 dX8_mean_65
      · have hF := m_neg (fun n9 => n9 c6) hF
        exact hj29 H locs ls hF hP hD hS (lv_sub hl [] rfl)

abbrev rmX8_plan : Room := { frames := 2, cells := 0, slots := 0, locals := 43 }
set_option maxRecDepth 100000 in
set_option maxHeartbeats 400000 in
theorem c_X8_plan (l : Launch) (E : mE) (a : ModelA) (v : ModelV) (x0 : Int32) (x1 : Int32) (t : (Int32 × ModelV)) (hF : fn_X8_plan v x0 x1 = some t) (sz : Nat) : Met l yX8_plan wsX8_plan rmX8_plan (mPm E [.ref (Modela_self a), .int x0, .int x1] sz ((Model_c E a v)) (([] : va_W))) (mSm E (some (.int t.1)) ((Model_c E a t.2)) (va_A ((Model_c E a v)) sz)) 0 0 (va_A ((Model_c E a v)) sz) := by
  refine mOfM (cc := cX8_plan) (maxL := 3) (ret := (some .int)) (by decide) rfl (Nat.le_of_ble_eq_true rfl) ?_
  intro p e_ s m args below meth c Q A hQ CC hr hlocks hin hA hP hD hKN hGl hR0 hRA ls hl
  have hS : va_S A s.heap s.heap [] := va_S.rf
  have hK := hKN.1
  have hx := CC.1
  have hb := CC.2.1
  have hml := CC.2.2.1
  have hown : s.vm.findClass RX8 = some m.cls := CC.2.2.2.1
  have hts := CC.2.2.2.2
  have hl : lv_has ls 3 [(0, .ref (Modela_self a)), (1, .int x0), (2, .int x1)] := hl
  have k0 := hts (.fieldLink RX8 9 "OneDidAllModel" "s" "[I") (by decide +kernel)
  have k1 := (show ∀ w ∈ u_ws RX8 TX8 20, w ∈ wsX8_plan by decide +kernel)
  have hP : va_P E.1 vwCl (Model_c E a v) s.heap := hP
  obtain ⟨H, hH⟩ : ∃ H, H = s.heap := ⟨_, rfl⟩
  obtain ⟨locs, hlc⟩ : ∃ z : List Loc, z = [] := ⟨_, rfl⟩
  rw [← hH] at hP
  rw [← hlc] at hS
  have hS : va_S A s.heap H locs := by rw [hH]; exact hS
  rw [← hH, ← hlc]
  unfold fn_X8_plan at hF
  refine lv_iload_n hx hb dX8_plan_0 rfl (lv_at hl 1 rfl) ?_
  refine lv_iconst (v := (-1)) hx hb dX8_plan_1 (by decide) ?_
  refine lv_icmp_ne (tgt := 15) hx hb dX8_plan_2 (by decide) (fun c1 => ?_) (fun c1 => ?_)
  · have hF := m_pos c1 hF
    refine lv_iload_n hx hb dX8_plan_15 rfl (lv_at hl 1 rfl) ?_
    refine lv_iconst (v := 0) hx hb dX8_plan_16 (by decide) ?_
    refine lv_iconst (v := 3) hx hb dX8_plan_17 (by decide) ?_
    obtain ⟨t2, ht2, hF⟩ := m_bnd hF
    refine mSP (n := 3) (rest := []) (As := [.int x0, .int 0, .int 3]) CC hKN hGl hS (c_X8_in l E x0 0 3 t2 ht2) gX8_plan_X8_in rfl ⟨rfl, rfl⟩ (by decide +kernel) ⟨Nat.le_of_ble_eq_true rfl, Nat.le_of_ble_eq_true rfl⟩ m_nil rfl hl.1 rfl (Nat.le_of_ble_eq_true rfl) ⟨Nat.zero_le _, Nat.zero_le _⟩ dX8_plan_18 ?_
    refine W.eq (g2 := F0 m 21 ls [.int t2]) rfl ?_
    refine lv_if_eq (tgt := 36) hx hb dX8_plan_21 (by decide) (fun c3 => ?_) (fun c3 => ?_)
    · have hF := m_pos c3 hF
      refine lv_iconst (v := (-1)) hx hb dX8_plan_36 (by decide) ?_
      have hF := Option.some.inj hF
      subst hF
      rw [hQ]
      exact W.iret hx hb hr (fun t ht _ => ⟨⟨rfl, by rw [ht]; exact hP, hD⟩, hS.F ht⟩) hS.2.2 dX8_plan_37
    · have hF := m_neg c3 hF
      refine lv_iload_n hx hb dX8_plan_24 rfl (lv_at hl 1 rfl) ?_
      obtain ⟨j38, hjd38, hF⟩ := m_jp hF
      have hj38 : ∀ (H : Heap) (locs : List Loc) (ls : Array Slot), j38 () = some t → va_P E.1 vwCl (Model_c E a v) H → va_D A (Model_c E a v) → va_S A s.heap H locs → lv_has ls 3 [(0, .ref (Modela_self a)), (1, .int x0), (2, .int x1)] → W p l e_ rmX8_plan s m args below meth c H locs 0 0 Q (F0 m 38 ls []) := by
        intro H locs ls hF hP hD hS hl
        rw [hjd38] at hF
        refine lv_aload_n hx hb dX8_plan_38 rfl (lv_at hl 0 rfl) ?_
        refine va_get (D := E.1) (ci := 8) (v := .ref (Modela_s a)) (C := RX8) (T := TX8) (N := 20) hx hb hts k1 hown hK hP 0 rfl rfl 1 (by decide) k0 (fun _ h9 => h9) rfl dX8_plan_39 ?_
        refine lv_bipush (v := 23) hx hb dX8_plan_42 (by decide) ?_
        obtain ⟨h4, hF⟩ := m_chk hF
        refine va_iald (f := (Model_s v)) hx hb hK hP 1 1 rfl rfl (mIn_ok h4) dX8_plan_44 ?_
        refine W.eq (g2 := F0 m 45 ls [.int ((Model_s v) (23 : Int32).toNatClampNeg)]) rfl ?_
        refine lv_bipush (v := 8) hx hb dX8_plan_45 (by decide) ?_
        refine lv_icmp_ne (tgt := 53) hx hb dX8_plan_47 (by decide) (fun c5 => ?_) (fun c5 => ?_)
        · have hF := m_pos c5 hF
          refine lv_aload_n hx hb dX8_plan_53 rfl (lv_at hl 0 rfl) ?_
          refine va_get (D := E.1) (ci := 8) (v := .ref (Modela_s a)) (C := RX8) (T := TX8) (N := 20) hx hb hts k1 hown hK hP 0 rfl rfl 1 (by decide) k0 (fun _ h9 => h9) rfl dX8_plan_54 ?_
          refine lv_bipush (v := 79) hx hb dX8_plan_57 (by decide) ?_
          refine lv_aload_n hx hb dX8_plan_59 rfl (lv_at hl 0 rfl) ?_
          refine va_get (D := E.1) (ci := 8) (v := .ref (Modela_s a)) (C := RX8) (T := TX8) (N := 20) hx hb hts k1 hown hK hP 0 rfl rfl 1 (by decide) k0 (fun _ h9 => h9) rfl dX8_plan_60 ?_
          refine lv_bipush (v := 23) hx hb dX8_plan_63 (by decide) ?_
          obtain ⟨h6, hF⟩ := m_chk hF
          refine va_iald (f := (Model_s v)) hx hb hK hP 1 1 rfl rfl (mIn_ok h6) dX8_plan_65 ?_
          refine W.eq (g2 := F0 m 66 ls [.int ((Model_s v) (23 : Int32).toNatClampNeg), .int 79, .ref (Modela_s a)]) rfl ?_
          refine lv_iadd hx hb dX8_plan_66 ?_
          refine lv_iload_n hx hb dX8_plan_67 rfl (lv_at hl 1 rfl) ?_
          obtain ⟨h7, hF⟩ := m_chk hF
          refine va_iast (f := (Model_s v)) hx hb hK hP hD hS 1 1 rfl rfl (mIn_ok h7) dX8_plan_68 (fun H locs hP hD hS => ?_)
          have hP : va_P E.1 vwCl (Model_c E a (Model_s_s v (upd (Model_s v) ((79 + ((Model_s v) (23 : Int32).toNatClampNeg))).toNatClampNeg x0))) H := hP
          have hD : va_D A (Model_c E a (Model_s_s v (upd (Model_s v) ((79 + ((Model_s v) (23 : Int32).toNatClampNeg))).toNatClampNeg x0))) := hD
          refine lv_aload_n hx hb dX8_plan_69 rfl (lv_at hl 0 rfl) ?_
          refine va_get (D := E.1) (ci := 8) (v := .ref (Modela_s a)) (C := RX8) (T := TX8) (N := 20) hx hb hts k1 hown hK hP 0 rfl rfl 1 (by decide) k0 (fun _ h9 => h9) rfl dX8_plan_70 ?_
          refine lv_bipush (v := 87) hx hb dX8_plan_73 (by decide) ?_
          refine lv_aload_n hx hb dX8_plan_75 rfl (lv_at hl 0 rfl) ?_
          refine va_get (D := E.1) (ci := 8) (v := .ref (Modela_s a)) (C := RX8) (T := TX8) (N := 20) hx hb hts k1 hown hK hP 0 rfl rfl 1 (by decide) k0 (fun _ h9 => h9) rfl dX8_plan_76 ?_
          refine lv_bipush (v := 23) hx hb dX8_plan_79 (by decide) ?_
          obtain ⟨h8, hF⟩ := m_chk hF
          refine va_iald (f := (upd (Model_s v) ((79 + ((Model_s v) (23 : Int32).toNatClampNeg))).toNatClampNeg x0)) hx hb hK hP 1 1 rfl rfl (mIn_ok h8) dX8_plan_81 ?_
          refine W.eq (g2 := F0 m 82 ls [.int ((upd (Model_s v) ((79 + ((Model_s v) (23 : Int32).toNatClampNeg))).toNatClampNeg x0) (23 : Int32).toNatClampNeg), .int 87, .ref (Modela_s a)]) rfl ?_
          refine lv_iadd hx hb dX8_plan_82 ?_
          refine lv_iload_n hx hb dX8_plan_83 rfl (lv_at hl 2 rfl) ?_
          obtain ⟨h9, hF⟩ := m_chk hF
          refine va_iast (f := (upd (Model_s v) ((79 + ((Model_s v) (23 : Int32).toNatClampNeg))).toNatClampNeg x0)) hx hb hK hP hD hS 1 1 rfl rfl (mIn_ok h9) dX8_plan_84 (fun H locs hP hD hS => ?_)
          have hP : va_P E.1 vwCl (Model_c E a (Model_s_s v (upd (upd (Model_s v) ((79 + ((Model_s v) (23 : Int32).toNatClampNeg))).toNatClampNeg x0) ((87 + ((upd (Model_s v) ((79 + ((Model_s v) (23 : Int32).toNatClampNeg))).toNatClampNeg x0) (23 : Int32).toNatClampNeg))).toNatClampNeg x1))) H := hP
          have hD : va_D A (Model_c E a (Model_s_s v (upd (upd (Model_s v) ((79 + ((Model_s v) (23 : Int32).toNatClampNeg))).toNatClampNeg x0) ((87 + ((upd (Model_s v) ((79 + ((Model_s v) (23 : Int32).toNatClampNeg))).toNatClampNeg x0) (23 : Int32).toNatClampNeg))).toNatClampNeg x1))) := hD
          refine lv_aload_n hx hb dX8_plan_85 rfl (lv_at hl 0 rfl) ?_
          refine va_get (D := E.1) (ci := 8) (v := .ref (Modela_s a)) (C := RX8) (T := TX8) (N := 20) hx hb hts k1 hown hK hP 0 rfl rfl 1 (by decide) k0 (fun _ h9 => h9) rfl dX8_plan_86 ?_
          refine lv_bipush (v := 23) hx hb dX8_plan_89 (by decide) ?_
          refine lv_dup2_11 hx hb dX8_plan_91 rfl rfl ?_
          obtain ⟨h10, hF⟩ := m_chk hF
          refine va_iald (f := (upd (upd (Model_s v) ((79 + ((Model_s v) (23 : Int32).toNatClampNeg))).toNatClampNeg x0) ((87 + ((upd (Model_s v) ((79 + ((Model_s v) (23 : Int32).toNatClampNeg))).toNatClampNeg x0) (23 : Int32).toNatClampNeg))).toNatClampNeg x1)) hx hb hK hP 1 1 rfl rfl (mIn_ok h10) dX8_plan_92 ?_
          refine W.eq (g2 := F0 m 93 ls [.int ((upd (upd (Model_s v) ((79 + ((Model_s v) (23 : Int32).toNatClampNeg))).toNatClampNeg x0) ((87 + ((upd (Model_s v) ((79 + ((Model_s v) (23 : Int32).toNatClampNeg))).toNatClampNeg x0) (23 : Int32).toNatClampNeg))).toNatClampNeg x1) (23 : Int32).toNatClampNeg), .int 23, .ref (Modela_s a)]) rfl ?_
          refine lv_iconst (v := 1) hx hb dX8_plan_93 (by decide) ?_
          refine lv_iadd hx hb dX8_plan_94 ?_
          obtain ⟨h11, hF⟩ := m_chk hF
          refine va_iast (f := (upd (upd (Model_s v) ((79 + ((Model_s v) (23 : Int32).toNatClampNeg))).toNatClampNeg x0) ((87 + ((upd (Model_s v) ((79 + ((Model_s v) (23 : Int32).toNatClampNeg))).toNatClampNeg x0) (23 : Int32).toNatClampNeg))).toNatClampNeg x1)) hx hb hK hP hD hS 1 1 rfl rfl (mIn_ok h11) dX8_plan_95 (fun H locs hP hD hS => ?_)
          have hP : va_P E.1 vwCl (Model_c E a (Model_s_s v (upd (upd (upd (Model_s v) ((79 + ((Model_s v) (23 : Int32).toNatClampNeg))).toNatClampNeg x0) ((87 + ((upd (Model_s v) ((79 + ((Model_s v) (23 : Int32).toNatClampNeg))).toNatClampNeg x0) (23 : Int32).toNatClampNeg))).toNatClampNeg x1) (23 : Int32).toNatClampNeg (((upd (upd (Model_s v) ((79 + ((Model_s v) (23 : Int32).toNatClampNeg))).toNatClampNeg x0) ((87 + ((upd (Model_s v) ((79 + ((Model_s v) (23 : Int32).toNatClampNeg))).toNatClampNeg x0) (23 : Int32).toNatClampNeg))).toNatClampNeg x1) (23 : Int32).toNatClampNeg) + 1)))) H := hP
          have hD : va_D A (Model_c E a (Model_s_s v (upd (upd (upd (Model_s v) ((79 + ((Model_s v) (23 : Int32).toNatClampNeg))).toNatClampNeg x0) ((87 + ((upd (Model_s v) ((79 + ((Model_s v) (23 : Int32).toNatClampNeg))).toNatClampNeg x0) (23 : Int32).toNatClampNeg))).toNatClampNeg x1) (23 : Int32).toNatClampNeg (((upd (upd (Model_s v) ((79 + ((Model_s v) (23 : Int32).toNatClampNeg))).toNatClampNeg x0) ((87 + ((upd (Model_s v) ((79 + ((Model_s v) (23 : Int32).toNatClampNeg))).toNatClampNeg x0) (23 : Int32).toNatClampNeg))).toNatClampNeg x1) (23 : Int32).toNatClampNeg) + 1)))) := hD
          refine lv_aload_n hx hb dX8_plan_96 rfl (lv_at hl 0 rfl) ?_
          refine va_get (D := E.1) (ci := 8) (v := .ref (Modela_s a)) (C := RX8) (T := TX8) (N := 20) hx hb hts k1 hown hK hP 0 rfl rfl 1 (by decide) k0 (fun _ h9 => h9) rfl dX8_plan_97 ?_
          refine lv_bipush (v := 23) hx hb dX8_plan_100 (by decide) ?_
          obtain ⟨h12, hF⟩ := m_chk hF
          refine va_iald (f := (upd (upd (upd (Model_s v) ((79 + ((Model_s v) (23 : Int32).toNatClampNeg))).toNatClampNeg x0) ((87 + ((upd (Model_s v) ((79 + ((Model_s v) (23 : Int32).toNatClampNeg))).toNatClampNeg x0) (23 : Int32).toNatClampNeg))).toNatClampNeg x1) (23 : Int32).toNatClampNeg (((upd (upd (Model_s v) ((79 + ((Model_s v) (23 : Int32).toNatClampNeg))).toNatClampNeg x0) ((87 + ((upd (Model_s v) ((79 + ((Model_s v) (23 : Int32).toNatClampNeg))).toNatClampNeg x0) (23 : Int32).toNatClampNeg))).toNatClampNeg x1) (23 : Int32).toNatClampNeg) + 1))) hx hb hK hP 1 1 rfl rfl (mIn_ok h12) dX8_plan_102 ?_
          refine W.eq (g2 := F0 m 103 ls [.int ((upd (upd (upd (Model_s v) ((79 + ((Model_s v) (23 : Int32).toNatClampNeg))).toNatClampNeg x0) ((87 + ((upd (Model_s v) ((79 + ((Model_s v) (23 : Int32).toNatClampNeg))).toNatClampNeg x0) (23 : Int32).toNatClampNeg))).toNatClampNeg x1) (23 : Int32).toNatClampNeg (((upd (upd (Model_s v) ((79 + ((Model_s v) (23 : Int32).toNatClampNeg))).toNatClampNeg x0) ((87 + ((upd (Model_s v) ((79 + ((Model_s v) (23 : Int32).toNatClampNeg))).toNatClampNeg x0) (23 : Int32).toNatClampNeg))).toNatClampNeg x1) (23 : Int32).toNatClampNeg) + 1)) (23 : Int32).toNatClampNeg)]) rfl ?_
          have hF := Option.some.inj hF
          subst hF
          rw [hQ]
          exact W.iret hx hb hr (fun t ht _ => ⟨⟨rfl, by rw [ht]; exact hP, hD⟩, hS.F ht⟩) hS.2.2 dX8_plan_103
        · have hF := m_neg (fun n9 => n9 c5) hF
          refine lv_bipush (v := (-4)) hx hb dX8_plan_50 (by decide) ?_
          have hF := Option.some.inj hF
          subst hF
          rw [hQ]
          exact W.iret hx hb hr (fun t ht _ => ⟨⟨rfl, by rw [ht]; exact hP, hD⟩, hS.F ht⟩) hS.2.2 dX8_plan_52
      clear hjd38
      refine lv_if_le (tgt := 38) hx hb dX8_plan_25 (by decide) (fun c13 => ?_) (fun c13 => ?_)
      · have hF := m_pos c13 hF
        exact hj38 H locs ls hF hP hD hS (lv_sub hl [0, 1, 2] rfl)
      · have hF := m_neg c13 hF
        refine lv_aload_n hx hb dX8_plan_28 rfl (lv_at hl 0 rfl) ?_
        refine lv_iload_n hx hb dX8_plan_29 rfl (lv_at hl 2 rfl) ?_
        obtain ⟨t14, ht14, hF⟩ := m_bnd hF
        refine mVP (ci := 8) (n := 1) (rest := []) (As := [.int x1]) CC hKN hGl hS (c_X8_isPupil l E a v x1 t14 ht14) gX8_plan_X8_isPupil rfl ⟨rfl, rfl⟩ (by decide +kernel) ⟨Nat.le_of_ble_eq_true rfl, Nat.le_of_ble_eq_true rfl⟩ hP rfl rfl rfl rfl hl.1 rfl (Nat.le_of_ble_eq_true rfl) ⟨Nat.zero_le _, Nat.zero_le _⟩ dX8_plan_30 ?_
        refine W.eq (g2 := F0 m 33 ls [.int t14]) rfl ?_
        refine lv_if_ne (tgt := 38) hx hb dX8_plan_33 (by decide) (fun c15 => ?_) (fun c15 => ?_)
        · have hF := m_pos c15 hF
          exact hj38 H locs ls hF hP hD hS (lv_sub hl [0, 1, 2] rfl)
        · have hF := m_neg (fun n9 => n9 c15) hF
          refine lv_iconst (v := (-1)) hx hb dX8_plan_36 (by decide) ?_
          have hF := Option.some.inj hF
          subst hF
          rw [hQ]
          exact W.iret hx hb hr (fun t ht _ => ⟨⟨rfl, by rw [ht]; exact hP, hD⟩, hS.F ht⟩) hS.2.2 dX8_plan_37
  · have hF := m_neg (fun n9 => n9 c1) hF
    refine lv_aload_n hx hb dX8_plan_5 rfl (lv_at hl 0 rfl) ?_
    refine va_get (D := E.1) (ci := 8) (v := .ref (Modela_s a)) (C := RX8) (T := TX8) (N := 20) hx hb hts k1 hown hK hP 0 rfl rfl 1 (by decide) k0 (fun _ h9 => h9) rfl dX8_plan_6 ?_
    refine lv_bipush (v := 23) hx hb dX8_plan_9 (by decide) ?_
    refine lv_iconst (v := 0) hx hb dX8_plan_11 (by decide) ?_
    obtain ⟨h16, hF⟩ := m_chk hF
    refine va_iast (f := (Model_s v)) hx hb hK hP hD hS 1 1 rfl rfl (mIn_ok h16) dX8_plan_12 (fun H locs hP hD hS => ?_)
    have hP : va_P E.1 vwCl (Model_c E a (Model_s_s v (upd (Model_s v) (23 : Int32).toNatClampNeg 0))) H := hP
    have hD : va_D A (Model_c E a (Model_s_s v (upd (Model_s v) (23 : Int32).toNatClampNeg 0))) := hD
    refine lv_iconst (v := 0) hx hb dX8_plan_13 (by decide) ?_
    have hF := Option.some.inj hF
    subst hF
    rw [hQ]
    exact W.iret hx hb hr (fun t ht _ => ⟨⟨rfl, by rw [ht]; exact hP, hD⟩, hS.F ht⟩) hS.2.2 dX8_plan_14

abbrev rmX8_goesBy : Room := { frames := 5, cells := 0, slots := 0, locals := 120 }
set_option maxRecDepth 100000 in
set_option maxHeartbeats 400000 in
theorem c_X8_goesBy (l : Launch) (E : mE) (a : ModelA) (v : ModelV) (x0 : Int32) (x1 : Int32) (t : ModelV) (hF : fn_X8_goesBy v x0 x1 = some t) (sz : Nat) : Met l yX8_goesBy wsX8_goesBy rmX8_goesBy (mPm E [.ref (Modela_self a), .int x0, .int x1] sz ((Model_c E a v)) (([] : va_W))) (mSm E (none) ((Model_c E a t)) (va_A ((Model_c E a v)) sz)) 0 0 (va_A ((Model_c E a v)) sz) := by
  refine mOfM (cc := cX8_goesBy) (maxL := 3) (ret := none) (by decide) rfl (Nat.le_of_ble_eq_true rfl) ?_
  intro p e_ s m args below meth c Q A hQ CC hr hlocks hin hA hP hD hKN hGl hR0 hRA ls hl
  have hS : va_S A s.heap s.heap [] := va_S.rf
  have hK := hKN.1
  have hx := CC.1
  have hb := CC.2.1
  have hml := CC.2.2.1
  have hown : s.vm.findClass RX8 = some m.cls := CC.2.2.2.1
  have hts := CC.2.2.2.2
  have hl : lv_has ls 3 [(0, .ref (Modela_self a)), (1, .int x0), (2, .int x1)] := hl
  have k0 := hts (.fieldLink RX8 9 "OneDidAllModel" "s" "[I") (by decide +kernel)
  have k1 := (show ∀ w ∈ u_ws RX8 TX8 20, w ∈ wsX8_goesBy by decide +kernel)
  have hP : va_P E.1 vwCl (Model_c E a v) s.heap := hP
  obtain ⟨H, hH⟩ : ∃ H, H = s.heap := ⟨_, rfl⟩
  obtain ⟨locs, hlc⟩ : ∃ z : List Loc, z = [] := ⟨_, rfl⟩
  rw [← hH] at hP
  rw [← hlc] at hS
  have hS : va_S A s.heap H locs := by rw [hH]; exact hS
  rw [← hH, ← hlc]
  unfold fn_X8_goesBy at hF
  refine lv_iload_n hx hb dX8_goesBy_0 rfl (lv_at hl 1 rfl) ?_
  refine lv_if_ne (tgt := 11) hx hb dX8_goesBy_1 (by decide) (fun c1 => ?_) (fun c1 => ?_)
  · have hF := m_pos c1 hF
    refine lv_iload_n hx hb dX8_goesBy_11 rfl (lv_at hl 1 rfl) ?_
    refine lv_iconst (v := 3) hx hb dX8_goesBy_12 (by decide) ?_
    refine lv_icmp_ne (tgt := 30) hx hb dX8_goesBy_13 (by decide) (fun c2 => ?_) (fun c2 => ?_)
    · have hF := m_pos c2 hF
      refine lv_aload_n hx hb dX8_goesBy_30 rfl (lv_at hl 0 rfl) ?_
      refine va_get (D := E.1) (ci := 8) (v := .ref (Modela_s a)) (C := RX8) (T := TX8) (N := 20) hx hb hts k1 hown hK hP 0 rfl rfl 1 (by decide) k0 (fun _ h9 => h9) rfl dX8_goesBy_31 ?_
      refine lv_bipush (v := 14) hx hb dX8_goesBy_34 (by decide) ?_
      refine lv_iload_n hx hb dX8_goesBy_36 rfl (lv_at hl 2 rfl) ?_
      refine lv_iadd hx hb dX8_goesBy_37 ?_
      refine lv_iload_n hx hb dX8_goesBy_38 rfl (lv_at hl 1 rfl) ?_
      refine lv_iconst (v := 1) hx hb dX8_goesBy_39 (by decide) ?_
      obtain ⟨j48, hjd48, hF⟩ := m_jp hF
      have hj48 : ∀ (z0_48 : Int32) (H : Heap) (locs : List Loc) (ls : Array Slot), j48 z0_48 = some t → va_P E.1 vwCl (Model_c E a v) H → va_D A (Model_c E a v) → va_S A s.heap H locs → lv_has ls 3 [] → W p l e_ rmX8_goesBy s m args below meth c H locs 0 0 Q (F0 m 48 ls [.int z0_48, .int (14 + x1), .ref (Modela_s a)]) := by
        intro z0_48 H locs ls hF hP hD hS hl
        rw [hjd48] at hF
        obtain ⟨h3, hF⟩ := m_chk hF
        refine va_iast (f := (Model_s v)) hx hb hK hP hD hS 1 1 rfl rfl (mIn_ok h3) dX8_goesBy_48 (fun H locs hP hD hS => ?_)
        have hP : va_P E.1 vwCl (Model_c E a (Model_s_s v (upd (Model_s v) ((14 + x1)).toNatClampNeg z0_48))) H := hP
        have hD : va_D A (Model_c E a (Model_s_s v (upd (Model_s v) ((14 + x1)).toNatClampNeg z0_48))) := hD
        have hF := Option.some.inj hF
        subst hF
        rw [hQ]
        exact W.vret hx hb hr (fun t ht _ => ⟨⟨rfl, by rw [ht]; exact hP, hD⟩, hS.F ht⟩) hS.2.2 dX8_goesBy_49
      clear hjd48
      refine lv_icmp_ne (tgt := 47) hx hb dX8_goesBy_40 (by decide) (fun c4 => ?_) (fun c4 => ?_)
      · have hF := m_pos c4 hF
        refine lv_iconst (v := 0) hx hb dX8_goesBy_47 (by decide) ?_
        exact hj48 0 H locs ls hF hP hD hS (lv_sub hl [] rfl)
      · have hF := m_neg (fun n9 => n9 c4) hF
        refine lv_iconst (v := 1) hx hb dX8_goesBy_43 (by decide) ?_
        refine lv_goto (tgt := 48) hx hb dX8_goesBy_44 (by decide) ?_
        exact hj48 1 H locs ls hF hP hD hS (lv_sub hl [] rfl)
    · have hF := m_neg (fun n9 => n9 c2) hF
      refine lv_aload_n hx hb dX8_goesBy_16 rfl (lv_at hl 0 rfl) ?_
      refine va_get (D := E.1) (ci := 8) (v := .ref (Modela_s a)) (C := RX8) (T := TX8) (N := 20) hx hb hts k1 hown hK hP 0 rfl rfl 1 (by decide) k0 (fun _ h9 => h9) rfl dX8_goesBy_17 ?_
      refine lv_bipush (v := 8) hx hb dX8_goesBy_20 (by decide) ?_
      refine lv_iload_n hx hb dX8_goesBy_22 rfl (lv_at hl 2 rfl) ?_
      refine lv_iadd hx hb dX8_goesBy_23 ?_
      refine lv_bipush (v := 99) hx hb dX8_goesBy_24 (by decide) ?_
      obtain ⟨h5, hF⟩ := m_chk hF
      refine va_iast (f := (Model_s v)) hx hb hK hP hD hS 1 1 rfl rfl (mIn_ok h5) dX8_goesBy_26 (fun H locs hP hD hS => ?_)
      have hP : va_P E.1 vwCl (Model_c E a (Model_s_s v (upd (Model_s v) ((8 + x1)).toNatClampNeg 99))) H := hP
      have hD : va_D A (Model_c E a (Model_s_s v (upd (Model_s v) ((8 + x1)).toNatClampNeg 99))) := hD
      refine lv_goto (tgt := 49) hx hb dX8_goesBy_27 (by decide) ?_
      have hF := Option.some.inj hF
      subst hF
      rw [hQ]
      exact W.vret hx hb hr (fun t ht _ => ⟨⟨rfl, by rw [ht]; exact hP, hD⟩, hS.F ht⟩) hS.2.2 dX8_goesBy_49
  · have hF := m_neg (fun n9 => n9 c1) hF
    refine lv_aload_n hx hb dX8_goesBy_4 rfl (lv_at hl 0 rfl) ?_
    obtain ⟨t6, ht6, hF⟩ := m_bnd hF
    have hPc := hP
    have hDc := hD
    have hFc := va_free (wc := (Model_c E a v)) hD hS hA [0, 1, 2, 3, 4, 5, 6, 7] rfl
    refine mVM (ci := 8) (n := 0) (rest := []) (As := []) CC hKN hGl (c_X8_goes l E a v t6 ht6 _) gX8_goesBy_X8_goes rfl ⟨rfl, rfl⟩ (by decide +kernel) ⟨Nat.le_of_ble_eq_true rfl, Nat.le_of_ble_eq_true rfl⟩ hPc hDc m_nil m_nilA hS hFc rfl rfl rfl rfl hl.1 rfl (Nat.le_of_ble_eq_true rfl) ⟨Nat.zero_le _, Nat.zero_le _⟩ dX8_goesBy_5 (fun H1 locs hP1 hD1 hz1 hk1 hS => ?_)
    have hP : va_P E.1 vwCl (Model_c E a t6) H1 := hP1
    have hD : va_D A (Model_c E a t6) := m_back hD1 hFc
    generalize H1 = H at hP hS ⊢
    refine W.eq (g2 := F0 m 8 ls []) rfl ?_
    refine lv_goto (tgt := 49) hx hb dX8_goesBy_8 (by decide) ?_
    have hF := Option.some.inj hF
    subst hF
    rw [hQ]
    exact W.vret hx hb hr (fun t ht _ => ⟨⟨rfl, by rw [ht]; exact hP, hD⟩, hS.F ht⟩) hS.2.2 dX8_goesBy_49

abbrev rmX8_done : Room := { frames := 6, cells := 0, slots := 0, locals := 142 }
set_option maxRecDepth 100000 in
set_option maxHeartbeats 400000 in
theorem c_X8_done (l : Launch) (E : mE) (a : ModelA) (v : ModelV) (x0 : Int32) (t : (Int32 × ModelV)) (hF : fn_X8_done v x0 = some t) (sz : Nat) : Met l yX8_done wsX8_done rmX8_done (mPm E [.ref (Modela_self a), .int x0] sz ((Model_c E a v)) (([] : va_W))) (mSm E (some (.int t.1)) ((Model_c E a t.2)) (va_A ((Model_c E a v)) sz)) 0 0 (va_A ((Model_c E a v)) sz) := by
  refine mOfM (cc := cX8_done) (maxL := 3) (ret := (some .int)) (by decide) rfl (Nat.le_of_ble_eq_true rfl) ?_
  intro p e_ s m args below meth c Q A hQ CC hr hlocks hin hA hP hD hKN hGl hR0 hRA ls hl
  have hS : va_S A s.heap s.heap [] := va_S.rf
  have hK := hKN.1
  have hx := CC.1
  have hb := CC.2.1
  have hml := CC.2.2.1
  have hown : s.vm.findClass RX8 = some m.cls := CC.2.2.2.1
  have hts := CC.2.2.2.2
  have hl : lv_has ls 3 [(0, .ref (Modela_self a)), (1, .int x0)] := hl
  have k0 := hts (.fieldLink RX8 9 "OneDidAllModel" "s" "[I") (by decide +kernel)
  have k1 := (show ∀ w ∈ u_ws RX8 TX8 20, w ∈ wsX8_done by decide +kernel)
  have hP : va_P E.1 vwCl (Model_c E a v) s.heap := hP
  obtain ⟨H, hH⟩ : ∃ H, H = s.heap := ⟨_, rfl⟩
  obtain ⟨locs, hlc⟩ : ∃ z : List Loc, z = [] := ⟨_, rfl⟩
  rw [← hH] at hP
  rw [← hlc] at hS
  have hS : va_S A s.heap H locs := by rw [hH]; exact hS
  rw [← hH, ← hlc]
  unfold fn_X8_done at hF
  refine lv_iload_n hx hb dX8_done_0 rfl (lv_at hl 1 rfl) ?_
  refine lv_iconst (v := 0) hx hb dX8_done_1 (by decide) ?_
  refine lv_iconst (v := 1) hx hb dX8_done_2 (by decide) ?_
  obtain ⟨t1, ht1, hF⟩ := m_bnd hF
  refine mSP (n := 3) (rest := []) (As := [.int x0, .int 0, .int 1]) CC hKN hGl hS (c_X8_in l E x0 0 1 t1 ht1) gX8_done_X8_in rfl ⟨rfl, rfl⟩ (by decide +kernel) ⟨Nat.le_of_ble_eq_true rfl, Nat.le_of_ble_eq_true rfl⟩ m_nil rfl hl.1 rfl (Nat.le_of_ble_eq_true rfl) ⟨Nat.zero_le _, Nat.zero_le _⟩ dX8_done_3 ?_
  refine W.eq (g2 := F0 m 6 ls [.int t1]) rfl ?_
  refine lv_if_ne (tgt := 11) hx hb dX8_done_6 (by decide) (fun c2 => ?_) (fun c2 => ?_)
  · have hF := m_pos c2 hF
    refine lv_aload_n hx hb dX8_done_11 rfl (lv_at hl 0 rfl) ?_
    obtain ⟨t3, ht3, hF⟩ := m_bnd hF
    have hPc := hP
    have hDc := hD
    have hFc := va_free (wc := (Model_c E a v)) hD hS hA [0, 1, 2, 3, 4, 5, 6, 7] rfl
    refine mVM (ci := 8) (n := 0) (rest := []) (As := []) CC hKN hGl (c_X8_keeps l E a v t3 ht3 _) gX8_done_X8_keeps rfl ⟨rfl, rfl⟩ (by decide +kernel) ⟨Nat.le_of_ble_eq_true rfl, Nat.le_of_ble_eq_true rfl⟩ hPc hDc m_nil m_nilA hS hFc rfl rfl rfl rfl hl.1 rfl (Nat.le_of_ble_eq_true rfl) ⟨Nat.zero_le _, Nat.zero_le _⟩ dX8_done_12 (fun H1 locs hP1 hD1 hz1 hk1 hS => ?_)
    have hP : va_P E.1 vwCl (Model_c E a t3) H1 := hP1
    have hD : va_D A (Model_c E a t3) := m_back hD1 hFc
    generalize H1 = H at hP hS ⊢
    refine W.eq (g2 := F0 m 15 ls []) rfl ?_
    refine lv_iconst (v := 0) hx hb dX8_done_15 (by decide) ?_
    refine lv_istore_n (lv' := [(2, .int 0), (0, .ref (Modela_self a)), (1, .int x0)]) hx hb dX8_done_16 rfl hl (by decide) rfl (fun ls hl => ?_)
    obtain ⟨j56, hjd56, hF⟩ := m_jp hF
    have hj56 : ∀ (wx_56 : ModelV) (H : Heap) (locs : List Loc) (ls : Array Slot), j56 wx_56 = some t → va_P E.1 vwCl (Model_c E a wx_56) H → va_D A (Model_c E a wx_56) → va_S A s.heap H locs → lv_has ls 3 [(0, .ref (Modela_self a)), (1, .int x0)] → W p l e_ rmX8_done s m args below meth c H locs 0 0 Q (F0 m 56 ls []) := by
      intro wx_56 H locs ls hF hP hD hS hl
      rw [hjd56] at hF
      refine lv_iload_n hx hb dX8_done_56 rfl (lv_at hl 1 rfl) ?_
      obtain ⟨j71, hjd71, hF⟩ := m_jp hF
      have hj71 : ∀ (z0_71 : Int32) (H : Heap) (locs : List Loc) (ls : Array Slot), j71 z0_71 = some t → va_P E.1 vwCl (Model_c E a wx_56) H → va_D A (Model_c E a wx_56) → va_S A s.heap H locs → lv_has ls 3 [(0, .ref (Modela_self a))] → W p l e_ rmX8_done s m args below meth c H locs 0 0 Q (F0 m 71 ls [.int z0_71]) := by
        intro z0_71 H locs ls hF hP hD hS hl
        rw [hjd71] at hF
        refine lv_istore_n (lv' := [(2, .int z0_71), (0, .ref (Modela_self a))]) hx hb dX8_done_71 rfl hl (by decide) rfl (fun ls hl => ?_)
        refine lv_aload_n hx hb dX8_done_72 rfl (lv_at hl 1 rfl) ?_
        obtain ⟨t4, ht4, hF⟩ := m_bnd hF
        have hPc := hP
        have hDc := hD
        have hFc := va_free (wc := (Model_c E a wx_56)) hD hS hA [0, 1, 2, 3, 4, 5, 6, 7] rfl
        refine mVM (ci := 8) (n := 0) (rest := []) (As := []) CC hKN hGl (c_X8_goesBack l E a wx_56 t4 ht4 _) gX8_done_X8_goesBack rfl ⟨rfl, rfl⟩ (by decide +kernel) ⟨Nat.le_of_ble_eq_true rfl, Nat.le_of_ble_eq_true rfl⟩ hPc hDc m_nil m_nilA hS hFc rfl rfl rfl rfl hl.1 rfl (Nat.le_of_ble_eq_true rfl) ⟨Nat.zero_le _, Nat.zero_le _⟩ dX8_done_73 (fun H1 locs hP1 hD1 hz1 hk1 hS => ?_)
        have hP : va_P E.1 vwCl (Model_c E a t4) H1 := hP1
        have hD : va_D A (Model_c E a t4) := m_back hD1 hFc
        generalize H1 = H at hP hS ⊢
        refine W.eq (g2 := F0 m 76 ls []) rfl ?_
        refine lv_iload_n hx hb dX8_done_76 rfl (lv_at hl 0 rfl) ?_
        have hF := Option.some.inj hF
        subst hF
        rw [hQ]
        exact W.iret hx hb hr (fun t ht _ => ⟨⟨rfl, by rw [ht]; exact hP, hD⟩, hS.F ht⟩) hS.2.2 dX8_done_77
      clear hjd71
      refine lv_if_ne (tgt := 67) hx hb dX8_done_57 (by decide) (fun c5 => ?_) (fun c5 => ?_)
      · have hF := m_pos c5 hF
        refine lv_aload_n hx hb dX8_done_67 rfl (lv_at hl 0 rfl) ?_
        obtain ⟨t6, ht6, hF⟩ := m_bnd hF
        refine mVP (ci := 8) (n := 0) (rest := []) (As := []) CC hKN hGl hS (c_X8_allMore l E a wx_56 t6 ht6) gX8_done_X8_allMore rfl ⟨rfl, rfl⟩ (by decide +kernel) ⟨Nat.le_of_ble_eq_true rfl, Nat.le_of_ble_eq_true rfl⟩ hP rfl rfl rfl rfl hl.1 rfl (Nat.le_of_ble_eq_true rfl) ⟨Nat.zero_le _, Nat.zero_le _⟩ dX8_done_68 ?_
        refine W.eq (g2 := F0 m 71 ls [.int t6]) rfl ?_
        exact hj71 t6 H locs ls hF hP hD hS (lv_sub hl [0] rfl)
      · have hF := m_neg (fun n9 => n9 c5) hF
        refine lv_aload_n hx hb dX8_done_60 rfl (lv_at hl 0 rfl) ?_
        obtain ⟨t7, ht7, hF⟩ := m_bnd hF
        refine mVP (ci := 8) (n := 0) (rest := []) (As := []) CC hKN hGl hS (c_X8_workMore l E a wx_56 t7 ht7) gX8_done_X8_workMore rfl ⟨rfl, rfl⟩ (by decide +kernel) ⟨Nat.le_of_ble_eq_true rfl, Nat.le_of_ble_eq_true rfl⟩ hP rfl rfl rfl rfl hl.1 rfl (Nat.le_of_ble_eq_true rfl) ⟨Nat.zero_le _, Nat.zero_le _⟩ dX8_done_61 ?_
        refine W.eq (g2 := F0 m 64 ls [.int t7]) rfl ?_
        refine lv_goto (tgt := 71) hx hb dX8_done_64 (by decide) ?_
        exact hj71 t7 H locs ls hF hP hD hS (lv_sub hl [0] rfl)
    clear hjd56
    have hL17 : ∀ (n : Nat) (y2_17 : Int32) (wy_17 : ModelV) (H : Heap) (locs : List Loc) (ls : Array Slot), lp_X8_done_17 j56 n y2_17 wy_17 = some t → va_P E.1 vwCl (Model_c E a wy_17) H → va_D A (Model_c E a wy_17) → va_S A s.heap H locs → lv_has ls 3 [(0, .ref (Modela_self a)), (1, .int x0), (2, .int y2_17)] → W p l e_ rmX8_done s m args below meth c H locs 0 0 Q (F0 m 17 ls []) := by
      intro n
      induction n with
      | zero =>
        intro y2_17 wy_17 H locs ls hF
        exact nomatch (show (none : Option (Int32 × ModelV)) = some t from hF)
      | succ n ih17 =>
        intro y2_17 wy_17 H locs ls hF hP hD hS hl
        have hF : st_X8_done_17 j56 (lp_X8_done_17 j56 n) y2_17 wy_17 = some t := hF
        unfold st_X8_done_17 at hF
        refine lv_iload_n hx hb dX8_done_17 rfl (lv_at hl 2 rfl) ?_
        refine lv_aload_n hx hb dX8_done_18 rfl (lv_at hl 0 rfl) ?_
        refine va_get (D := E.1) (ci := 8) (v := .ref (Modela_s a)) (C := RX8) (T := TX8) (N := 20) hx hb hts k1 hown hK hP 0 rfl rfl 1 (by decide) k0 (fun _ h9 => h9) rfl dX8_done_19 ?_
        refine lv_bipush (v := 23) hx hb dX8_done_22 (by decide) ?_
        obtain ⟨h8, hF⟩ := m_chk hF
        refine va_iald (f := (Model_s wy_17)) hx hb hK hP 1 1 rfl rfl (mIn_ok h8) dX8_done_24 ?_
        refine W.eq (g2 := F0 m 25 ls [.int ((Model_s wy_17) (23 : Int32).toNatClampNeg), .int y2_17]) rfl ?_
        refine lv_icmp_ge (tgt := 56) hx hb dX8_done_25 (by decide) (fun c9 => ?_) (fun c9 => ?_)
        · have hF := m_pos c9 hF
          exact hj56 wy_17 H locs ls hF hP hD hS (lv_sub hl [0, 1] rfl)
        · have hF := m_neg c9 hF
          refine lv_aload_n hx hb dX8_done_28 rfl (lv_at hl 0 rfl) ?_
          refine lv_aload_n hx hb dX8_done_29 rfl (lv_at hl 0 rfl) ?_
          refine va_get (D := E.1) (ci := 8) (v := .ref (Modela_s a)) (C := RX8) (T := TX8) (N := 20) hx hb hts k1 hown hK hP 0 rfl rfl 1 (by decide) k0 (fun _ h9 => h9) rfl dX8_done_30 ?_
          refine lv_bipush (v := 79) hx hb dX8_done_33 (by decide) ?_
          refine lv_iload_n hx hb dX8_done_35 rfl (lv_at hl 2 rfl) ?_
          refine lv_iadd hx hb dX8_done_36 ?_
          obtain ⟨h10, hF⟩ := m_chk hF
          refine va_iald (f := (Model_s wy_17)) hx hb hK hP 1 1 rfl rfl (mIn_ok h10) dX8_done_37 ?_
          refine W.eq (g2 := F0 m 38 ls [.int ((Model_s wy_17) ((79 + y2_17)).toNatClampNeg), .ref (Modela_self a)]) rfl ?_
          refine lv_aload_n hx hb dX8_done_38 rfl (lv_at hl 0 rfl) ?_
          refine va_get (D := E.1) (ci := 8) (v := .ref (Modela_s a)) (C := RX8) (T := TX8) (N := 20) hx hb hts k1 hown hK hP 0 rfl rfl 1 (by decide) k0 (fun _ h9 => h9) rfl dX8_done_39 ?_
          refine lv_bipush (v := 87) hx hb dX8_done_42 (by decide) ?_
          refine lv_iload_n hx hb dX8_done_44 rfl (lv_at hl 2 rfl) ?_
          refine lv_iadd hx hb dX8_done_45 ?_
          obtain ⟨h11, hF⟩ := m_chk hF
          refine va_iald (f := (Model_s wy_17)) hx hb hK hP 1 1 rfl rfl (mIn_ok h11) dX8_done_46 ?_
          refine W.eq (g2 := F0 m 47 ls [.int ((Model_s wy_17) ((87 + y2_17)).toNatClampNeg), .int ((Model_s wy_17) ((79 + y2_17)).toNatClampNeg), .ref (Modela_self a)]) rfl ?_
          obtain ⟨t12, ht12, hF⟩ := m_bnd hF
          have hPc := hP
          have hDc := hD
          have hFc := va_free (wc := (Model_c E a wy_17)) hD hS hA [0, 1, 2, 3, 4, 5, 6, 7] rfl
          refine mVM (ci := 8) (n := 2) (rest := []) (As := [.int ((Model_s wy_17) ((79 + y2_17)).toNatClampNeg), .int ((Model_s wy_17) ((87 + y2_17)).toNatClampNeg)]) CC hKN hGl (c_X8_goesBy l E a wy_17 ((Model_s wy_17) ((79 + y2_17)).toNatClampNeg) ((Model_s wy_17) ((87 + y2_17)).toNatClampNeg) t12 ht12 _) gX8_done_X8_goesBy rfl ⟨rfl, rfl⟩ (by decide +kernel) ⟨Nat.le_of_ble_eq_true rfl, Nat.le_of_ble_eq_true rfl⟩ hPc hDc m_nil m_nilA hS hFc rfl rfl rfl rfl hl.1 rfl (Nat.le_of_ble_eq_true rfl) ⟨Nat.zero_le _, Nat.zero_le _⟩ dX8_done_47 (fun H1 locs hP1 hD1 hz1 hk1 hS => ?_)
          have hP : va_P E.1 vwCl (Model_c E a t12) H1 := hP1
          have hD : va_D A (Model_c E a t12) := m_back hD1 hFc
          generalize H1 = H at hP hS ⊢
          refine W.eq (g2 := F0 m 50 ls []) rfl ?_
          refine lv_iinc (v := (y2_17 + 1)) (lv' := [(2, .int (y2_17 + 1)), (0, .ref (Modela_self a)), (1, .int x0)]) hx hb dX8_done_50 hl (k := 2) rfl rfl (by decide) rfl (fun ls hl => ?_)
          refine lv_goto (tgt := 17) hx hb dX8_done_53 (by decide) ?_
          exact ih17 (y2_17 + 1) t12 H locs ls hF hP hD hS (lv_sub hl [1, 2, 0] rfl)
    exact hL17 m_N 0 t3 H locs ls hF hP hD hS (lv_sub hl [1, 2, 0] rfl)
  · have hF := m_neg (fun n9 => n9 c2) hF
    refine lv_iconst (v := (-1)) hx hb dX8_done_9 (by decide) ?_
    have hF := Option.some.inj hF
    subst hF
    rw [hQ]
    exact W.iret hx hb hr (fun t ht _ => ⟨⟨rfl, by rw [ht]; exact hP, hD⟩, hS.F ht⟩) hS.2.2 dX8_done_10

abbrev rmX8_book : Room := { frames := 2, cells := 0, slots := 0, locals := 43 }
set_option maxRecDepth 100000 in
set_option maxHeartbeats 400000 in
theorem c_X8_book (l : Launch) (E : mE) (a : ModelA) (v : ModelV) (x0 : Int32) (x1 : Int32) (t : (Int32 × ModelV)) (hF : fn_X8_book v x0 x1 = some t) (sz : Nat) : Met l yX8_book wsX8_book rmX8_book (mPm E [.ref (Modela_self a), .int x0, .int x1] sz ((Model_c E a v)) (([] : va_W))) (mSm E (some (.int t.1)) ((Model_c E a t.2)) (va_A ((Model_c E a v)) sz)) 0 0 (va_A ((Model_c E a v)) sz) := by
  refine mOfM (cc := cX8_book) (maxL := 3) (ret := (some .int)) (by decide) rfl (Nat.le_of_ble_eq_true rfl) ?_
  intro p e_ s m args below meth c Q A hQ CC hr hlocks hin hA hP hD hKN hGl hR0 hRA ls hl
  have hS : va_S A s.heap s.heap [] := va_S.rf
  have hK := hKN.1
  have hx := CC.1
  have hb := CC.2.1
  have hml := CC.2.2.1
  have hown : s.vm.findClass RX8 = some m.cls := CC.2.2.2.1
  have hts := CC.2.2.2.2
  have hl : lv_has ls 3 [(0, .ref (Modela_self a)), (1, .int x0), (2, .int x1)] := hl
  have k0 := hts (.fieldLink RX8 9 "OneDidAllModel" "s" "[I") (by decide +kernel)
  have k1 := (show ∀ w ∈ u_ws RX8 TX8 20, w ∈ wsX8_book by decide +kernel)
  have hP : va_P E.1 vwCl (Model_c E a v) s.heap := hP
  obtain ⟨H, hH⟩ : ∃ H, H = s.heap := ⟨_, rfl⟩
  obtain ⟨locs, hlc⟩ : ∃ z : List Loc, z = [] := ⟨_, rfl⟩
  rw [← hH] at hP
  rw [← hlc] at hS
  have hS : va_S A s.heap H locs := by rw [hH]; exact hS
  rw [← hH, ← hlc]
  unfold fn_X8_book at hF
  refine lv_iload_n hx hb dX8_book_0 rfl (lv_at hl 1 rfl) ?_
  refine lv_iconst (v := (-1)) hx hb dX8_book_1 (by decide) ?_
  refine lv_icmp_ne (tgt := 15) hx hb dX8_book_2 (by decide) (fun c1 => ?_) (fun c1 => ?_)
  · have hF := m_pos c1 hF
    refine lv_aload_n hx hb dX8_book_15 rfl (lv_at hl 0 rfl) ?_
    refine lv_iload_n hx hb dX8_book_16 rfl (lv_at hl 1 rfl) ?_
    obtain ⟨t2, ht2, hF⟩ := m_bnd hF
    refine mVP (ci := 8) (n := 1) (rest := []) (As := [.int x0]) CC hKN hGl hS (c_X8_isPupil l E a v x0 t2 ht2) gX8_book_X8_isPupil rfl ⟨rfl, rfl⟩ (by decide +kernel) ⟨Nat.le_of_ble_eq_true rfl, Nat.le_of_ble_eq_true rfl⟩ hP rfl rfl rfl rfl hl.1 rfl (Nat.le_of_ble_eq_true rfl) ⟨Nat.zero_le _, Nat.zero_le _⟩ dX8_book_17 ?_
    refine W.eq (g2 := F0 m 20 ls [.int t2]) rfl ?_
    refine lv_if_ne (tgt := 25) hx hb dX8_book_20 (by decide) (fun c3 => ?_) (fun c3 => ?_)
    · have hF := m_pos c3 hF
      refine lv_iload_n hx hb dX8_book_25 rfl (lv_at hl 2 rfl) ?_
      refine lv_iconst (v := 0) hx hb dX8_book_26 (by decide) ?_
      refine lv_sipush (v := 9999) hx hb dX8_book_27 (by decide) ?_
      obtain ⟨t4, ht4, hF⟩ := m_bnd hF
      refine mSP (n := 3) (rest := []) (As := [.int x1, .int 0, .int 9999]) CC hKN hGl hS (c_X8_in l E x1 0 9999 t4 ht4) gX8_book_X8_in rfl ⟨rfl, rfl⟩ (by decide +kernel) ⟨Nat.le_of_ble_eq_true rfl, Nat.le_of_ble_eq_true rfl⟩ m_nil rfl hl.1 rfl (Nat.le_of_ble_eq_true rfl) ⟨Nat.zero_le _, Nat.zero_le _⟩ dX8_book_30 ?_
      refine W.eq (g2 := F0 m 33 ls [.int t4]) rfl ?_
      refine lv_if_ne (tgt := 39) hx hb dX8_book_33 (by decide) (fun c5 => ?_) (fun c5 => ?_)
      · have hF := m_pos c5 hF
        refine lv_aload_n hx hb dX8_book_39 rfl (lv_at hl 0 rfl) ?_
        refine va_get (D := E.1) (ci := 8) (v := .ref (Modela_s a)) (C := RX8) (T := TX8) (N := 20) hx hb hts k1 hown hK hP 0 rfl rfl 1 (by decide) k0 (fun _ h9 => h9) rfl dX8_book_40 ?_
        refine lv_bipush (v := 24) hx hb dX8_book_43 (by decide) ?_
        obtain ⟨h6, hF⟩ := m_chk hF
        refine va_iald (f := (Model_s v)) hx hb hK hP 1 1 rfl rfl (mIn_ok h6) dX8_book_45 ?_
        refine W.eq (g2 := F0 m 46 ls [.int ((Model_s v) (24 : Int32).toNatClampNeg)]) rfl ?_
        refine lv_bipush (v := 8) hx hb dX8_book_46 (by decide) ?_
        refine lv_icmp_ne (tgt := 54) hx hb dX8_book_48 (by decide) (fun c7 => ?_) (fun c7 => ?_)
        · have hF := m_pos c7 hF
          refine lv_aload_n hx hb dX8_book_54 rfl (lv_at hl 0 rfl) ?_
          refine va_get (D := E.1) (ci := 8) (v := .ref (Modela_s a)) (C := RX8) (T := TX8) (N := 20) hx hb hts k1 hown hK hP 0 rfl rfl 1 (by decide) k0 (fun _ h9 => h9) rfl dX8_book_55 ?_
          refine lv_bipush (v := 95) hx hb dX8_book_58 (by decide) ?_
          refine lv_aload_n hx hb dX8_book_60 rfl (lv_at hl 0 rfl) ?_
          refine va_get (D := E.1) (ci := 8) (v := .ref (Modela_s a)) (C := RX8) (T := TX8) (N := 20) hx hb hts k1 hown hK hP 0 rfl rfl 1 (by decide) k0 (fun _ h9 => h9) rfl dX8_book_61 ?_
          refine lv_bipush (v := 24) hx hb dX8_book_64 (by decide) ?_
          obtain ⟨h8, hF⟩ := m_chk hF
          refine va_iald (f := (Model_s v)) hx hb hK hP 1 1 rfl rfl (mIn_ok h8) dX8_book_66 ?_
          refine W.eq (g2 := F0 m 67 ls [.int ((Model_s v) (24 : Int32).toNatClampNeg), .int 95, .ref (Modela_s a)]) rfl ?_
          refine lv_iadd hx hb dX8_book_67 ?_
          refine lv_iload_n hx hb dX8_book_68 rfl (lv_at hl 1 rfl) ?_
          obtain ⟨h9, hF⟩ := m_chk hF
          refine va_iast (f := (Model_s v)) hx hb hK hP hD hS 1 1 rfl rfl (mIn_ok h9) dX8_book_69 (fun H locs hP hD hS => ?_)
          have hP : va_P E.1 vwCl (Model_c E a (Model_s_s v (upd (Model_s v) ((95 + ((Model_s v) (24 : Int32).toNatClampNeg))).toNatClampNeg x0))) H := hP
          have hD : va_D A (Model_c E a (Model_s_s v (upd (Model_s v) ((95 + ((Model_s v) (24 : Int32).toNatClampNeg))).toNatClampNeg x0))) := hD
          refine lv_aload_n hx hb dX8_book_70 rfl (lv_at hl 0 rfl) ?_
          refine va_get (D := E.1) (ci := 8) (v := .ref (Modela_s a)) (C := RX8) (T := TX8) (N := 20) hx hb hts k1 hown hK hP 0 rfl rfl 1 (by decide) k0 (fun _ h9 => h9) rfl dX8_book_71 ?_
          refine lv_bipush (v := 103) hx hb dX8_book_74 (by decide) ?_
          refine lv_aload_n hx hb dX8_book_76 rfl (lv_at hl 0 rfl) ?_
          refine va_get (D := E.1) (ci := 8) (v := .ref (Modela_s a)) (C := RX8) (T := TX8) (N := 20) hx hb hts k1 hown hK hP 0 rfl rfl 1 (by decide) k0 (fun _ h9 => h9) rfl dX8_book_77 ?_
          refine lv_bipush (v := 24) hx hb dX8_book_80 (by decide) ?_
          obtain ⟨h10, hF⟩ := m_chk hF
          refine va_iald (f := (upd (Model_s v) ((95 + ((Model_s v) (24 : Int32).toNatClampNeg))).toNatClampNeg x0)) hx hb hK hP 1 1 rfl rfl (mIn_ok h10) dX8_book_82 ?_
          refine W.eq (g2 := F0 m 83 ls [.int ((upd (Model_s v) ((95 + ((Model_s v) (24 : Int32).toNatClampNeg))).toNatClampNeg x0) (24 : Int32).toNatClampNeg), .int 103, .ref (Modela_s a)]) rfl ?_
          refine lv_iadd hx hb dX8_book_83 ?_
          refine lv_iload_n hx hb dX8_book_84 rfl (lv_at hl 2 rfl) ?_
          obtain ⟨h11, hF⟩ := m_chk hF
          refine va_iast (f := (upd (Model_s v) ((95 + ((Model_s v) (24 : Int32).toNatClampNeg))).toNatClampNeg x0)) hx hb hK hP hD hS 1 1 rfl rfl (mIn_ok h11) dX8_book_85 (fun H locs hP hD hS => ?_)
          have hP : va_P E.1 vwCl (Model_c E a (Model_s_s v (upd (upd (Model_s v) ((95 + ((Model_s v) (24 : Int32).toNatClampNeg))).toNatClampNeg x0) ((103 + ((upd (Model_s v) ((95 + ((Model_s v) (24 : Int32).toNatClampNeg))).toNatClampNeg x0) (24 : Int32).toNatClampNeg))).toNatClampNeg x1))) H := hP
          have hD : va_D A (Model_c E a (Model_s_s v (upd (upd (Model_s v) ((95 + ((Model_s v) (24 : Int32).toNatClampNeg))).toNatClampNeg x0) ((103 + ((upd (Model_s v) ((95 + ((Model_s v) (24 : Int32).toNatClampNeg))).toNatClampNeg x0) (24 : Int32).toNatClampNeg))).toNatClampNeg x1))) := hD
          refine lv_aload_n hx hb dX8_book_86 rfl (lv_at hl 0 rfl) ?_
          refine va_get (D := E.1) (ci := 8) (v := .ref (Modela_s a)) (C := RX8) (T := TX8) (N := 20) hx hb hts k1 hown hK hP 0 rfl rfl 1 (by decide) k0 (fun _ h9 => h9) rfl dX8_book_87 ?_
          refine lv_bipush (v := 24) hx hb dX8_book_90 (by decide) ?_
          refine lv_dup2_11 hx hb dX8_book_92 rfl rfl ?_
          obtain ⟨h12, hF⟩ := m_chk hF
          refine va_iald (f := (upd (upd (Model_s v) ((95 + ((Model_s v) (24 : Int32).toNatClampNeg))).toNatClampNeg x0) ((103 + ((upd (Model_s v) ((95 + ((Model_s v) (24 : Int32).toNatClampNeg))).toNatClampNeg x0) (24 : Int32).toNatClampNeg))).toNatClampNeg x1)) hx hb hK hP 1 1 rfl rfl (mIn_ok h12) dX8_book_93 ?_
          refine W.eq (g2 := F0 m 94 ls [.int ((upd (upd (Model_s v) ((95 + ((Model_s v) (24 : Int32).toNatClampNeg))).toNatClampNeg x0) ((103 + ((upd (Model_s v) ((95 + ((Model_s v) (24 : Int32).toNatClampNeg))).toNatClampNeg x0) (24 : Int32).toNatClampNeg))).toNatClampNeg x1) (24 : Int32).toNatClampNeg), .int 24, .ref (Modela_s a)]) rfl ?_
          refine lv_iconst (v := 1) hx hb dX8_book_94 (by decide) ?_
          refine lv_iadd hx hb dX8_book_95 ?_
          obtain ⟨h13, hF⟩ := m_chk hF
          refine va_iast (f := (upd (upd (Model_s v) ((95 + ((Model_s v) (24 : Int32).toNatClampNeg))).toNatClampNeg x0) ((103 + ((upd (Model_s v) ((95 + ((Model_s v) (24 : Int32).toNatClampNeg))).toNatClampNeg x0) (24 : Int32).toNatClampNeg))).toNatClampNeg x1)) hx hb hK hP hD hS 1 1 rfl rfl (mIn_ok h13) dX8_book_96 (fun H locs hP hD hS => ?_)
          have hP : va_P E.1 vwCl (Model_c E a (Model_s_s v (upd (upd (upd (Model_s v) ((95 + ((Model_s v) (24 : Int32).toNatClampNeg))).toNatClampNeg x0) ((103 + ((upd (Model_s v) ((95 + ((Model_s v) (24 : Int32).toNatClampNeg))).toNatClampNeg x0) (24 : Int32).toNatClampNeg))).toNatClampNeg x1) (24 : Int32).toNatClampNeg (((upd (upd (Model_s v) ((95 + ((Model_s v) (24 : Int32).toNatClampNeg))).toNatClampNeg x0) ((103 + ((upd (Model_s v) ((95 + ((Model_s v) (24 : Int32).toNatClampNeg))).toNatClampNeg x0) (24 : Int32).toNatClampNeg))).toNatClampNeg x1) (24 : Int32).toNatClampNeg) + 1)))) H := hP
          have hD : va_D A (Model_c E a (Model_s_s v (upd (upd (upd (Model_s v) ((95 + ((Model_s v) (24 : Int32).toNatClampNeg))).toNatClampNeg x0) ((103 + ((upd (Model_s v) ((95 + ((Model_s v) (24 : Int32).toNatClampNeg))).toNatClampNeg x0) (24 : Int32).toNatClampNeg))).toNatClampNeg x1) (24 : Int32).toNatClampNeg (((upd (upd (Model_s v) ((95 + ((Model_s v) (24 : Int32).toNatClampNeg))).toNatClampNeg x0) ((103 + ((upd (Model_s v) ((95 + ((Model_s v) (24 : Int32).toNatClampNeg))).toNatClampNeg x0) (24 : Int32).toNatClampNeg))).toNatClampNeg x1) (24 : Int32).toNatClampNeg) + 1)))) := hD
          refine lv_aload_n hx hb dX8_book_97 rfl (lv_at hl 0 rfl) ?_
          refine va_get (D := E.1) (ci := 8) (v := .ref (Modela_s a)) (C := RX8) (T := TX8) (N := 20) hx hb hts k1 hown hK hP 0 rfl rfl 1 (by decide) k0 (fun _ h9 => h9) rfl dX8_book_98 ?_
          refine lv_bipush (v := 24) hx hb dX8_book_101 (by decide) ?_
          obtain ⟨h14, hF⟩ := m_chk hF
          refine va_iald (f := (upd (upd (upd (Model_s v) ((95 + ((Model_s v) (24 : Int32).toNatClampNeg))).toNatClampNeg x0) ((103 + ((upd (Model_s v) ((95 + ((Model_s v) (24 : Int32).toNatClampNeg))).toNatClampNeg x0) (24 : Int32).toNatClampNeg))).toNatClampNeg x1) (24 : Int32).toNatClampNeg (((upd (upd (Model_s v) ((95 + ((Model_s v) (24 : Int32).toNatClampNeg))).toNatClampNeg x0) ((103 + ((upd (Model_s v) ((95 + ((Model_s v) (24 : Int32).toNatClampNeg))).toNatClampNeg x0) (24 : Int32).toNatClampNeg))).toNatClampNeg x1) (24 : Int32).toNatClampNeg) + 1))) hx hb hK hP 1 1 rfl rfl (mIn_ok h14) dX8_book_103 ?_
          refine W.eq (g2 := F0 m 104 ls [.int ((upd (upd (upd (Model_s v) ((95 + ((Model_s v) (24 : Int32).toNatClampNeg))).toNatClampNeg x0) ((103 + ((upd (Model_s v) ((95 + ((Model_s v) (24 : Int32).toNatClampNeg))).toNatClampNeg x0) (24 : Int32).toNatClampNeg))).toNatClampNeg x1) (24 : Int32).toNatClampNeg (((upd (upd (Model_s v) ((95 + ((Model_s v) (24 : Int32).toNatClampNeg))).toNatClampNeg x0) ((103 + ((upd (Model_s v) ((95 + ((Model_s v) (24 : Int32).toNatClampNeg))).toNatClampNeg x0) (24 : Int32).toNatClampNeg))).toNatClampNeg x1) (24 : Int32).toNatClampNeg) + 1)) (24 : Int32).toNatClampNeg)]) rfl ?_
          have hF := Option.some.inj hF
          subst hF
          rw [hQ]
          exact W.iret hx hb hr (fun t ht _ => ⟨⟨rfl, by rw [ht]; exact hP, hD⟩, hS.F ht⟩) hS.2.2 dX8_book_104
        · have hF := m_neg (fun n9 => n9 c7) hF
          refine lv_bipush (v := (-4)) hx hb dX8_book_51 (by decide) ?_
          have hF := Option.some.inj hF
          subst hF
          rw [hQ]
          exact W.iret hx hb hr (fun t ht _ => ⟨⟨rfl, by rw [ht]; exact hP, hD⟩, hS.F ht⟩) hS.2.2 dX8_book_53
      · have hF := m_neg (fun n9 => n9 c5) hF
        refine lv_bipush (v := (-2)) hx hb dX8_book_36 (by decide) ?_
        have hF := Option.some.inj hF
        subst hF
        rw [hQ]
        exact W.iret hx hb hr (fun t ht _ => ⟨⟨rfl, by rw [ht]; exact hP, hD⟩, hS.F ht⟩) hS.2.2 dX8_book_38
    · have hF := m_neg (fun n9 => n9 c3) hF
      refine lv_iconst (v := (-1)) hx hb dX8_book_23 (by decide) ?_
      have hF := Option.some.inj hF
      subst hF
      rw [hQ]
      exact W.iret hx hb hr (fun t ht _ => ⟨⟨rfl, by rw [ht]; exact hP, hD⟩, hS.F ht⟩) hS.2.2 dX8_book_24
  · have hF := m_neg (fun n9 => n9 c1) hF
    refine lv_aload_n hx hb dX8_book_5 rfl (lv_at hl 0 rfl) ?_
    refine va_get (D := E.1) (ci := 8) (v := .ref (Modela_s a)) (C := RX8) (T := TX8) (N := 20) hx hb hts k1 hown hK hP 0 rfl rfl 1 (by decide) k0 (fun _ h9 => h9) rfl dX8_book_6 ?_
    refine lv_bipush (v := 24) hx hb dX8_book_9 (by decide) ?_
    refine lv_iconst (v := 0) hx hb dX8_book_11 (by decide) ?_
    obtain ⟨h15, hF⟩ := m_chk hF
    refine va_iast (f := (Model_s v)) hx hb hK hP hD hS 1 1 rfl rfl (mIn_ok h15) dX8_book_12 (fun H locs hP hD hS => ?_)
    have hP : va_P E.1 vwCl (Model_c E a (Model_s_s v (upd (Model_s v) (24 : Int32).toNatClampNeg 0))) H := hP
    have hD : va_D A (Model_c E a (Model_s_s v (upd (Model_s v) (24 : Int32).toNatClampNeg 0))) := hD
    refine lv_iconst (v := 0) hx hb dX8_book_13 (by decide) ?_
    have hF := Option.some.inj hF
    subst hF
    rw [hQ]
    exact W.iret hx hb hr (fun t ht _ => ⟨⟨rfl, by rw [ht]; exact hP, hD⟩, hS.F ht⟩) hS.2.2 dX8_book_14

abbrev rmX8_looked : Room := { frames := 0, cells := 0, slots := 0, locals := 0 }
set_option maxRecDepth 100000 in
set_option maxHeartbeats 400000 in
theorem c_X8_looked (l : Launch) (E : mE) (a : ModelA) (v : ModelV) (t : Int32) (hF : fn_X8_looked v = some t) : Met l yX8_looked wsX8_looked rmX8_looked (mPp E [.ref (Modela_self a)] (Model_c E a v)) (mSp (some (.int t))) 0 0 (fun _ => False) := by
  refine mOfP (cc := cX8_looked) (maxL := 2) (ret := (some .int)) (by decide) rfl (Nat.le_of_ble_eq_true rfl) ?_
  intro p e_ s m args below meth c Q hQ CC hr hlocks hP hKN hGl ls hl
  have hS : va_S (fun _ => False) s.heap s.heap [] := va_S.rf
  have hK := hKN.1
  have hx := CC.1
  have hb := CC.2.1
  have hml := CC.2.2.1
  have hown : s.vm.findClass RX8 = some m.cls := CC.2.2.2.1
  have hts := CC.2.2.2.2
  have hl : lv_has ls 2 [(0, .ref (Modela_self a))] := hl
  have k0 := hts (.fieldLink RX8 9 "OneDidAllModel" "s" "[I") (by decide +kernel)
  have k1 := (show ∀ w ∈ u_ws RX8 TX8 20, w ∈ wsX8_looked by decide +kernel)
  unfold fn_X8_looked at hF
  refine lv_iconst (v := 0) hx hb dX8_looked_0 (by decide) ?_
  refine lv_istore_n (lv' := [(1, .int 0), (0, .ref (Modela_self a))]) hx hb dX8_looked_1 rfl hl (by decide) rfl (fun ls hl => ?_)
  have hL2 : ∀ (n : Nat) (y1_2 : Int32) (ls : Array Slot), lp_X8_looked_2 v n y1_2 = some t → lv_has ls 2 [(0, .ref (Modela_self a)), (1, .int y1_2)] → W p l e_ rmX8_looked s m args below meth c s.heap [] 0 0 Q (F0 m 2 ls []) := by
    intro n
    induction n with
    | zero =>
      intro y1_2 ls hF
      exact nomatch (show (none : Option Int32) = some t from hF)
    | succ n ih2 =>
      intro y1_2 ls hF hl
      have hF : st_X8_looked_2 v (lp_X8_looked_2 v n) y1_2 = some t := hF
      unfold st_X8_looked_2 at hF
      refine lv_iload_n hx hb dX8_looked_2 rfl (lv_at hl 1 rfl) ?_
      refine lv_aload_n hx hb dX8_looked_3 rfl (lv_at hl 0 rfl) ?_
      refine va_get (D := E.1) (ci := 8) (v := .ref (Modela_s a)) (C := RX8) (T := TX8) (N := 20) hx hb hts k1 hown hK hP 0 rfl rfl 1 (by decide) k0 (fun _ h9 => h9) rfl dX8_looked_4 ?_
      refine lv_bipush (v := 24) hx hb dX8_looked_7 (by decide) ?_
      obtain ⟨h1, hF⟩ := m_chk hF
      refine va_iald (f := (Model_s v)) hx hb hK hP 1 1 rfl rfl (mIn_ok h1) dX8_looked_9 ?_
      refine W.eq (g2 := F0 m 10 ls [.int ((Model_s v) (24 : Int32).toNatClampNeg), .int y1_2]) rfl ?_
      refine lv_icmp_ge (tgt := 49) hx hb dX8_looked_10 (by decide) (fun c2 => ?_) (fun c2 => ?_)
      · have hF := m_pos c2 hF
        refine lv_bipush (v := (-5)) hx hb dX8_looked_49 (by decide) ?_
        have hF := Option.some.inj hF
        subst hF
        rw [hQ]
        exact W.iret hx hb hr (fun t ht _ => ⟨rfl, ht⟩) (fun _ h => by cases h) dX8_looked_51
      · have hF := m_neg c2 hF
        refine lv_aload_n hx hb dX8_looked_13 rfl (lv_at hl 0 rfl) ?_
        refine va_get (D := E.1) (ci := 8) (v := .ref (Modela_s a)) (C := RX8) (T := TX8) (N := 20) hx hb hts k1 hown hK hP 0 rfl rfl 1 (by decide) k0 (fun _ h9 => h9) rfl dX8_looked_14 ?_
        refine lv_iconst (v := 2) hx hb dX8_looked_17 (by decide) ?_
        refine lv_aload_n hx hb dX8_looked_18 rfl (lv_at hl 0 rfl) ?_
        refine va_get (D := E.1) (ci := 8) (v := .ref (Modela_s a)) (C := RX8) (T := TX8) (N := 20) hx hb hts k1 hown hK hP 0 rfl rfl 1 (by decide) k0 (fun _ h9 => h9) rfl dX8_looked_19 ?_
        refine lv_bipush (v := 95) hx hb dX8_looked_22 (by decide) ?_
        refine lv_iload_n hx hb dX8_looked_24 rfl (lv_at hl 1 rfl) ?_
        refine lv_iadd hx hb dX8_looked_25 ?_
        obtain ⟨h3, hF⟩ := m_chk hF
        refine va_iald (f := (Model_s v)) hx hb hK hP 1 1 rfl rfl (mIn_ok h3) dX8_looked_26 ?_
        refine W.eq (g2 := F0 m 27 ls [.int ((Model_s v) ((95 + y1_2)).toNatClampNeg), .int 2, .ref (Modela_s a)]) rfl ?_
        refine lv_iadd hx hb dX8_looked_27 ?_
        obtain ⟨h4, hF⟩ := m_chk hF
        refine va_iald (f := (Model_s v)) hx hb hK hP 1 1 rfl rfl (mIn_ok h4) dX8_looked_28 ?_
        refine W.eq (g2 := F0 m 29 ls [.int ((Model_s v) ((2 + ((Model_s v) ((95 + y1_2)).toNatClampNeg))).toNatClampNeg)]) rfl ?_
        refine lv_aload_n hx hb dX8_looked_29 rfl (lv_at hl 0 rfl) ?_
        refine va_get (D := E.1) (ci := 8) (v := .ref (Modela_s a)) (C := RX8) (T := TX8) (N := 20) hx hb hts k1 hown hK hP 0 rfl rfl 1 (by decide) k0 (fun _ h9 => h9) rfl dX8_looked_30 ?_
        refine lv_bipush (v := 103) hx hb dX8_looked_33 (by decide) ?_
        refine lv_iload_n hx hb dX8_looked_35 rfl (lv_at hl 1 rfl) ?_
        refine lv_iadd hx hb dX8_looked_36 ?_
        obtain ⟨h5, hF⟩ := m_chk hF
        refine va_iald (f := (Model_s v)) hx hb hK hP 1 1 rfl rfl (mIn_ok h5) dX8_looked_37 ?_
        refine W.eq (g2 := F0 m 38 ls [.int ((Model_s v) ((103 + y1_2)).toNatClampNeg), .int ((Model_s v) ((2 + ((Model_s v) ((95 + y1_2)).toNatClampNeg))).toNatClampNeg)]) rfl ?_
        refine lv_icmp_eq (tgt := 43) hx hb dX8_looked_38 (by decide) (fun c6 => ?_) (fun c6 => ?_)
        · have hF := m_pos c6 hF
          refine lv_iinc (v := (y1_2 + 1)) (lv' := [(1, .int (y1_2 + 1)), (0, .ref (Modela_self a))]) hx hb dX8_looked_43 hl (k := 1) rfl rfl (by decide) rfl (fun ls hl => ?_)
          refine lv_goto (tgt := 2) hx hb dX8_looked_46 (by decide) ?_
          exact ih2 (y1_2 + 1) ls hF (lv_sub hl [1, 0] rfl)
        · have hF := m_neg c6 hF
          refine lv_iload_n hx hb dX8_looked_41 rfl (lv_at hl 1 rfl) ?_
          have hF := Option.some.inj hF
          subst hF
          rw [hQ]
          exact W.iret hx hb hr (fun t ht _ => ⟨rfl, ht⟩) (fun _ h => by cases h) dX8_looked_42
  exact hL2 m_N 0 ls hF (lv_sub hl [1, 0] rfl)

abbrev rmX8_ranBody : Room := { frames := 0, cells := 0, slots := 0, locals := 0 }
set_option maxRecDepth 100000 in
set_option maxHeartbeats 400000 in
theorem c_X8_ranBody (l : Launch) (E : mE) (a : ModelA) (v : ModelV) (x0 : Int32) (t : ModelV) (hF : fn_X8_ranBody v x0 = some t) (sz : Nat) : Met l yX8_ranBody wsX8_ranBody rmX8_ranBody (mPm E [.ref (Modela_self a), .int x0] sz ((Model_c E a v)) (([] : va_W))) (mSm E (none) ((Model_c E a t)) (va_A ((Model_c E a v)) sz)) 0 0 (va_A ((Model_c E a v)) sz) := by
  refine mOfM (cc := cX8_ranBody) (maxL := 2) (ret := none) (by decide) rfl (Nat.le_of_ble_eq_true rfl) ?_
  intro p e_ s m args below meth c Q A hQ CC hr hlocks hin hA hP hD hKN hGl hR0 hRA ls hl
  have hS : va_S A s.heap s.heap [] := va_S.rf
  have hK := hKN.1
  have hx := CC.1
  have hb := CC.2.1
  have hml := CC.2.2.1
  have hown : s.vm.findClass RX8 = some m.cls := CC.2.2.2.1
  have hts := CC.2.2.2.2
  have hl : lv_has ls 2 [(0, .ref (Modela_self a)), (1, .int x0)] := hl
  have k0 := hts (.fieldLink RX8 253 "OneDidAllModel" "ran" "I") (by decide +kernel)
  have k1 := (show ∀ w ∈ u_ws RX8 TX8 20, w ∈ wsX8_ranBody by decide +kernel)
  have k2 := hts (.fieldLink RX8 31 "OneDidAllModel" "bodies" "[I") (by decide +kernel)
  have hP : va_P E.1 vwCl (Model_c E a v) s.heap := hP
  obtain ⟨H, hH⟩ : ∃ H, H = s.heap := ⟨_, rfl⟩
  obtain ⟨locs, hlc⟩ : ∃ z : List Loc, z = [] := ⟨_, rfl⟩
  rw [← hH] at hP
  rw [← hlc] at hS
  have hS : va_S A s.heap H locs := by rw [hH]; exact hS
  rw [← hH, ← hlc]
  unfold fn_X8_ranBody at hF
  refine lv_aload_n hx hb dX8_ranBody_0 rfl (lv_at hl 0 rfl) ?_
  refine va_get (D := E.1) (ci := 8) (v := .int (Model_ran v)) (C := RX8) (T := TX8) (N := 20) hx hb hts k1 hown hK hP 0 rfl rfl 16 (by decide) k0 (fun _ h9 => h9) rfl dX8_ranBody_1 ?_
  refine lv_bipush (v := 20) hx hb dX8_ranBody_4 (by decide) ?_
  obtain ⟨j19, hjd19, hF⟩ := m_jp hF
  have hj19 : ∀ (wx_19 : ModelV) (H : Heap) (locs : List Loc) (ls : Array Slot), j19 wx_19 = some t → va_P E.1 vwCl (Model_c E a wx_19) H → va_D A (Model_c E a wx_19) → va_S A s.heap H locs → lv_has ls 2 [(0, .ref (Modela_self a))] → W p l e_ rmX8_ranBody s m args below meth c H locs 0 0 Q (F0 m 19 ls []) := by
    intro wx_19 H locs ls hF hP hD hS hl
    rw [hjd19] at hF
    refine lv_aload_n hx hb dX8_ranBody_19 rfl (lv_at hl 0 rfl) ?_
    refine lv_dup hx hb dX8_ranBody_20 rfl ?_
    refine va_get (D := E.1) (ci := 8) (v := .int (Model_ran wx_19)) (C := RX8) (T := TX8) (N := 20) hx hb hts k1 hown hK hP 0 rfl rfl 16 (by decide) k0 (fun _ h9 => h9) rfl dX8_ranBody_21 ?_
    refine lv_iconst (v := 1) hx hb dX8_ranBody_24 (by decide) ?_
    refine lv_iadd hx hb dX8_ranBody_25 ?_
    refine va_put (D := E.1) (ci := 8) (v := .int ((Model_ran wx_19) + 1)) (ty := .int) (C := RX8) (T := TX8) (N := 20) hx hb hts k1 tyX8 tyX8_ok nmX8 hown hK hP hD hS 0 rfl rfl 16 (by decide) k0 (fun _ h9 => h9) rfl (by decide +kernel) rfl rfl (Nat.le_of_ble_eq_true rfl) dX8_ranBody_26 (fun H locs hP hD hS => ?_)
    have hP : va_P E.1 vwCl (Model_c E a (Model_ran_s wx_19 ((Model_ran wx_19) + 1))) H := hP
    have hD : va_D A (Model_c E a (Model_ran_s wx_19 ((Model_ran wx_19) + 1))) := hD
    have hF := Option.some.inj hF
    subst hF
    rw [hQ]
    exact W.vret hx hb hr (fun t ht _ => ⟨⟨rfl, by rw [ht]; exact hP, hD⟩, hS.F ht⟩) hS.2.2 dX8_ranBody_29
  clear hjd19
  refine lv_icmp_ge (tgt := 19) hx hb dX8_ranBody_6 (by decide) (fun c1 => ?_) (fun c1 => ?_)
  · have hF := m_pos c1 hF
    exact hj19 v H locs ls hF hP hD hS (lv_sub hl [0] rfl)
  · have hF := m_neg c1 hF
    refine lv_aload_n hx hb dX8_ranBody_9 rfl (lv_at hl 0 rfl) ?_
    refine va_get (D := E.1) (ci := 8) (v := .ref (Modela_bodies a)) (C := RX8) (T := TX8) (N := 20) hx hb hts k1 hown hK hP 0 rfl rfl 15 (by decide) k2 (fun _ h9 => h9) rfl dX8_ranBody_10 ?_
    refine lv_aload_n hx hb dX8_ranBody_13 rfl (lv_at hl 0 rfl) ?_
    refine va_get (D := E.1) (ci := 8) (v := .int (Model_ran v)) (C := RX8) (T := TX8) (N := 20) hx hb hts k1 hown hK hP 0 rfl rfl 16 (by decide) k0 (fun _ h9 => h9) rfl dX8_ranBody_14 ?_
    refine lv_iload_n hx hb dX8_ranBody_17 rfl (lv_at hl 1 rfl) ?_
    obtain ⟨h2, hF⟩ := m_chk hF
    refine va_iast (f := (Model_bodies v)) hx hb hK hP hD hS 7 1 rfl rfl (mIn_ok h2) dX8_ranBody_18 (fun H locs hP hD hS => ?_)
    have hP : va_P E.1 vwCl (Model_c E a (Model_bodies_s v (upd (Model_bodies v) ((Model_ran v)).toNatClampNeg x0))) H := hP
    have hD : va_D A (Model_c E a (Model_bodies_s v (upd (Model_bodies v) ((Model_ran v)).toNatClampNeg x0))) := hD
    exact hj19 (Model_bodies_s v (upd (Model_bodies v) ((Model_ran v)).toNatClampNeg x0)) H locs ls hF hP hD hS (lv_sub hl [0] rfl)

abbrev rmX8_isUnder : Room := { frames := 0, cells := 0, slots := 0, locals := 0 }
set_option maxRecDepth 100000 in
set_option maxHeartbeats 400000 in
theorem c_X8_isUnder (l : Launch) (E : mE) (x0 : Int32) (x1 : Int32) (t : Int32) (hF : fn_X8_isUnder x0 x1 = some t) : Met l yX8_isUnder wsX8_isUnder rmX8_isUnder (mPp E [.int x0, .int x1] ([] : va_W)) (mSp (some (.int t))) 0 0 (fun _ => False) := by
  refine mOfP (cc := cX8_isUnder) (maxL := 2) (ret := (some .boolean)) (by decide) rfl (Nat.le_of_ble_eq_true rfl) ?_
  intro p e_ s m args below meth c Q hQ CC hr hlocks hP hKN hGl ls hl
  have hS : va_S (fun _ => False) s.heap s.heap [] := va_S.rf
  have hK := hKN.1
  have hx := CC.1
  have hb := CC.2.1
  have hml := CC.2.2.1
  have hown : s.vm.findClass RX8 = some m.cls := CC.2.2.2.1
  have hts := CC.2.2.2.2
  have hl : lv_has ls 2 [(0, .int x0), (1, .int x1)] := hl
  unfold fn_X8_isUnder at hF
  refine lv_iload_n hx hb dX8_isUnder_0 rfl (lv_at hl 1 rfl) ?_
  obtain ⟨j25, hjd25, hF⟩ := m_jp hF
  have hj25 : ∀ (ls : Array Slot), j25 () = some t → lv_has ls 2 [] → W p l e_ rmX8_isUnder s m args below meth c s.heap [] 0 0 Q (F0 m 25 ls []) := by
    intro ls hF hl
    rw [hjd25] at hF
    refine lv_iconst (v := 1) hx hb dX8_isUnder_25 (by decide) ?_
    refine lv_goto (tgt := 30) hx hb dX8_isUnder_26 (by decide) ?_
    have hF := Option.some.inj hF
    subst hF
    rw [hQ]
    exact W.zret hx hb hr rfl (fun t ht _ => ⟨rfl, ht⟩) (fun _ h => by cases h) dX8_isUnder_30
  clear hjd25
  refine lv_if_eq (tgt := 25) hx hb dX8_isUnder_1 (by decide) (fun c1 => ?_) (fun c1 => ?_)
  · have hF := m_pos c1 hF
    exact hj25 ls hF (lv_sub hl [] rfl)
  · have hF := m_neg c1 hF
    refine lv_iload_n hx hb dX8_isUnder_4 rfl (lv_at hl 1 rfl) ?_
    refine lv_iload_n hx hb dX8_isUnder_5 rfl (lv_at hl 0 rfl) ?_
    refine lv_icmp_eq (tgt := 25) hx hb dX8_isUnder_6 (by decide) (fun c2 => ?_) (fun c2 => ?_)
    · have hF := m_pos c2 hF
      exact hj25 ls hF (lv_sub hl [] rfl)
    · have hF := m_neg c2 hF
      refine lv_iload_n hx hb dX8_isUnder_9 rfl (lv_at hl 1 rfl) ?_
      refine lv_if_le (tgt := 29) hx hb dX8_isUnder_10 (by decide) (fun c3 => ?_) (fun c3 => ?_)
      · have hF := m_pos c3 hF
        refine lv_iconst (v := 0) hx hb dX8_isUnder_29 (by decide) ?_
        have hF := Option.some.inj hF
        subst hF
        rw [hQ]
        exact W.zret hx hb hr rfl (fun t ht _ => ⟨rfl, ht⟩) (fun _ h => by cases h) dX8_isUnder_30
      · have hF := m_neg c3 hF
        refine lv_iload_n hx hb dX8_isUnder_13 rfl (lv_at hl 1 rfl) ?_
        refine lv_iconst (v := 4) hx hb dX8_isUnder_14 (by decide) ?_
        refine lv_icmp_ge (tgt := 29) hx hb dX8_isUnder_15 (by decide) (fun c4 => ?_) (fun c4 => ?_)
        · have hF := m_pos c4 hF
          refine lv_iconst (v := 0) hx hb dX8_isUnder_29 (by decide) ?_
          have hF := Option.some.inj hF
          subst hF
          rw [hQ]
          exact W.zret hx hb hr rfl (fun t ht _ => ⟨rfl, ht⟩) (fun _ h => by cases h) dX8_isUnder_30
        · have hF := m_neg c4 hF
          refine lv_iload_n hx hb dX8_isUnder_18 rfl (lv_at hl 0 rfl) ?_
          refine lv_iload_n hx hb dX8_isUnder_19 rfl (lv_at hl 1 rfl) ?_
          refine lv_iconst (v := 3) hx hb dX8_isUnder_20 (by decide) ?_
          refine lv_iadd hx hb dX8_isUnder_21 ?_
          refine lv_icmp_ne (tgt := 29) hx hb dX8_isUnder_22 (by decide) (fun c5 => ?_) (fun c5 => ?_)
          · have hF := m_pos c5 hF
            refine lv_iconst (v := 0) hx hb dX8_isUnder_29 (by decide) ?_
            have hF := Option.some.inj hF
            subst hF
            rw [hQ]
            exact W.zret hx hb hr rfl (fun t ht _ => ⟨rfl, ht⟩) (fun _ h => by cases h) dX8_isUnder_30
          · have hF := m_neg (fun n9 => n9 c5) hF
            exact hj25 ls hF (lv_sub hl [] rfl)

abbrev rmX8_plainThinks : Room := { frames := 1, cells := 0, slots := 0, locals := 21 }
set_option maxRecDepth 100000 in
set_option maxHeartbeats 400000 in
theorem c_X8_plainThinks (l : Launch) (E : mE) (a : ModelA) (v : ModelV) (x0 : Int32) (t : (Int32 × ModelV)) (hF : fn_X8_plainThinks v x0 = some t) (sz : Nat) : Met l yX8_plainThinks wsX8_plainThinks rmX8_plainThinks (mPm E [.ref (Modela_self a), .int x0] sz ((Model_c E a v)) (([] : va_W))) (mSm E (some (.int t.1)) ((Model_c E a t.2)) (va_A ((Model_c E a v)) sz)) 0 0 (va_A ((Model_c E a v)) sz) := by
  refine mOfM (cc := cX8_plainThinks) (maxL := 2) (ret := (some .int)) (by decide) rfl (Nat.le_of_ble_eq_true rfl) ?_
  intro p e_ s m args below meth c Q A hQ CC hr hlocks hin hA hP hD hKN hGl hR0 hRA ls hl
  have hS : va_S A s.heap s.heap [] := va_S.rf
  have hK := hKN.1
  have hx := CC.1
  have hb := CC.2.1
  have hml := CC.2.2.1
  have hown : s.vm.findClass RX8 = some m.cls := CC.2.2.2.1
  have hts := CC.2.2.2.2
  have hl : lv_has ls 2 [(0, .ref (Modela_self a)), (1, .int x0)] := hl
  have k0 := hts (.fieldLink RX8 259 "OneDidAllModel" "number" "I") (by decide +kernel)
  have k1 := (show ∀ w ∈ u_ws RX8 TX8 20, w ∈ wsX8_plainThinks by decide +kernel)
  have hP : va_P E.1 vwCl (Model_c E a v) s.heap := hP
  obtain ⟨H, hH⟩ : ∃ H, H = s.heap := ⟨_, rfl⟩
  obtain ⟨locs, hlc⟩ : ∃ z : List Loc, z = [] := ⟨_, rfl⟩
  rw [← hH] at hP
  rw [← hlc] at hS
  have hS : va_S A s.heap H locs := by rw [hH]; exact hS
  rw [← hH, ← hlc]
  unfold fn_X8_plainThinks at hF
  refine lv_aload_n hx hb dX8_plainThinks_0 rfl (lv_at hl 0 rfl) ?_
  refine lv_iconst (v := 1) hx hb dX8_plainThinks_1 (by decide) ?_
  obtain ⟨t1, ht1, hF⟩ := m_bnd hF
  have hPc := hP
  have hDc := hD
  have hFc := va_free (wc := (Model_c E a v)) hD hS hA [0, 1, 2, 3, 4, 5, 6, 7] rfl
  refine mVM (ci := 8) (n := 1) (rest := []) (As := [.int 1]) CC hKN hGl (c_X8_ranBody l E a v 1 t1 ht1 _) gX8_plainThinks_X8_ranBody rfl ⟨rfl, rfl⟩ (by decide +kernel) ⟨Nat.le_of_ble_eq_true rfl, Nat.le_of_ble_eq_true rfl⟩ hPc hDc m_nil m_nilA hS hFc rfl rfl rfl rfl hl.1 rfl (Nat.le_of_ble_eq_true rfl) ⟨Nat.zero_le _, Nat.zero_le _⟩ dX8_plainThinks_2 (fun H1 locs hP1 hD1 hz1 hk1 hS => ?_)
  have hP : va_P E.1 vwCl (Model_c E a t1) H1 := hP1
  have hD : va_D A (Model_c E a t1) := m_back hD1 hFc
  generalize H1 = H at hP hS ⊢
  refine W.eq (g2 := F0 m 5 ls []) rfl ?_
  refine lv_iload_n hx hb dX8_plainThinks_5 rfl (lv_at hl 1 rfl) ?_
  refine lv_aload_n hx hb dX8_plainThinks_6 rfl (lv_at hl 0 rfl) ?_
  refine va_get (D := E.1) (ci := 8) (v := .int (Model_number t1)) (C := RX8) (T := TX8) (N := 20) hx hb hts k1 hown hK hP 0 rfl rfl 18 (by decide) k0 (fun _ h9 => h9) rfl dX8_plainThinks_7 ?_
  refine lv_iadd hx hb dX8_plainThinks_10 ?_
  have hF := Option.some.inj hF
  subst hF
  rw [hQ]
  exact W.iret hx hb hr (fun t ht _ => ⟨⟨rfl, by rw [ht]; exact hP, hD⟩, hS.F ht⟩) hS.2.2 dX8_plainThinks_11

abbrev rmX8_thinksActs : Room := { frames := 2, cells := 0, slots := 0, locals := 42 }
set_option maxRecDepth 100000 in
set_option maxHeartbeats 400000 in
theorem c_X8_thinksActs (l : Launch) (E : mE) (a : ModelA) (v : ModelV) (x0 : Int32) (t : (Int32 × ModelV)) (hF : fn_X8_thinksActs v x0 = some t) (sz : Nat) : Met l yX8_thinksActs wsX8_thinksActs rmX8_thinksActs (mPm E [.ref (Modela_self a), .int x0] sz ((Model_c E a v)) (([] : va_W))) (mSm E (some (.int t.1)) ((Model_c E a t.2)) (va_A ((Model_c E a v)) sz)) 0 0 (va_A ((Model_c E a v)) sz) := by
  refine mOfM (cc := cX8_thinksActs) (maxL := 2) (ret := (some .int)) (by decide) rfl (Nat.le_of_ble_eq_true rfl) ?_
  intro p e_ s m args below meth c Q A hQ CC hr hlocks hin hA hP hD hKN hGl hR0 hRA ls hl
  have hS : va_S A s.heap s.heap [] := va_S.rf
  have hK := hKN.1
  have hx := CC.1
  have hb := CC.2.1
  have hml := CC.2.2.1
  have hown : s.vm.findClass RX8 = some m.cls := CC.2.2.2.1
  have hts := CC.2.2.2.2
  have hl : lv_has ls 2 [(0, .ref (Modela_self a)), (1, .int x0)] := hl
  have k0 := hts (.fieldLink RX8 262 "OneDidAllModel" "kind" "I") (by decide +kernel)
  have k1 := (show ∀ w ∈ u_ws RX8 TX8 20, w ∈ wsX8_thinksActs by decide +kernel)
  have k2 := hts (.fieldLink RX8 259 "OneDidAllModel" "number" "I") (by decide +kernel)
  have hP : va_P E.1 vwCl (Model_c E a v) s.heap := hP
  obtain ⟨H, hH⟩ : ∃ H, H = s.heap := ⟨_, rfl⟩
  obtain ⟨locs, hlc⟩ : ∃ z : List Loc, z = [] := ⟨_, rfl⟩
  rw [← hH] at hP
  rw [← hlc] at hS
  have hS : va_S A s.heap H locs := by rw [hH]; exact hS
  rw [← hH, ← hlc]
  unfold fn_X8_thinksActs at hF
  refine lv_aload_n hx hb dX8_thinksActs_0 rfl (lv_at hl 0 rfl) ?_
  refine va_get (D := E.1) (ci := 8) (v := .int (Model_kind v)) (C := RX8) (T := TX8) (N := 20) hx hb hts k1 hown hK hP 0 rfl rfl 17 (by decide) k0 (fun _ h9 => h9) rfl dX8_thinksActs_1 ?_
  refine lv_iconst (v := 1) hx hb dX8_thinksActs_4 (by decide) ?_
  obtain ⟨t1, ht1, hF⟩ := m_bnd hF
  refine mSP (n := 2) (rest := []) (As := [.int (Model_kind v), .int 1]) CC hKN hGl hS (c_X8_isUnder l E (Model_kind v) 1 t1 ht1) gX8_thinksActs_X8_isUnder rfl ⟨rfl, rfl⟩ (by decide +kernel) ⟨Nat.le_of_ble_eq_true rfl, Nat.le_of_ble_eq_true rfl⟩ m_nil rfl hl.1 rfl (Nat.le_of_ble_eq_true rfl) ⟨Nat.zero_le _, Nat.zero_le _⟩ dX8_thinksActs_5 ?_
  refine W.eq (g2 := F0 m 8 ls [.int t1]) rfl ?_
  refine lv_if_eq (tgt := 25) hx hb dX8_thinksActs_8 (by decide) (fun c2 => ?_) (fun c2 => ?_)
  · have hF := m_pos c2 hF
    refine lv_aload_n hx hb dX8_thinksActs_25 rfl (lv_at hl 0 rfl) ?_
    refine va_get (D := E.1) (ci := 8) (v := .int (Model_kind v)) (C := RX8) (T := TX8) (N := 20) hx hb hts k1 hown hK hP 0 rfl rfl 17 (by decide) k0 (fun _ h9 => h9) rfl dX8_thinksActs_26 ?_
    refine lv_iconst (v := 5) hx hb dX8_thinksActs_29 (by decide) ?_
    refine lv_icmp_ne (tgt := 50) hx hb dX8_thinksActs_30 (by decide) (fun c3 => ?_) (fun c3 => ?_)
    · have hF := m_pos c3 hF
      refine lv_aload_n hx hb dX8_thinksActs_50 rfl (lv_at hl 0 rfl) ?_
      refine lv_iload_n hx hb dX8_thinksActs_51 rfl (lv_at hl 1 rfl) ?_
      obtain ⟨t4, ht4, hF⟩ := m_bnd hF
      have hPc := hP
      have hDc := hD
      have hFc := va_free (wc := (Model_c E a v)) hD hS hA [0, 1, 2, 3, 4, 5, 6, 7] rfl
      refine mVM (ci := 8) (n := 1) (rest := []) (As := [.int x0]) CC hKN hGl (c_X8_plainThinks l E a v x0 t4 ht4 _) gX8_thinksActs_X8_plainThinks rfl ⟨rfl, rfl⟩ (by decide +kernel) ⟨Nat.le_of_ble_eq_true rfl, Nat.le_of_ble_eq_true rfl⟩ hPc hDc m_nil m_nilA hS hFc rfl rfl rfl rfl hl.1 rfl (Nat.le_of_ble_eq_true rfl) ⟨Nat.zero_le _, Nat.zero_le _⟩ dX8_thinksActs_52 (fun H1 locs hP1 hD1 hz1 hk1 hS => ?_)
      have hP : va_P E.1 vwCl (Model_c E a t4.2) H1 := hP1
      have hD : va_D A (Model_c E a t4.2) := m_back hD1 hFc
      generalize H1 = H at hP hS ⊢
      refine W.eq (g2 := F0 m 55 ls [.int t4.1]) rfl ?_
      have hF := Option.some.inj hF
      subst hF
      rw [hQ]
      exact W.iret hx hb hr (fun t ht _ => ⟨⟨rfl, by rw [ht]; exact hP, hD⟩, hS.F ht⟩) hS.2.2 dX8_thinksActs_55
    · have hF := m_neg (fun n9 => n9 c3) hF
      refine lv_aload_n hx hb dX8_thinksActs_33 rfl (lv_at hl 0 rfl) ?_
      refine lv_bipush (v := 51) hx hb dX8_thinksActs_34 (by decide) ?_
      obtain ⟨t5, ht5, hF⟩ := m_bnd hF
      have hPc := hP
      have hDc := hD
      have hFc := va_free (wc := (Model_c E a v)) hD hS hA [0, 1, 2, 3, 4, 5, 6, 7] rfl
      refine mVM (ci := 8) (n := 1) (rest := []) (As := [.int 51]) CC hKN hGl (c_X8_ranBody l E a v 51 t5 ht5 _) gX8_thinksActs_X8_ranBody rfl ⟨rfl, rfl⟩ (by decide +kernel) ⟨Nat.le_of_ble_eq_true rfl, Nat.le_of_ble_eq_true rfl⟩ hPc hDc m_nil m_nilA hS hFc rfl rfl rfl rfl hl.1 rfl (Nat.le_of_ble_eq_true rfl) ⟨Nat.zero_le _, Nat.zero_le _⟩ dX8_thinksActs_36 (fun H1 locs hP1 hD1 hz1 hk1 hS => ?_)
      have hP : va_P E.1 vwCl (Model_c E a t5) H1 := hP1
      have hD : va_D A (Model_c E a t5) := m_back hD1 hFc
      generalize H1 = H at hP hS ⊢
      refine W.eq (g2 := F0 m 39 ls []) rfl ?_
      refine lv_aload_n hx hb dX8_thinksActs_39 rfl (lv_at hl 0 rfl) ?_
      refine lv_iload_n hx hb dX8_thinksActs_40 rfl (lv_at hl 1 rfl) ?_
      obtain ⟨t6, ht6, hF⟩ := m_bnd hF
      have hPc := hP
      have hDc := hD
      have hFc := va_free (wc := (Model_c E a t5)) hD hS hA [0, 1, 2, 3, 4, 5, 6, 7] rfl
      refine mVM (ci := 8) (n := 1) (rest := []) (As := [.int x0]) CC hKN hGl (c_X8_plainThinks l E a t5 x0 t6 ht6 _) gX8_thinksActs_X8_plainThinks rfl ⟨rfl, rfl⟩ (by decide +kernel) ⟨Nat.le_of_ble_eq_true rfl, Nat.le_of_ble_eq_true rfl⟩ hPc hDc m_nil m_nilA hS hFc rfl rfl rfl rfl hl.1 rfl (Nat.le_of_ble_eq_true rfl) ⟨Nat.zero_le _, Nat.zero_le _⟩ dX8_thinksActs_41 (fun H1 locs hP1 hD1 hz1 hk1 hS => ?_)
      have hP : va_P E.1 vwCl (Model_c E a t6.2) H1 := hP1
      have hD : va_D A (Model_c E a t6.2) := m_back hD1 hFc
      generalize H1 = H at hP hS ⊢
      refine W.eq (g2 := F0 m 44 ls [.int t6.1]) rfl ?_
      refine lv_aload_n hx hb dX8_thinksActs_44 rfl (lv_at hl 0 rfl) ?_
      refine va_get (D := E.1) (ci := 8) (v := .int (Model_number t6.2)) (C := RX8) (T := TX8) (N := 20) hx hb hts k1 hown hK hP 0 rfl rfl 18 (by decide) k2 (fun _ h9 => h9) rfl dX8_thinksActs_45 ?_
      refine lv_ixor hx hb dX8_thinksActs_48 ?_
      have hF := Option.some.inj hF
      subst hF
      rw [hQ]
      exact W.iret hx hb hr (fun t ht _ => ⟨⟨rfl, by rw [ht]; exact hP, hD⟩, hS.F ht⟩) hS.2.2 dX8_thinksActs_49
  · have hF := m_neg c2 hF
    refine lv_aload_n hx hb dX8_thinksActs_11 rfl (lv_at hl 0 rfl) ?_
    refine lv_bipush (v := 11) hx hb dX8_thinksActs_12 (by decide) ?_
    obtain ⟨t7, ht7, hF⟩ := m_bnd hF
    have hPc := hP
    have hDc := hD
    have hFc := va_free (wc := (Model_c E a v)) hD hS hA [0, 1, 2, 3, 4, 5, 6, 7] rfl
    refine mVM (ci := 8) (n := 1) (rest := []) (As := [.int 11]) CC hKN hGl (c_X8_ranBody l E a v 11 t7 ht7 _) gX8_thinksActs_X8_ranBody rfl ⟨rfl, rfl⟩ (by decide +kernel) ⟨Nat.le_of_ble_eq_true rfl, Nat.le_of_ble_eq_true rfl⟩ hPc hDc m_nil m_nilA hS hFc rfl rfl rfl rfl hl.1 rfl (Nat.le_of_ble_eq_true rfl) ⟨Nat.zero_le _, Nat.zero_le _⟩ dX8_thinksActs_14 (fun H1 locs hP1 hD1 hz1 hk1 hS => ?_)
    have hP : va_P E.1 vwCl (Model_c E a t7) H1 := hP1
    have hD : va_D A (Model_c E a t7) := m_back hD1 hFc
    generalize H1 = H at hP hS ⊢
    refine W.eq (g2 := F0 m 17 ls []) rfl ?_
    refine lv_aload_n hx hb dX8_thinksActs_17 rfl (lv_at hl 0 rfl) ?_
    refine lv_iload_n hx hb dX8_thinksActs_18 rfl (lv_at hl 1 rfl) ?_
    refine lv_iconst (v := 3) hx hb dX8_thinksActs_19 (by decide) ?_
    refine lv_imul hx hb dX8_thinksActs_20 ?_
    obtain ⟨t8, ht8, hF⟩ := m_bnd hF
    have hPc := hP
    have hDc := hD
    have hFc := va_free (wc := (Model_c E a t7)) hD hS hA [0, 1, 2, 3, 4, 5, 6, 7] rfl
    refine mVM (ci := 8) (n := 1) (rest := []) (As := [.int (x0 * 3)]) CC hKN hGl (c_X8_plainThinks l E a t7 (x0 * 3) t8 ht8 _) gX8_thinksActs_X8_plainThinks rfl ⟨rfl, rfl⟩ (by decide +kernel) ⟨Nat.le_of_ble_eq_true rfl, Nat.le_of_ble_eq_true rfl⟩ hPc hDc m_nil m_nilA hS hFc rfl rfl rfl rfl hl.1 rfl (Nat.le_of_ble_eq_true rfl) ⟨Nat.zero_le _, Nat.zero_le _⟩ dX8_thinksActs_21 (fun H1 locs hP1 hD1 hz1 hk1 hS => ?_)
    have hP : va_P E.1 vwCl (Model_c E a t8.2) H1 := hP1
    have hD : va_D A (Model_c E a t8.2) := m_back hD1 hFc
    generalize H1 = H at hP hS ⊢
    refine W.eq (g2 := F0 m 24 ls [.int t8.1]) rfl ?_
    have hF := Option.some.inj hF
    subst hF
    rw [hQ]
    exact W.iret hx hb hr (fun t ht _ => ⟨⟨rfl, by rw [ht]; exact hP, hD⟩, hS.F ht⟩) hS.2.2 dX8_thinksActs_24

abbrev rmX8_plainWrites : Room := { frames := 3, cells := 0, slots := 0, locals := 63 }
set_option maxRecDepth 100000 in
set_option maxHeartbeats 400000 in
theorem c_X8_plainWrites (l : Launch) (E : mE) (a : ModelA) (v : ModelV) (x0 : Int32) (t : (Int32 × ModelV)) (hF : fn_X8_plainWrites v x0 = some t) (sz : Nat) : Met l yX8_plainWrites wsX8_plainWrites rmX8_plainWrites (mPm E [.ref (Modela_self a), .int x0] sz ((Model_c E a v)) (([] : va_W))) (mSm E (some (.int t.1)) ((Model_c E a t.2)) (va_A ((Model_c E a v)) sz)) 0 0 (va_A ((Model_c E a v)) sz) := by
  refine mOfM (cc := cX8_plainWrites) (maxL := 2) (ret := (some .int)) (by decide) rfl (Nat.le_of_ble_eq_true rfl) ?_
  intro p e_ s m args below meth c Q A hQ CC hr hlocks hin hA hP hD hKN hGl hR0 hRA ls hl
  have hS : va_S A s.heap s.heap [] := va_S.rf
  have hK := hKN.1
  have hx := CC.1
  have hb := CC.2.1
  have hml := CC.2.2.1
  have hown : s.vm.findClass RX8 = some m.cls := CC.2.2.2.1
  have hts := CC.2.2.2.2
  have hl : lv_has ls 2 [(0, .ref (Modela_self a)), (1, .int x0)] := hl
  have k0 := hts (.fieldLink RX8 275 "OneDidAllModel" "tellsV" "I") (by decide +kernel)
  have k1 := (show ∀ w ∈ u_ws RX8 TX8 20, w ∈ wsX8_plainWrites by decide +kernel)
  have hP : va_P E.1 vwCl (Model_c E a v) s.heap := hP
  obtain ⟨H, hH⟩ : ∃ H, H = s.heap := ⟨_, rfl⟩
  obtain ⟨locs, hlc⟩ : ∃ z : List Loc, z = [] := ⟨_, rfl⟩
  rw [← hH] at hP
  rw [← hlc] at hS
  have hS : va_S A s.heap H locs := by rw [hH]; exact hS
  rw [← hH, ← hlc]
  unfold fn_X8_plainWrites at hF
  refine lv_aload_n hx hb dX8_plainWrites_0 rfl (lv_at hl 0 rfl) ?_
  refine lv_iconst (v := 2) hx hb dX8_plainWrites_1 (by decide) ?_
  obtain ⟨t1, ht1, hF⟩ := m_bnd hF
  have hPc := hP
  have hDc := hD
  have hFc := va_free (wc := (Model_c E a v)) hD hS hA [0, 1, 2, 3, 4, 5, 6, 7] rfl
  refine mVM (ci := 8) (n := 1) (rest := []) (As := [.int 2]) CC hKN hGl (c_X8_ranBody l E a v 2 t1 ht1 _) gX8_plainWrites_X8_ranBody rfl ⟨rfl, rfl⟩ (by decide +kernel) ⟨Nat.le_of_ble_eq_true rfl, Nat.le_of_ble_eq_true rfl⟩ hPc hDc m_nil m_nilA hS hFc rfl rfl rfl rfl hl.1 rfl (Nat.le_of_ble_eq_true rfl) ⟨Nat.zero_le _, Nat.zero_le _⟩ dX8_plainWrites_2 (fun H1 locs hP1 hD1 hz1 hk1 hS => ?_)
  have hP : va_P E.1 vwCl (Model_c E a t1) H1 := hP1
  have hD : va_D A (Model_c E a t1) := m_back hD1 hFc
  generalize H1 = H at hP hS ⊢
  refine W.eq (g2 := F0 m 5 ls []) rfl ?_
  refine lv_aload_n hx hb dX8_plainWrites_5 rfl (lv_at hl 0 rfl) ?_
  refine lv_iload_n hx hb dX8_plainWrites_6 rfl (lv_at hl 1 rfl) ?_
  obtain ⟨t2, ht2, hF⟩ := m_bnd hF
  have hPc := hP
  have hDc := hD
  have hFc := va_free (wc := (Model_c E a t1)) hD hS hA [0, 1, 2, 3, 4, 5, 6, 7] rfl
  refine mVM (ci := 8) (n := 1) (rest := []) (As := [.int x0]) CC hKN hGl (c_X8_thinksActs l E a t1 x0 t2 ht2 _) gX8_plainWrites_X8_thinksActs rfl ⟨rfl, rfl⟩ (by decide +kernel) ⟨Nat.le_of_ble_eq_true rfl, Nat.le_of_ble_eq_true rfl⟩ hPc hDc m_nil m_nilA hS hFc rfl rfl rfl rfl hl.1 rfl (Nat.le_of_ble_eq_true rfl) ⟨Nat.zero_le _, Nat.zero_le _⟩ dX8_plainWrites_7 (fun H1 locs hP1 hD1 hz1 hk1 hS => ?_)
  have hP : va_P E.1 vwCl (Model_c E a t2.2) H1 := hP1
  have hD : va_D A (Model_c E a t2.2) := m_back hD1 hFc
  generalize H1 = H at hP hS ⊢
  refine W.eq (g2 := F0 m 10 ls [.int t2.1]) rfl ?_
  refine lv_aload_n hx hb dX8_plainWrites_10 rfl (lv_at hl 0 rfl) ?_
  refine va_get (D := E.1) (ci := 8) (v := .int (Model_tellsV t2.2)) (C := RX8) (T := TX8) (N := 20) hx hb hts k1 hown hK hP 0 rfl rfl 19 (by decide) k0 (fun _ h9 => h9) rfl dX8_plainWrites_11 ?_
  refine lv_isub hx hb dX8_plainWrites_14 ?_
  have hF := Option.some.inj hF
  subst hF
  rw [hQ]
  exact W.iret hx hb hr (fun t ht _ => ⟨⟨rfl, by rw [ht]; exact hP, hD⟩, hS.F ht⟩) hS.2.2 dX8_plainWrites_15

abbrev rmX8_writesActs : Room := { frames := 4, cells := 0, slots := 0, locals := 84 }
set_option maxRecDepth 100000 in
set_option maxHeartbeats 400000 in
theorem c_X8_writesActs (l : Launch) (E : mE) (a : ModelA) (v : ModelV) (x0 : Int32) (t : (Int32 × ModelV)) (hF : fn_X8_writesActs v x0 = some t) (sz : Nat) : Met l yX8_writesActs wsX8_writesActs rmX8_writesActs (mPm E [.ref (Modela_self a), .int x0] sz ((Model_c E a v)) (([] : va_W))) (mSm E (some (.int t.1)) ((Model_c E a t.2)) (va_A ((Model_c E a v)) sz)) 0 0 (va_A ((Model_c E a v)) sz) := by
  refine mOfM (cc := cX8_writesActs) (maxL := 2) (ret := (some .int)) (by decide) rfl (Nat.le_of_ble_eq_true rfl) ?_
  intro p e_ s m args below meth c Q A hQ CC hr hlocks hin hA hP hD hKN hGl hR0 hRA ls hl
  have hS : va_S A s.heap s.heap [] := va_S.rf
  have hK := hKN.1
  have hx := CC.1
  have hb := CC.2.1
  have hml := CC.2.2.1
  have hown : s.vm.findClass RX8 = some m.cls := CC.2.2.2.1
  have hts := CC.2.2.2.2
  have hl : lv_has ls 2 [(0, .ref (Modela_self a)), (1, .int x0)] := hl
  have k0 := hts (.fieldLink RX8 262 "OneDidAllModel" "kind" "I") (by decide +kernel)
  have k1 := (show ∀ w ∈ u_ws RX8 TX8 20, w ∈ wsX8_writesActs by decide +kernel)
  have k2 := hts (.fieldLink RX8 275 "OneDidAllModel" "tellsV" "I") (by decide +kernel)
  have hP : va_P E.1 vwCl (Model_c E a v) s.heap := hP
  obtain ⟨H, hH⟩ : ∃ H, H = s.heap := ⟨_, rfl⟩
  obtain ⟨locs, hlc⟩ : ∃ z : List Loc, z = [] := ⟨_, rfl⟩
  rw [← hH] at hP
  rw [← hlc] at hS
  have hS : va_S A s.heap H locs := by rw [hH]; exact hS
  rw [← hH, ← hlc]
  unfold fn_X8_writesActs at hF
  refine lv_aload_n hx hb dX8_writesActs_0 rfl (lv_at hl 0 rfl) ?_
  refine va_get (D := E.1) (ci := 8) (v := .int (Model_kind v)) (C := RX8) (T := TX8) (N := 20) hx hb hts k1 hown hK hP 0 rfl rfl 17 (by decide) k0 (fun _ h9 => h9) rfl dX8_writesActs_1 ?_
  refine lv_iconst (v := 2) hx hb dX8_writesActs_4 (by decide) ?_
  obtain ⟨t1, ht1, hF⟩ := m_bnd hF
  refine mSP (n := 2) (rest := []) (As := [.int (Model_kind v), .int 2]) CC hKN hGl hS (c_X8_isUnder l E (Model_kind v) 2 t1 ht1) gX8_writesActs_X8_isUnder rfl ⟨rfl, rfl⟩ (by decide +kernel) ⟨Nat.le_of_ble_eq_true rfl, Nat.le_of_ble_eq_true rfl⟩ m_nil rfl hl.1 rfl (Nat.le_of_ble_eq_true rfl) ⟨Nat.zero_le _, Nat.zero_le _⟩ dX8_writesActs_5 ?_
  refine W.eq (g2 := F0 m 8 ls [.int t1]) rfl ?_
  refine lv_if_eq (tgt := 24) hx hb dX8_writesActs_8 (by decide) (fun c2 => ?_) (fun c2 => ?_)
  · have hF := m_pos c2 hF
    refine lv_aload_n hx hb dX8_writesActs_24 rfl (lv_at hl 0 rfl) ?_
    refine va_get (D := E.1) (ci := 8) (v := .int (Model_kind v)) (C := RX8) (T := TX8) (N := 20) hx hb hts k1 hown hK hP 0 rfl rfl 17 (by decide) k0 (fun _ h9 => h9) rfl dX8_writesActs_25 ?_
    refine lv_bipush (v := 6) hx hb dX8_writesActs_28 (by decide) ?_
    refine lv_icmp_ne (tgt := 50) hx hb dX8_writesActs_30 (by decide) (fun c3 => ?_) (fun c3 => ?_)
    · have hF := m_pos c3 hF
      refine lv_aload_n hx hb dX8_writesActs_50 rfl (lv_at hl 0 rfl) ?_
      refine lv_iload_n hx hb dX8_writesActs_51 rfl (lv_at hl 1 rfl) ?_
      obtain ⟨t4, ht4, hF⟩ := m_bnd hF
      have hPc := hP
      have hDc := hD
      have hFc := va_free (wc := (Model_c E a v)) hD hS hA [0, 1, 2, 3, 4, 5, 6, 7] rfl
      refine mVM (ci := 8) (n := 1) (rest := []) (As := [.int x0]) CC hKN hGl (c_X8_plainWrites l E a v x0 t4 ht4 _) gX8_writesActs_X8_plainWrites rfl ⟨rfl, rfl⟩ (by decide +kernel) ⟨Nat.le_of_ble_eq_true rfl, Nat.le_of_ble_eq_true rfl⟩ hPc hDc m_nil m_nilA hS hFc rfl rfl rfl rfl hl.1 rfl (Nat.le_of_ble_eq_true rfl) ⟨Nat.zero_le _, Nat.zero_le _⟩ dX8_writesActs_52 (fun H1 locs hP1 hD1 hz1 hk1 hS => ?_)
      have hP : va_P E.1 vwCl (Model_c E a t4.2) H1 := hP1
      have hD : va_D A (Model_c E a t4.2) := m_back hD1 hFc
      generalize H1 = H at hP hS ⊢
      refine W.eq (g2 := F0 m 55 ls [.int t4.1]) rfl ?_
      have hF := Option.some.inj hF
      subst hF
      rw [hQ]
      exact W.iret hx hb hr (fun t ht _ => ⟨⟨rfl, by rw [ht]; exact hP, hD⟩, hS.F ht⟩) hS.2.2 dX8_writesActs_55
    · have hF := m_neg (fun n9 => n9 c3) hF
      refine lv_aload_n hx hb dX8_writesActs_33 rfl (lv_at hl 0 rfl) ?_
      refine lv_bipush (v := 61) hx hb dX8_writesActs_34 (by decide) ?_
      obtain ⟨t5, ht5, hF⟩ := m_bnd hF
      have hPc := hP
      have hDc := hD
      have hFc := va_free (wc := (Model_c E a v)) hD hS hA [0, 1, 2, 3, 4, 5, 6, 7] rfl
      refine mVM (ci := 8) (n := 1) (rest := []) (As := [.int 61]) CC hKN hGl (c_X8_ranBody l E a v 61 t5 ht5 _) gX8_writesActs_X8_ranBody rfl ⟨rfl, rfl⟩ (by decide +kernel) ⟨Nat.le_of_ble_eq_true rfl, Nat.le_of_ble_eq_true rfl⟩ hPc hDc m_nil m_nilA hS hFc rfl rfl rfl rfl hl.1 rfl (Nat.le_of_ble_eq_true rfl) ⟨Nat.zero_le _, Nat.zero_le _⟩ dX8_writesActs_36 (fun H1 locs hP1 hD1 hz1 hk1 hS => ?_)
      have hP : va_P E.1 vwCl (Model_c E a t5) H1 := hP1
      have hD : va_D A (Model_c E a t5) := m_back hD1 hFc
      generalize H1 = H at hP hS ⊢
      refine W.eq (g2 := F0 m 39 ls []) rfl ?_
      refine lv_aload_n hx hb dX8_writesActs_39 rfl (lv_at hl 0 rfl) ?_
      refine lv_iload_n hx hb dX8_writesActs_40 rfl (lv_at hl 1 rfl) ?_
      obtain ⟨t6, ht6, hF⟩ := m_bnd hF
      have hPc := hP
      have hDc := hD
      have hFc := va_free (wc := (Model_c E a t5)) hD hS hA [0, 1, 2, 3, 4, 5, 6, 7] rfl
      refine mVM (ci := 8) (n := 1) (rest := []) (As := [.int x0]) CC hKN hGl (c_X8_plainWrites l E a t5 x0 t6 ht6 _) gX8_writesActs_X8_plainWrites rfl ⟨rfl, rfl⟩ (by decide +kernel) ⟨Nat.le_of_ble_eq_true rfl, Nat.le_of_ble_eq_true rfl⟩ hPc hDc m_nil m_nilA hS hFc rfl rfl rfl rfl hl.1 rfl (Nat.le_of_ble_eq_true rfl) ⟨Nat.zero_le _, Nat.zero_le _⟩ dX8_writesActs_41 (fun H1 locs hP1 hD1 hz1 hk1 hS => ?_)
      have hP : va_P E.1 vwCl (Model_c E a t6.2) H1 := hP1
      have hD : va_D A (Model_c E a t6.2) := m_back hD1 hFc
      generalize H1 = H at hP hS ⊢
      refine W.eq (g2 := F0 m 44 ls [.int t6.1]) rfl ?_
      refine lv_aload_n hx hb dX8_writesActs_44 rfl (lv_at hl 0 rfl) ?_
      refine va_get (D := E.1) (ci := 8) (v := .int (Model_tellsV t6.2)) (C := RX8) (T := TX8) (N := 20) hx hb hts k1 hown hK hP 0 rfl rfl 19 (by decide) k2 (fun _ h9 => h9) rfl dX8_writesActs_45 ?_
      refine lv_iadd hx hb dX8_writesActs_48 ?_
      have hF := Option.some.inj hF
      subst hF
      rw [hQ]
      exact W.iret hx hb hr (fun t ht _ => ⟨⟨rfl, by rw [ht]; exact hP, hD⟩, hS.F ht⟩) hS.2.2 dX8_writesActs_49
  · have hF := m_neg c2 hF
    refine lv_aload_n hx hb dX8_writesActs_11 rfl (lv_at hl 0 rfl) ?_
    refine lv_bipush (v := 21) hx hb dX8_writesActs_12 (by decide) ?_
    obtain ⟨t7, ht7, hF⟩ := m_bnd hF
    have hPc := hP
    have hDc := hD
    have hFc := va_free (wc := (Model_c E a v)) hD hS hA [0, 1, 2, 3, 4, 5, 6, 7] rfl
    refine mVM (ci := 8) (n := 1) (rest := []) (As := [.int 21]) CC hKN hGl (c_X8_ranBody l E a v 21 t7 ht7 _) gX8_writesActs_X8_ranBody rfl ⟨rfl, rfl⟩ (by decide +kernel) ⟨Nat.le_of_ble_eq_true rfl, Nat.le_of_ble_eq_true rfl⟩ hPc hDc m_nil m_nilA hS hFc rfl rfl rfl rfl hl.1 rfl (Nat.le_of_ble_eq_true rfl) ⟨Nat.zero_le _, Nat.zero_le _⟩ dX8_writesActs_14 (fun H1 locs hP1 hD1 hz1 hk1 hS => ?_)
    have hP : va_P E.1 vwCl (Model_c E a t7) H1 := hP1
    have hD : va_D A (Model_c E a t7) := m_back hD1 hFc
    generalize H1 = H at hP hS ⊢
    refine W.eq (g2 := F0 m 17 ls []) rfl ?_
    refine lv_aload_n hx hb dX8_writesActs_17 rfl (lv_at hl 0 rfl) ?_
    refine lv_iload_n hx hb dX8_writesActs_18 rfl (lv_at hl 1 rfl) ?_
    obtain ⟨t8, ht8, hF⟩ := m_bnd hF
    have hPc := hP
    have hDc := hD
    have hFc := va_free (wc := (Model_c E a t7)) hD hS hA [0, 1, 2, 3, 4, 5, 6, 7] rfl
    refine mVM (ci := 8) (n := 1) (rest := []) (As := [.int x0]) CC hKN hGl (c_X8_plainWrites l E a t7 x0 t8 ht8 _) gX8_writesActs_X8_plainWrites rfl ⟨rfl, rfl⟩ (by decide +kernel) ⟨Nat.le_of_ble_eq_true rfl, Nat.le_of_ble_eq_true rfl⟩ hPc hDc m_nil m_nilA hS hFc rfl rfl rfl rfl hl.1 rfl (Nat.le_of_ble_eq_true rfl) ⟨Nat.zero_le _, Nat.zero_le _⟩ dX8_writesActs_19 (fun H1 locs hP1 hD1 hz1 hk1 hS => ?_)
    have hP : va_P E.1 vwCl (Model_c E a t8.2) H1 := hP1
    have hD : va_D A (Model_c E a t8.2) := m_back hD1 hFc
    generalize H1 = H at hP hS ⊢
    refine W.eq (g2 := F0 m 22 ls [.int t8.1]) rfl ?_
    refine lv_ineg hx hb dX8_writesActs_22 ?_
    have hF := Option.some.inj hF
    subst hF
    rw [hQ]
    exact W.iret hx hb hr (fun t ht _ => ⟨⟨rfl, by rw [ht]; exact hP, hD⟩, hS.F ht⟩) hS.2.2 dX8_writesActs_23

abbrev rmX8_plainTelling : Room := { frames := 5, cells := 0, slots := 0, locals := 105 }
set_option maxRecDepth 100000 in
set_option maxHeartbeats 400000 in
theorem c_X8_plainTelling (l : Launch) (E : mE) (a : ModelA) (v : ModelV) (x0 : Int32) (t : (Int32 × ModelV)) (hF : fn_X8_plainTelling v x0 = some t) (sz : Nat) : Met l yX8_plainTelling wsX8_plainTelling rmX8_plainTelling (mPm E [.ref (Modela_self a), .int x0] sz ((Model_c E a v)) (([] : va_W))) (mSm E (some (.int t.1)) ((Model_c E a t.2)) (va_A ((Model_c E a v)) sz)) 0 0 (va_A ((Model_c E a v)) sz) := by
  refine mOfM (cc := cX8_plainTelling) (maxL := 2) (ret := (some .int)) (by decide) rfl (Nat.le_of_ble_eq_true rfl) ?_
  intro p e_ s m args below meth c Q A hQ CC hr hlocks hin hA hP hD hKN hGl hR0 hRA ls hl
  have hS : va_S A s.heap s.heap [] := va_S.rf
  have hK := hKN.1
  have hx := CC.1
  have hb := CC.2.1
  have hml := CC.2.2.1
  have hown : s.vm.findClass RX8 = some m.cls := CC.2.2.2.1
  have hts := CC.2.2.2.2
  have hl : lv_has ls 2 [(0, .ref (Modela_self a)), (1, .int x0)] := hl
  have hP : va_P E.1 vwCl (Model_c E a v) s.heap := hP
  obtain ⟨H, hH⟩ : ∃ H, H = s.heap := ⟨_, rfl⟩
  obtain ⟨locs, hlc⟩ : ∃ z : List Loc, z = [] := ⟨_, rfl⟩
  rw [← hH] at hP
  rw [← hlc] at hS
  have hS : va_S A s.heap H locs := by rw [hH]; exact hS
  rw [← hH, ← hlc]
  unfold fn_X8_plainTelling at hF
  refine lv_aload_n hx hb dX8_plainTelling_0 rfl (lv_at hl 0 rfl) ?_
  refine lv_iconst (v := 3) hx hb dX8_plainTelling_1 (by decide) ?_
  obtain ⟨t1, ht1, hF⟩ := m_bnd hF
  have hPc := hP
  have hDc := hD
  have hFc := va_free (wc := (Model_c E a v)) hD hS hA [0, 1, 2, 3, 4, 5, 6, 7] rfl
  refine mVM (ci := 8) (n := 1) (rest := []) (As := [.int 3]) CC hKN hGl (c_X8_ranBody l E a v 3 t1 ht1 _) gX8_plainTelling_X8_ranBody rfl ⟨rfl, rfl⟩ (by decide +kernel) ⟨Nat.le_of_ble_eq_true rfl, Nat.le_of_ble_eq_true rfl⟩ hPc hDc m_nil m_nilA hS hFc rfl rfl rfl rfl hl.1 rfl (Nat.le_of_ble_eq_true rfl) ⟨Nat.zero_le _, Nat.zero_le _⟩ dX8_plainTelling_2 (fun H1 locs hP1 hD1 hz1 hk1 hS => ?_)
  have hP : va_P E.1 vwCl (Model_c E a t1) H1 := hP1
  have hD : va_D A (Model_c E a t1) := m_back hD1 hFc
  generalize H1 = H at hP hS ⊢
  refine W.eq (g2 := F0 m 5 ls []) rfl ?_
  refine lv_aload_n hx hb dX8_plainTelling_5 rfl (lv_at hl 0 rfl) ?_
  refine lv_iload_n hx hb dX8_plainTelling_6 rfl (lv_at hl 1 rfl) ?_
  obtain ⟨t2, ht2, hF⟩ := m_bnd hF
  have hPc := hP
  have hDc := hD
  have hFc := va_free (wc := (Model_c E a t1)) hD hS hA [0, 1, 2, 3, 4, 5, 6, 7] rfl
  refine mVM (ci := 8) (n := 1) (rest := []) (As := [.int x0]) CC hKN hGl (c_X8_writesActs l E a t1 x0 t2 ht2 _) gX8_plainTelling_X8_writesActs rfl ⟨rfl, rfl⟩ (by decide +kernel) ⟨Nat.le_of_ble_eq_true rfl, Nat.le_of_ble_eq_true rfl⟩ hPc hDc m_nil m_nilA hS hFc rfl rfl rfl rfl hl.1 rfl (Nat.le_of_ble_eq_true rfl) ⟨Nat.zero_le _, Nat.zero_le _⟩ dX8_plainTelling_7 (fun H1 locs hP1 hD1 hz1 hk1 hS => ?_)
  have hP : va_P E.1 vwCl (Model_c E a t2.2) H1 := hP1
  have hD : va_D A (Model_c E a t2.2) := m_back hD1 hFc
  generalize H1 = H at hP hS ⊢
  refine W.eq (g2 := F0 m 10 ls [.int t2.1]) rfl ?_
  refine lv_iconst (v := 2) hx hb dX8_plainTelling_10 (by decide) ?_
  refine lv_imul hx hb dX8_plainTelling_11 ?_
  have hF := Option.some.inj hF
  subst hF
  rw [hQ]
  exact W.iret hx hb hr (fun t ht _ => ⟨⟨rfl, by rw [ht]; exact hP, hD⟩, hS.F ht⟩) hS.2.2 dX8_plainTelling_12

abbrev rmX8_tellsActs : Room := { frames := 6, cells := 0, slots := 0, locals := 126 }
set_option maxRecDepth 100000 in
set_option maxHeartbeats 400000 in
theorem c_X8_tellsActs (l : Launch) (E : mE) (a : ModelA) (v : ModelV) (x0 : Int32) (t : (Int32 × ModelV)) (hF : fn_X8_tellsActs v x0 = some t) (sz : Nat) : Met l yX8_tellsActs wsX8_tellsActs rmX8_tellsActs (mPm E [.ref (Modela_self a), .int x0] sz ((Model_c E a v)) (([] : va_W))) (mSm E (some (.int t.1)) ((Model_c E a t.2)) (va_A ((Model_c E a v)) sz)) 0 0 (va_A ((Model_c E a v)) sz) := by
  refine mOfM (cc := cX8_tellsActs) (maxL := 3) (ret := (some .int)) (by decide) rfl (Nat.le_of_ble_eq_true rfl) ?_
  intro p e_ s m args below meth c Q A hQ CC hr hlocks hin hA hP hD hKN hGl hR0 hRA ls hl
  have hS : va_S A s.heap s.heap [] := va_S.rf
  have hK := hKN.1
  have hx := CC.1
  have hb := CC.2.1
  have hml := CC.2.2.1
  have hown : s.vm.findClass RX8 = some m.cls := CC.2.2.2.1
  have hts := CC.2.2.2.2
  have hl : lv_has ls 3 [(0, .ref (Modela_self a)), (1, .int x0)] := hl
  have k0 := hts (.fieldLink RX8 262 "OneDidAllModel" "kind" "I") (by decide +kernel)
  have k1 := (show ∀ w ∈ u_ws RX8 TX8 20, w ∈ wsX8_tellsActs by decide +kernel)
  have hP : va_P E.1 vwCl (Model_c E a v) s.heap := hP
  obtain ⟨H, hH⟩ : ∃ H, H = s.heap := ⟨_, rfl⟩
  obtain ⟨locs, hlc⟩ : ∃ z : List Loc, z = [] := ⟨_, rfl⟩
  rw [← hH] at hP
  rw [← hlc] at hS
  have hS : va_S A s.heap H locs := by rw [hH]; exact hS
  rw [← hH, ← hlc]
  unfold fn_X8_tellsActs at hF
  refine lv_aload_n hx hb dX8_tellsActs_0 rfl (lv_at hl 0 rfl) ?_
  refine va_get (D := E.1) (ci := 8) (v := .int (Model_kind v)) (C := RX8) (T := TX8) (N := 20) hx hb hts k1 hown hK hP 0 rfl rfl 17 (by decide) k0 (fun _ h9 => h9) rfl dX8_tellsActs_1 ?_
  refine lv_iconst (v := 3) hx hb dX8_tellsActs_4 (by decide) ?_
  obtain ⟨t1, ht1, hF⟩ := m_bnd hF
  refine mSP (n := 2) (rest := []) (As := [.int (Model_kind v), .int 3]) CC hKN hGl hS (c_X8_isUnder l E (Model_kind v) 3 t1 ht1) gX8_tellsActs_X8_isUnder rfl ⟨rfl, rfl⟩ (by decide +kernel) ⟨Nat.le_of_ble_eq_true rfl, Nat.le_of_ble_eq_true rfl⟩ m_nil rfl hl.1 rfl (Nat.le_of_ble_eq_true rfl) ⟨Nat.zero_le _, Nat.zero_le _⟩ dX8_tellsActs_5 ?_
  refine W.eq (g2 := F0 m 8 ls [.int t1]) rfl ?_
  refine lv_if_eq (tgt := 26) hx hb dX8_tellsActs_8 (by decide) (fun c2 => ?_) (fun c2 => ?_)
  · have hF := m_pos c2 hF
    refine lv_aload_n hx hb dX8_tellsActs_26 rfl (lv_at hl 0 rfl) ?_
    refine va_get (D := E.1) (ci := 8) (v := .int (Model_kind v)) (C := RX8) (T := TX8) (N := 20) hx hb hts k1 hown hK hP 0 rfl rfl 17 (by decide) k0 (fun _ h9 => h9) rfl dX8_tellsActs_27 ?_
    refine lv_iconst (v := 4) hx hb dX8_tellsActs_30 (by decide) ?_
    refine lv_icmp_ne (tgt := 56) hx hb dX8_tellsActs_31 (by decide) (fun c3 => ?_) (fun c3 => ?_)
    · have hF := m_pos c3 hF
      refine lv_aload_n hx hb dX8_tellsActs_56 rfl (lv_at hl 0 rfl) ?_
      refine lv_iload_n hx hb dX8_tellsActs_57 rfl (lv_at hl 1 rfl) ?_
      obtain ⟨t4, ht4, hF⟩ := m_bnd hF
      have hPc := hP
      have hDc := hD
      have hFc := va_free (wc := (Model_c E a v)) hD hS hA [0, 1, 2, 3, 4, 5, 6, 7] rfl
      refine mVM (ci := 8) (n := 1) (rest := []) (As := [.int x0]) CC hKN hGl (c_X8_plainTelling l E a v x0 t4 ht4 _) gX8_tellsActs_X8_plainTelling rfl ⟨rfl, rfl⟩ (by decide +kernel) ⟨Nat.le_of_ble_eq_true rfl, Nat.le_of_ble_eq_true rfl⟩ hPc hDc m_nil m_nilA hS hFc rfl rfl rfl rfl hl.1 rfl (Nat.le_of_ble_eq_true rfl) ⟨Nat.zero_le _, Nat.zero_le _⟩ dX8_tellsActs_58 (fun H1 locs hP1 hD1 hz1 hk1 hS => ?_)
      have hP : va_P E.1 vwCl (Model_c E a t4.2) H1 := hP1
      have hD : va_D A (Model_c E a t4.2) := m_back hD1 hFc
      generalize H1 = H at hP hS ⊢
      refine W.eq (g2 := F0 m 61 ls [.int t4.1]) rfl ?_
      have hF := Option.some.inj hF
      subst hF
      rw [hQ]
      exact W.iret hx hb hr (fun t ht _ => ⟨⟨rfl, by rw [ht]; exact hP, hD⟩, hS.F ht⟩) hS.2.2 dX8_tellsActs_61
    · have hF := m_neg (fun n9 => n9 c3) hF
      refine lv_aload_n hx hb dX8_tellsActs_34 rfl (lv_at hl 0 rfl) ?_
      refine lv_bipush (v := 41) hx hb dX8_tellsActs_35 (by decide) ?_
      obtain ⟨t5, ht5, hF⟩ := m_bnd hF
      have hPc := hP
      have hDc := hD
      have hFc := va_free (wc := (Model_c E a v)) hD hS hA [0, 1, 2, 3, 4, 5, 6, 7] rfl
      refine mVM (ci := 8) (n := 1) (rest := []) (As := [.int 41]) CC hKN hGl (c_X8_ranBody l E a v 41 t5 ht5 _) gX8_tellsActs_X8_ranBody rfl ⟨rfl, rfl⟩ (by decide +kernel) ⟨Nat.le_of_ble_eq_true rfl, Nat.le_of_ble_eq_true rfl⟩ hPc hDc m_nil m_nilA hS hFc rfl rfl rfl rfl hl.1 rfl (Nat.le_of_ble_eq_true rfl) ⟨Nat.zero_le _, Nat.zero_le _⟩ dX8_tellsActs_37 (fun H1 locs hP1 hD1 hz1 hk1 hS => ?_)
      have hP : va_P E.1 vwCl (Model_c E a t5) H1 := hP1
      have hD : va_D A (Model_c E a t5) := m_back hD1 hFc
      generalize H1 = H at hP hS ⊢
      refine W.eq (g2 := F0 m 40 ls []) rfl ?_
      refine lv_aload_n hx hb dX8_tellsActs_40 rfl (lv_at hl 0 rfl) ?_
      refine lv_iload_n hx hb dX8_tellsActs_41 rfl (lv_at hl 1 rfl) ?_
      refine lv_iconst (v := 1) hx hb dX8_tellsActs_42 (by decide) ?_
      refine lv_isub hx hb dX8_tellsActs_43 ?_
      obtain ⟨t6, ht6, hF⟩ := m_bnd hF
      have hPc := hP
      have hDc := hD
      have hFc := va_free (wc := (Model_c E a t5)) hD hS hA [0, 1, 2, 3, 4, 5, 6, 7] rfl
      refine mVM (ci := 8) (n := 1) (rest := []) (As := [.int (x0 - 1)]) CC hKN hGl (c_X8_plainTelling l E a t5 (x0 - 1) t6 ht6 _) gX8_tellsActs_X8_plainTelling rfl ⟨rfl, rfl⟩ (by decide +kernel) ⟨Nat.le_of_ble_eq_true rfl, Nat.le_of_ble_eq_true rfl⟩ hPc hDc m_nil m_nilA hS hFc rfl rfl rfl rfl hl.1 rfl (Nat.le_of_ble_eq_true rfl) ⟨Nat.zero_le _, Nat.zero_le _⟩ dX8_tellsActs_44 (fun H1 locs hP1 hD1 hz1 hk1 hS => ?_)
      have hP : va_P E.1 vwCl (Model_c E a t6.2) H1 := hP1
      have hD : va_D A (Model_c E a t6.2) := m_back hD1 hFc
      generalize H1 = H at hP hS ⊢
      refine W.eq (g2 := F0 m 47 ls [.int t6.1]) rfl ?_
      refine lv_istore_n (lv' := [(2, .int t6.1), (0, .ref (Modela_self a)), (1, .int x0)]) hx hb dX8_tellsActs_47 rfl hl (by decide) rfl (fun ls hl => ?_)
      refine lv_iload_n hx hb dX8_tellsActs_48 rfl (lv_at hl 0 rfl) ?_
      refine lv_aload_n hx hb dX8_tellsActs_49 rfl (lv_at hl 1 rfl) ?_
      refine lv_iconst (v := 2) hx hb dX8_tellsActs_50 (by decide) ?_
      obtain ⟨t7, ht7, hF⟩ := m_bnd hF
      have hPc := hP
      have hDc := hD
      have hFc := va_free (wc := (Model_c E a t6.2)) hD hS hA [0, 1, 2, 3, 4, 5, 6, 7] rfl
      refine mVM (ci := 8) (n := 1) (rest := [.int t6.1]) (As := [.int 2]) CC hKN hGl (c_X8_thinksActs l E a t6.2 2 t7 ht7 _) gX8_tellsActs_X8_thinksActs rfl ⟨rfl, rfl⟩ (by decide +kernel) ⟨Nat.le_of_ble_eq_true rfl, Nat.le_of_ble_eq_true rfl⟩ hPc hDc m_nil m_nilA hS hFc rfl rfl rfl rfl hl.1 rfl (Nat.le_of_ble_eq_true rfl) ⟨Nat.zero_le _, Nat.zero_le _⟩ dX8_tellsActs_51 (fun H1 locs hP1 hD1 hz1 hk1 hS => ?_)
      have hP : va_P E.1 vwCl (Model_c E a t7.2) H1 := hP1
      have hD : va_D A (Model_c E a t7.2) := m_back hD1 hFc
      generalize H1 = H at hP hS ⊢
      refine W.eq (g2 := F0 m 54 ls [.int t7.1, .int t6.1]) rfl ?_
      refine lv_iadd hx hb dX8_tellsActs_54 ?_
      have hF := Option.some.inj hF
      subst hF
      rw [hQ]
      exact W.iret hx hb hr (fun t ht _ => ⟨⟨rfl, by rw [ht]; exact hP, hD⟩, hS.F ht⟩) hS.2.2 dX8_tellsActs_55
  · have hF := m_neg c2 hF
    refine lv_aload_n hx hb dX8_tellsActs_11 rfl (lv_at hl 0 rfl) ?_
    refine lv_bipush (v := 31) hx hb dX8_tellsActs_12 (by decide) ?_
    obtain ⟨t8, ht8, hF⟩ := m_bnd hF
    have hPc := hP
    have hDc := hD
    have hFc := va_free (wc := (Model_c E a v)) hD hS hA [0, 1, 2, 3, 4, 5, 6, 7] rfl
    refine mVM (ci := 8) (n := 1) (rest := []) (As := [.int 31]) CC hKN hGl (c_X8_ranBody l E a v 31 t8 ht8 _) gX8_tellsActs_X8_ranBody rfl ⟨rfl, rfl⟩ (by decide +kernel) ⟨Nat.le_of_ble_eq_true rfl, Nat.le_of_ble_eq_true rfl⟩ hPc hDc m_nil m_nilA hS hFc rfl rfl rfl rfl hl.1 rfl (Nat.le_of_ble_eq_true rfl) ⟨Nat.zero_le _, Nat.zero_le _⟩ dX8_tellsActs_14 (fun H1 locs hP1 hD1 hz1 hk1 hS => ?_)
    have hP : va_P E.1 vwCl (Model_c E a t8) H1 := hP1
    have hD : va_D A (Model_c E a t8) := m_back hD1 hFc
    generalize H1 = H at hP hS ⊢
    refine W.eq (g2 := F0 m 17 ls []) rfl ?_
    refine lv_aload_n hx hb dX8_tellsActs_17 rfl (lv_at hl 0 rfl) ?_
    refine lv_iload_n hx hb dX8_tellsActs_18 rfl (lv_at hl 1 rfl) ?_
    obtain ⟨t9, ht9, hF⟩ := m_bnd hF
    have hPc := hP
    have hDc := hD
    have hFc := va_free (wc := (Model_c E a t8)) hD hS hA [0, 1, 2, 3, 4, 5, 6, 7] rfl
    refine mVM (ci := 8) (n := 1) (rest := []) (As := [.int x0]) CC hKN hGl (c_X8_plainTelling l E a t8 x0 t9 ht9 _) gX8_tellsActs_X8_plainTelling rfl ⟨rfl, rfl⟩ (by decide +kernel) ⟨Nat.le_of_ble_eq_true rfl, Nat.le_of_ble_eq_true rfl⟩ hPc hDc m_nil m_nilA hS hFc rfl rfl rfl rfl hl.1 rfl (Nat.le_of_ble_eq_true rfl) ⟨Nat.zero_le _, Nat.zero_le _⟩ dX8_tellsActs_19 (fun H1 locs hP1 hD1 hz1 hk1 hS => ?_)
    have hP : va_P E.1 vwCl (Model_c E a t9.2) H1 := hP1
    have hD : va_D A (Model_c E a t9.2) := m_back hD1 hFc
    generalize H1 = H at hP hS ⊢
    refine W.eq (g2 := F0 m 22 ls [.int t9.1]) rfl ?_
    refine lv_bipush (v := 7) hx hb dX8_tellsActs_22 (by decide) ?_
    refine lv_ixor hx hb dX8_tellsActs_24 ?_
    have hF := Option.some.inj hF
    subst hF
    rw [hQ]
    exact W.iret hx hb hr (fun t ht _ => ⟨⟨rfl, by rw [ht]; exact hP, hD⟩, hS.F ht⟩) hS.2.2 dX8_tellsActs_25

abbrev rmX8_act : Room := { frames := 7, cells := 0, slots := 0, locals := 148 }
set_option maxRecDepth 100000 in
set_option maxHeartbeats 400000 in
theorem c_X8_act (l : Launch) (E : mE) (a : ModelA) (v : ModelV) (x0 : Int32) (x1 : Int32) (x2 : Int32) (t : (Int32 × ModelV)) (hF : fn_X8_act v x0 x1 x2 = some t) (sz : Nat) : Met l yX8_act wsX8_act rmX8_act (mPm E [.ref (Modela_self a), .int x0, .int x1, .int x2] sz ((Model_c E a v)) (([] : va_W))) (mSm E (some (.int t.1)) ((Model_c E a t.2)) (va_A ((Model_c E a v)) sz)) 0 0 (va_A ((Model_c E a v)) sz) := by
  refine mOfM (cc := cX8_act) (maxL := 4) (ret := (some .int)) (by decide) rfl (Nat.le_of_ble_eq_true rfl) ?_
  intro p e_ s m args below meth c Q A hQ CC hr hlocks hin hA hP hD hKN hGl hR0 hRA ls hl
  have hS : va_S A s.heap s.heap [] := va_S.rf
  have hK := hKN.1
  have hx := CC.1
  have hb := CC.2.1
  have hml := CC.2.2.1
  have hown : s.vm.findClass RX8 = some m.cls := CC.2.2.2.1
  have hts := CC.2.2.2.2
  have hl : lv_has ls 4 [(0, .ref (Modela_self a)), (1, .int x0), (2, .int x1), (3, .int x2)] := hl
  have k0 := hts (.fieldLink RX8 253 "OneDidAllModel" "ran" "I") (by decide +kernel)
  have k1 := (show ∀ w ∈ u_ws RX8 TX8 20, w ∈ wsX8_act by decide +kernel)
  have k2 := hts (.fieldLink RX8 9 "OneDidAllModel" "s" "[I") (by decide +kernel)
  have k3 := hts (.fieldLink RX8 262 "OneDidAllModel" "kind" "I") (by decide +kernel)
  have k4 := hts (.fieldLink RX8 259 "OneDidAllModel" "number" "I") (by decide +kernel)
  have k5 := hts (.fieldLink RX8 275 "OneDidAllModel" "tellsV" "I") (by decide +kernel)
  have hP : va_P E.1 vwCl (Model_c E a v) s.heap := hP
  obtain ⟨H, hH⟩ : ∃ H, H = s.heap := ⟨_, rfl⟩
  obtain ⟨locs, hlc⟩ : ∃ z : List Loc, z = [] := ⟨_, rfl⟩
  rw [← hH] at hP
  rw [← hlc] at hS
  have hS : va_S A s.heap H locs := by rw [hH]; exact hS
  rw [← hH, ← hlc]
  unfold fn_X8_act at hF
  refine lv_aload_n hx hb dX8_act_0 rfl (lv_at hl 0 rfl) ?_
  refine lv_iconst (v := 0) hx hb dX8_act_1 (by decide) ?_
  refine va_put (D := E.1) (ci := 8) (v := .int 0) (ty := .int) (C := RX8) (T := TX8) (N := 20) hx hb hts k1 tyX8 tyX8_ok nmX8 hown hK hP hD hS 0 rfl rfl 16 (by decide) k0 (fun _ h9 => h9) rfl (by decide +kernel) rfl rfl (Nat.le_of_ble_eq_true rfl) dX8_act_2 (fun H locs hP hD hS => ?_)
  have hP : va_P E.1 vwCl (Model_c E a (Model_ran_s v 0)) H := hP
  have hD : va_D A (Model_c E a (Model_ran_s v 0)) := hD
  refine lv_aload_n hx hb dX8_act_5 rfl (lv_at hl 0 rfl) ?_
  refine lv_iload_n hx hb dX8_act_6 rfl (lv_at hl 1 rfl) ?_
  obtain ⟨t1, ht1, hF⟩ := m_bnd hF
  refine mVP (ci := 8) (n := 1) (rest := []) (As := [.int x0]) CC hKN hGl hS (c_X8_isPupil l E a (Model_ran_s v 0) x0 t1 ht1) gX8_act_X8_isPupil rfl ⟨rfl, rfl⟩ (by decide +kernel) ⟨Nat.le_of_ble_eq_true rfl, Nat.le_of_ble_eq_true rfl⟩ hP rfl rfl rfl rfl hl.1 rfl (Nat.le_of_ble_eq_true rfl) ⟨Nat.zero_le _, Nat.zero_le _⟩ dX8_act_7 ?_
  refine W.eq (g2 := F0 m 10 ls [.int t1]) rfl ?_
  refine lv_if_eq (tgt := 22) hx hb dX8_act_10 (by decide) (fun c2 => ?_) (fun c2 => ?_)
  · have hF := m_pos c2 hF
    refine lv_iconst (v := 0) hx hb dX8_act_22 (by decide) ?_
    have hF := Option.some.inj hF
    subst hF
    rw [hQ]
    exact W.iret hx hb hr (fun t ht _ => ⟨⟨rfl, by rw [ht]; exact hP, hD⟩, hS.F ht⟩) hS.2.2 dX8_act_23
  · have hF := m_neg c2 hF
    refine lv_iload_n hx hb dX8_act_13 rfl (lv_at hl 2 rfl) ?_
    refine lv_iconst (v := 0) hx hb dX8_act_14 (by decide) ?_
    refine lv_iconst (v := 2) hx hb dX8_act_15 (by decide) ?_
    obtain ⟨t3, ht3, hF⟩ := m_bnd hF
    refine mSP (n := 3) (rest := []) (As := [.int x1, .int 0, .int 2]) CC hKN hGl hS (c_X8_in l E x1 0 2 t3 ht3) gX8_act_X8_in rfl ⟨rfl, rfl⟩ (by decide +kernel) ⟨Nat.le_of_ble_eq_true rfl, Nat.le_of_ble_eq_true rfl⟩ m_nil rfl hl.1 rfl (Nat.le_of_ble_eq_true rfl) ⟨Nat.zero_le _, Nat.zero_le _⟩ dX8_act_16 ?_
    refine W.eq (g2 := F0 m 19 ls [.int t3]) rfl ?_
    refine lv_if_ne (tgt := 24) hx hb dX8_act_19 (by decide) (fun c4 => ?_) (fun c4 => ?_)
    · have hF := m_pos c4 hF
      refine lv_aload_n hx hb dX8_act_24 rfl (lv_at hl 0 rfl) ?_
      refine lv_aload_n hx hb dX8_act_25 rfl (lv_at hl 0 rfl) ?_
      refine va_get (D := E.1) (ci := 8) (v := .ref (Modela_s a)) (C := RX8) (T := TX8) (N := 20) hx hb hts k1 hown hK hP 0 rfl rfl 1 (by decide) k2 (fun _ h9 => h9) rfl dX8_act_26 ?_
      refine lv_bipush (v := 27) hx hb dX8_act_29 (by decide) ?_
      refine lv_iload_n hx hb dX8_act_31 rfl (lv_at hl 1 rfl) ?_
      refine lv_iadd hx hb dX8_act_32 ?_
      obtain ⟨h5, hF⟩ := m_chk hF
      refine va_iald (f := (Model_s v)) hx hb hK hP 1 1 rfl rfl (mIn_ok h5) dX8_act_33 ?_
      refine W.eq (g2 := F0 m 34 ls [.int ((Model_s v) ((27 + x0)).toNatClampNeg), .ref (Modela_self a)]) rfl ?_
      refine va_put (D := E.1) (ci := 8) (v := .int ((Model_s v) ((27 + x0)).toNatClampNeg)) (ty := .int) (C := RX8) (T := TX8) (N := 20) hx hb hts k1 tyX8 tyX8_ok nmX8 hown hK hP hD hS 0 rfl rfl 17 (by decide) k3 (fun _ h9 => h9) rfl (by decide +kernel) rfl rfl (Nat.le_of_ble_eq_true rfl) dX8_act_34 (fun H locs hP hD hS => ?_)
      have hP : va_P E.1 vwCl (Model_c E a (Model_kind_s (Model_ran_s v 0) ((Model_s v) ((27 + x0)).toNatClampNeg))) H := hP
      have hD : va_D A (Model_c E a (Model_kind_s (Model_ran_s v 0) ((Model_s v) ((27 + x0)).toNatClampNeg))) := hD
      refine lv_aload_n hx hb dX8_act_37 rfl (lv_at hl 0 rfl) ?_
      refine lv_iload_n hx hb dX8_act_38 rfl (lv_at hl 1 rfl) ?_
      refine va_put (D := E.1) (ci := 8) (v := .int x0) (ty := .int) (C := RX8) (T := TX8) (N := 20) hx hb hts k1 tyX8 tyX8_ok nmX8 hown hK hP hD hS 0 rfl rfl 18 (by decide) k4 (fun _ h9 => h9) rfl (by decide +kernel) rfl rfl (Nat.le_of_ble_eq_true rfl) dX8_act_39 (fun H locs hP hD hS => ?_)
      have hP : va_P E.1 vwCl (Model_c E a (Model_number_s (Model_kind_s (Model_ran_s v 0) ((Model_s v) ((27 + x0)).toNatClampNeg)) x0)) H := hP
      have hD : va_D A (Model_c E a (Model_number_s (Model_kind_s (Model_ran_s v 0) ((Model_s v) ((27 + x0)).toNatClampNeg)) x0)) := hD
      refine lv_aload_n hx hb dX8_act_42 rfl (lv_at hl 0 rfl) ?_
      refine lv_aload_n hx hb dX8_act_43 rfl (lv_at hl 0 rfl) ?_
      refine va_get (D := E.1) (ci := 8) (v := .ref (Modela_s a)) (C := RX8) (T := TX8) (N := 20) hx hb hts k1 hown hK hP 0 rfl rfl 1 (by decide) k2 (fun _ h9 => h9) rfl dX8_act_44 ?_
      refine lv_bipush (v := 33) hx hb dX8_act_47 (by decide) ?_
      refine lv_iload_n hx hb dX8_act_49 rfl (lv_at hl 1 rfl) ?_
      refine lv_iadd hx hb dX8_act_50 ?_
      obtain ⟨h6, hF⟩ := m_chk hF
      refine va_iald (f := (Model_s v)) hx hb hK hP 1 1 rfl rfl (mIn_ok h6) dX8_act_51 ?_
      refine W.eq (g2 := F0 m 52 ls [.int ((Model_s v) ((33 + x0)).toNatClampNeg), .ref (Modela_self a)]) rfl ?_
      refine va_put (D := E.1) (ci := 8) (v := .int ((Model_s v) ((33 + x0)).toNatClampNeg)) (ty := .int) (C := RX8) (T := TX8) (N := 20) hx hb hts k1 tyX8 tyX8_ok nmX8 hown hK hP hD hS 0 rfl rfl 19 (by decide) k5 (fun _ h9 => h9) rfl (by decide +kernel) rfl rfl (Nat.le_of_ble_eq_true rfl) dX8_act_52 (fun H locs hP hD hS => ?_)
      have hP : va_P E.1 vwCl (Model_c E a (Model_tellsV_s (Model_number_s (Model_kind_s (Model_ran_s v 0) ((Model_s v) ((27 + x0)).toNatClampNeg)) x0) ((Model_s v) ((33 + x0)).toNatClampNeg))) H := hP
      have hD : va_D A (Model_c E a (Model_tellsV_s (Model_number_s (Model_kind_s (Model_ran_s v 0) ((Model_s v) ((27 + x0)).toNatClampNeg)) x0) ((Model_s v) ((33 + x0)).toNatClampNeg))) := hD
      refine lv_iload_n hx hb dX8_act_55 rfl (lv_at hl 2 rfl) ?_
      refine lv_if_ne (tgt := 67) hx hb dX8_act_56 (by decide) (fun c7 => ?_) (fun c7 => ?_)
      · have hF := m_pos c7 hF
        refine lv_iload_n hx hb dX8_act_67 rfl (lv_at hl 2 rfl) ?_
        refine lv_iconst (v := 1) hx hb dX8_act_68 (by decide) ?_
        refine lv_icmp_ne (tgt := 80) hx hb dX8_act_69 (by decide) (fun c8 => ?_) (fun c8 => ?_)
        · have hF := m_pos c8 hF
          refine lv_aload_n hx hb dX8_act_80 rfl (lv_at hl 0 rfl) ?_
          refine lv_iload_n hx hb dX8_act_81 rfl (lv_at hl 3 rfl) ?_
          obtain ⟨t9, ht9, hF⟩ := m_bnd hF
          have hPc := hP
          have hDc := hD
          have hFc := va_free (wc := (Model_c E a (Model_tellsV_s (Model_number_s (Model_kind_s (Model_ran_s v 0) ((Model_s v) ((27 + x0)).toNatClampNeg)) x0) ((Model_s v) ((33 + x0)).toNatClampNeg)))) hD hS hA [0, 1, 2, 3, 4, 5, 6, 7] rfl
          refine mVM (ci := 8) (n := 1) (rest := []) (As := [.int x2]) CC hKN hGl (c_X8_tellsActs l E a (Model_tellsV_s (Model_number_s (Model_kind_s (Model_ran_s v 0) ((Model_s v) ((27 + x0)).toNatClampNeg)) x0) ((Model_s v) ((33 + x0)).toNatClampNeg)) x2 t9 ht9 _) gX8_act_X8_tellsActs rfl ⟨rfl, rfl⟩ (by decide +kernel) ⟨Nat.le_of_ble_eq_true rfl, Nat.le_of_ble_eq_true rfl⟩ hPc hDc m_nil m_nilA hS hFc rfl rfl rfl rfl hl.1 rfl (Nat.le_of_ble_eq_true rfl) ⟨Nat.zero_le _, Nat.zero_le _⟩ dX8_act_82 (fun H1 locs hP1 hD1 hz1 hk1 hS => ?_)
          have hP : va_P E.1 vwCl (Model_c E a t9.2) H1 := hP1
          have hD : va_D A (Model_c E a t9.2) := m_back hD1 hFc
          generalize H1 = H at hP hS ⊢
          refine W.eq (g2 := F0 m 85 ls [.int t9.1]) rfl ?_
          have hF := Option.some.inj hF
          subst hF
          rw [hQ]
          exact W.iret hx hb hr (fun t ht _ => ⟨⟨rfl, by rw [ht]; exact hP, hD⟩, hS.F ht⟩) hS.2.2 dX8_act_85
        · have hF := m_neg (fun n9 => n9 c8) hF
          refine lv_aload_n hx hb dX8_act_72 rfl (lv_at hl 0 rfl) ?_
          refine lv_iload_n hx hb dX8_act_73 rfl (lv_at hl 3 rfl) ?_
          obtain ⟨t10, ht10, hF⟩ := m_bnd hF
          have hPc := hP
          have hDc := hD
          have hFc := va_free (wc := (Model_c E a (Model_tellsV_s (Model_number_s (Model_kind_s (Model_ran_s v 0) ((Model_s v) ((27 + x0)).toNatClampNeg)) x0) ((Model_s v) ((33 + x0)).toNatClampNeg)))) hD hS hA [0, 1, 2, 3, 4, 5, 6, 7] rfl
          refine mVM (ci := 8) (n := 1) (rest := []) (As := [.int x2]) CC hKN hGl (c_X8_writesActs l E a (Model_tellsV_s (Model_number_s (Model_kind_s (Model_ran_s v 0) ((Model_s v) ((27 + x0)).toNatClampNeg)) x0) ((Model_s v) ((33 + x0)).toNatClampNeg)) x2 t10 ht10 _) gX8_act_X8_writesActs rfl ⟨rfl, rfl⟩ (by decide +kernel) ⟨Nat.le_of_ble_eq_true rfl, Nat.le_of_ble_eq_true rfl⟩ hPc hDc m_nil m_nilA hS hFc rfl rfl rfl rfl hl.1 rfl (Nat.le_of_ble_eq_true rfl) ⟨Nat.zero_le _, Nat.zero_le _⟩ dX8_act_74 (fun H1 locs hP1 hD1 hz1 hk1 hS => ?_)
          have hP : va_P E.1 vwCl (Model_c E a t10.2) H1 := hP1
          have hD : va_D A (Model_c E a t10.2) := m_back hD1 hFc
          generalize H1 = H at hP hS ⊢
          refine W.eq (g2 := F0 m 77 ls [.int t10.1]) rfl ?_
          refine lv_goto (tgt := 85) hx hb dX8_act_77 (by decide) ?_
          have hF := Option.some.inj hF
          subst hF
          rw [hQ]
          exact W.iret hx hb hr (fun t ht _ => ⟨⟨rfl, by rw [ht]; exact hP, hD⟩, hS.F ht⟩) hS.2.2 dX8_act_85
      · have hF := m_neg (fun n9 => n9 c7) hF
        refine lv_aload_n hx hb dX8_act_59 rfl (lv_at hl 0 rfl) ?_
        refine lv_iload_n hx hb dX8_act_60 rfl (lv_at hl 3 rfl) ?_
        obtain ⟨t11, ht11, hF⟩ := m_bnd hF
        have hPc := hP
        have hDc := hD
        have hFc := va_free (wc := (Model_c E a (Model_tellsV_s (Model_number_s (Model_kind_s (Model_ran_s v 0) ((Model_s v) ((27 + x0)).toNatClampNeg)) x0) ((Model_s v) ((33 + x0)).toNatClampNeg)))) hD hS hA [0, 1, 2, 3, 4, 5, 6, 7] rfl
        refine mVM (ci := 8) (n := 1) (rest := []) (As := [.int x2]) CC hKN hGl (c_X8_thinksActs l E a (Model_tellsV_s (Model_number_s (Model_kind_s (Model_ran_s v 0) ((Model_s v) ((27 + x0)).toNatClampNeg)) x0) ((Model_s v) ((33 + x0)).toNatClampNeg)) x2 t11 ht11 _) gX8_act_X8_thinksActs rfl ⟨rfl, rfl⟩ (by decide +kernel) ⟨Nat.le_of_ble_eq_true rfl, Nat.le_of_ble_eq_true rfl⟩ hPc hDc m_nil m_nilA hS hFc rfl rfl rfl rfl hl.1 rfl (Nat.le_of_ble_eq_true rfl) ⟨Nat.zero_le _, Nat.zero_le _⟩ dX8_act_61 (fun H1 locs hP1 hD1 hz1 hk1 hS => ?_)
        have hP : va_P E.1 vwCl (Model_c E a t11.2) H1 := hP1
        have hD : va_D A (Model_c E a t11.2) := m_back hD1 hFc
        generalize H1 = H at hP hS ⊢
        refine W.eq (g2 := F0 m 64 ls [.int t11.1]) rfl ?_
        refine lv_goto (tgt := 85) hx hb dX8_act_64 (by decide) ?_
        have hF := Option.some.inj hF
        subst hF
        rw [hQ]
        exact W.iret hx hb hr (fun t ht _ => ⟨⟨rfl, by rw [ht]; exact hP, hD⟩, hS.F ht⟩) hS.2.2 dX8_act_85
    · have hF := m_neg (fun n9 => n9 c4) hF
      refine lv_iconst (v := 0) hx hb dX8_act_22 (by decide) ?_
      have hF := Option.some.inj hF
      subst hF
      rw [hQ]
      exact W.iret hx hb hr (fun t ht _ => ⟨⟨rfl, by rw [ht]; exact hP, hD⟩, hS.F ht⟩) hS.2.2 dX8_act_23

abbrev rmX8_trace : Room := { frames := 1, cells := 0, slots := 0, locals := 22 }
set_option maxRecDepth 100000 in
set_option maxHeartbeats 400000 in
theorem c_X8_trace (l : Launch) (E : mE) (a : ModelA) (v : ModelV) (x0 : Int32) (t : Int32) (hF : fn_X8_trace v x0 = some t) : Met l yX8_trace wsX8_trace rmX8_trace (mPp E [.ref (Modela_self a), .int x0] (Model_c E a v)) (mSp (some (.int t))) 0 0 (fun _ => False) := by
  refine mOfP (cc := cX8_trace) (maxL := 2) (ret := (some .int)) (by decide) rfl (Nat.le_of_ble_eq_true rfl) ?_
  intro p e_ s m args below meth c Q hQ CC hr hlocks hP hKN hGl ls hl
  have hS : va_S (fun _ => False) s.heap s.heap [] := va_S.rf
  have hK := hKN.1
  have hx := CC.1
  have hb := CC.2.1
  have hml := CC.2.2.1
  have hown : s.vm.findClass RX8 = some m.cls := CC.2.2.2.1
  have hts := CC.2.2.2.2
  have hl : lv_has ls 2 [(0, .ref (Modela_self a)), (1, .int x0)] := hl
  have k0 := hts (.fieldLink RX8 253 "OneDidAllModel" "ran" "I") (by decide +kernel)
  have k1 := (show ∀ w ∈ u_ws RX8 TX8 20, w ∈ wsX8_trace by decide +kernel)
  have k2 := hts (.fieldLink RX8 31 "OneDidAllModel" "bodies" "[I") (by decide +kernel)
  unfold fn_X8_trace at hF
  refine lv_iload_n hx hb dX8_trace_0 rfl (lv_at hl 1 rfl) ?_
  refine lv_iconst (v := 0) hx hb dX8_trace_1 (by decide) ?_
  refine lv_aload_n hx hb dX8_trace_2 rfl (lv_at hl 0 rfl) ?_
  refine va_get (D := E.1) (ci := 8) (v := .int (Model_ran v)) (C := RX8) (T := TX8) (N := 20) hx hb hts k1 hown hK hP 0 rfl rfl 16 (by decide) k0 (fun _ h9 => h9) rfl dX8_trace_3 ?_
  refine lv_bipush (v := 20) hx hb dX8_trace_6 (by decide) ?_
  obtain ⟨j20, hjd20, hF⟩ := m_jp hF
  have hj20 : ∀ (z0_20 : Int32) (ls : Array Slot), j20 z0_20 = some t → lv_has ls 2 [(0, .ref (Modela_self a)), (1, .int x0)] → W p l e_ rmX8_trace s m args below meth c s.heap [] 0 0 Q (F0 m 20 ls [.int z0_20, .int 0, .int x0]) := by
    intro z0_20 ls hF hl
    rw [hjd20] at hF
    refine lv_iconst (v := 1) hx hb dX8_trace_20 (by decide) ?_
    refine lv_isub hx hb dX8_trace_21 ?_
    obtain ⟨t1, ht1, hF⟩ := m_bnd hF
    refine mSP (n := 3) (rest := []) (As := [.int x0, .int 0, .int (z0_20 - 1)]) CC hKN hGl hS (c_X8_in l E x0 0 (z0_20 - 1) t1 ht1) gX8_trace_X8_in rfl ⟨rfl, rfl⟩ (by decide +kernel) ⟨Nat.le_of_ble_eq_true rfl, Nat.le_of_ble_eq_true rfl⟩ m_nil rfl hl.1 rfl (Nat.le_of_ble_eq_true rfl) ⟨Nat.zero_le _, Nat.zero_le _⟩ dX8_trace_22 ?_
    refine W.eq (g2 := F0 m 25 ls [.int t1]) rfl ?_
    refine lv_if_eq (tgt := 37) hx hb dX8_trace_25 (by decide) (fun c2 => ?_) (fun c2 => ?_)
    · have hF := m_pos c2 hF
      refine lv_iconst (v := (-1)) hx hb dX8_trace_37 (by decide) ?_
      have hF := Option.some.inj hF
      subst hF
      rw [hQ]
      exact W.iret hx hb hr (fun t ht _ => ⟨rfl, ht⟩) (fun _ h => by cases h) dX8_trace_38
    · have hF := m_neg c2 hF
      refine lv_aload_n hx hb dX8_trace_28 rfl (lv_at hl 0 rfl) ?_
      refine va_get (D := E.1) (ci := 8) (v := .ref (Modela_bodies a)) (C := RX8) (T := TX8) (N := 20) hx hb hts k1 hown hK hP 0 rfl rfl 15 (by decide) k2 (fun _ h9 => h9) rfl dX8_trace_29 ?_
      refine lv_iload_n hx hb dX8_trace_32 rfl (lv_at hl 1 rfl) ?_
      obtain ⟨h3, hF⟩ := m_chk hF
      refine va_iald (f := (Model_bodies v)) hx hb hK hP 7 1 rfl rfl (mIn_ok h3) dX8_trace_33 ?_
      refine W.eq (g2 := F0 m 34 ls [.int ((Model_bodies v) (x0).toNatClampNeg)]) rfl ?_
      refine lv_goto (tgt := 38) hx hb dX8_trace_34 (by decide) ?_
      have hF := Option.some.inj hF
      subst hF
      rw [hQ]
      exact W.iret hx hb hr (fun t ht _ => ⟨rfl, ht⟩) (fun _ h => by cases h) dX8_trace_38
  clear hjd20
  refine lv_icmp_ge (tgt := 18) hx hb dX8_trace_8 (by decide) (fun c4 => ?_) (fun c4 => ?_)
  · have hF := m_pos c4 hF
    refine lv_bipush (v := 20) hx hb dX8_trace_18 (by decide) ?_
    exact hj20 20 ls hF (lv_sub hl [0, 1] rfl)
  · have hF := m_neg c4 hF
    refine lv_aload_n hx hb dX8_trace_11 rfl (lv_at hl 0 rfl) ?_
    refine va_get (D := E.1) (ci := 8) (v := .int (Model_ran v)) (C := RX8) (T := TX8) (N := 20) hx hb hts k1 hown hK hP 0 rfl rfl 16 (by decide) k0 (fun _ h9 => h9) rfl dX8_trace_12 ?_
    refine lv_goto (tgt := 20) hx hb dX8_trace_15 (by decide) ?_
    exact hj20 (Model_ran v) ls hF (lv_sub hl [0, 1] rfl)

abbrev rmX8_as : Room := { frames := 2, cells := 0, slots := 0, locals := 43 }
set_option maxRecDepth 100000 in
set_option maxHeartbeats 400000 in
theorem c_X8_as (l : Launch) (E : mE) (a : ModelA) (v : ModelV) (x0 : Int32) (x1 : Int32) (t : Int32) (hF : fn_X8_as v x0 x1 = some t) : Met l yX8_as wsX8_as rmX8_as (mPp E [.ref (Modela_self a), .int x0, .int x1] (Model_c E a v)) (mSp (some (.int t))) 0 0 (fun _ => False) := by
  refine mOfP (cc := cX8_as) (maxL := 3) (ret := (some .int)) (by decide) rfl (Nat.le_of_ble_eq_true rfl) ?_
  intro p e_ s m args below meth c Q hQ CC hr hlocks hP hKN hGl ls hl
  have hS : va_S (fun _ => False) s.heap s.heap [] := va_S.rf
  have hK := hKN.1
  have hx := CC.1
  have hb := CC.2.1
  have hml := CC.2.2.1
  have hown : s.vm.findClass RX8 = some m.cls := CC.2.2.2.1
  have hts := CC.2.2.2.2
  have hl : lv_has ls 3 [(0, .ref (Modela_self a)), (1, .int x0), (2, .int x1)] := hl
  have k0 := hts (.fieldLink RX8 9 "OneDidAllModel" "s" "[I") (by decide +kernel)
  have k1 := (show ∀ w ∈ u_ws RX8 TX8 20, w ∈ wsX8_as by decide +kernel)
  unfold fn_X8_as at hF
  refine lv_aload_n hx hb dX8_as_0 rfl (lv_at hl 0 rfl) ?_
  refine lv_iload_n hx hb dX8_as_1 rfl (lv_at hl 1 rfl) ?_
  obtain ⟨t1, ht1, hF⟩ := m_bnd hF
  refine mVP (ci := 8) (n := 1) (rest := []) (As := [.int x0]) CC hKN hGl hS (c_X8_isPupil l E a v x0 t1 ht1) gX8_as_X8_isPupil rfl ⟨rfl, rfl⟩ (by decide +kernel) ⟨Nat.le_of_ble_eq_true rfl, Nat.le_of_ble_eq_true rfl⟩ hP rfl rfl rfl rfl hl.1 rfl (Nat.le_of_ble_eq_true rfl) ⟨Nat.zero_le _, Nat.zero_le _⟩ dX8_as_2 ?_
  refine W.eq (g2 := F0 m 5 ls [.int t1]) rfl ?_
  refine lv_if_eq (tgt := 18) hx hb dX8_as_5 (by decide) (fun c2 => ?_) (fun c2 => ?_)
  · have hF := m_pos c2 hF
    refine lv_iconst (v := (-1)) hx hb dX8_as_18 (by decide) ?_
    have hF := Option.some.inj hF
    subst hF
    rw [hQ]
    exact W.iret hx hb hr (fun t ht _ => ⟨rfl, ht⟩) (fun _ h => by cases h) dX8_as_19
  · have hF := m_neg c2 hF
    refine lv_iload_n hx hb dX8_as_8 rfl (lv_at hl 2 rfl) ?_
    refine lv_iconst (v := 0) hx hb dX8_as_9 (by decide) ?_
    refine lv_bipush (v := 6) hx hb dX8_as_10 (by decide) ?_
    obtain ⟨t3, ht3, hF⟩ := m_bnd hF
    refine mSP (n := 3) (rest := []) (As := [.int x1, .int 0, .int 6]) CC hKN hGl hS (c_X8_in l E x1 0 6 t3 ht3) gX8_as_X8_in rfl ⟨rfl, rfl⟩ (by decide +kernel) ⟨Nat.le_of_ble_eq_true rfl, Nat.le_of_ble_eq_true rfl⟩ m_nil rfl hl.1 rfl (Nat.le_of_ble_eq_true rfl) ⟨Nat.zero_le _, Nat.zero_le _⟩ dX8_as_12 ?_
    refine W.eq (g2 := F0 m 15 ls [.int t3]) rfl ?_
    refine lv_if_ne (tgt := 20) hx hb dX8_as_15 (by decide) (fun c4 => ?_) (fun c4 => ?_)
    · have hF := m_pos c4 hF
      refine lv_aload_n hx hb dX8_as_20 rfl (lv_at hl 0 rfl) ?_
      refine va_get (D := E.1) (ci := 8) (v := .ref (Modela_s a)) (C := RX8) (T := TX8) (N := 20) hx hb hts k1 hown hK hP 0 rfl rfl 1 (by decide) k0 (fun _ h9 => h9) rfl dX8_as_21 ?_
      refine lv_bipush (v := 27) hx hb dX8_as_24 (by decide) ?_
      refine lv_iload_n hx hb dX8_as_26 rfl (lv_at hl 1 rfl) ?_
      refine lv_iadd hx hb dX8_as_27 ?_
      obtain ⟨h5, hF⟩ := m_chk hF
      refine va_iald (f := (Model_s v)) hx hb hK hP 1 1 rfl rfl (mIn_ok h5) dX8_as_28 ?_
      refine W.eq (g2 := F0 m 29 ls [.int ((Model_s v) ((27 + x0)).toNatClampNeg)]) rfl ?_
      refine lv_iload_n hx hb dX8_as_29 rfl (lv_at hl 2 rfl) ?_
      obtain ⟨t6, ht6, hF⟩ := m_bnd hF
      refine mSP (n := 2) (rest := []) (As := [.int ((Model_s v) ((27 + x0)).toNatClampNeg), .int x1]) CC hKN hGl hS (c_X8_isUnder l E ((Model_s v) ((27 + x0)).toNatClampNeg) x1 t6 ht6) gX8_as_X8_isUnder rfl ⟨rfl, rfl⟩ (by decide +kernel) ⟨Nat.le_of_ble_eq_true rfl, Nat.le_of_ble_eq_true rfl⟩ m_nil rfl hl.1 rfl (Nat.le_of_ble_eq_true rfl) ⟨Nat.zero_le _, Nat.zero_le _⟩ dX8_as_30 ?_
      refine W.eq (g2 := F0 m 33 ls [.int t6]) rfl ?_
      refine lv_if_eq (tgt := 48) hx hb dX8_as_33 (by decide) (fun c7 => ?_) (fun c7 => ?_)
      · have hF := m_pos c7 hF
        refine lv_bipush (v := (-6)) hx hb dX8_as_48 (by decide) ?_
        have hF := Option.some.inj hF
        subst hF
        rw [hQ]
        exact W.iret hx hb hr (fun t ht _ => ⟨rfl, ht⟩) (fun _ h => by cases h) dX8_as_50
      · have hF := m_neg c7 hF
        refine lv_aload_n hx hb dX8_as_36 rfl (lv_at hl 0 rfl) ?_
        refine va_get (D := E.1) (ci := 8) (v := .ref (Modela_s a)) (C := RX8) (T := TX8) (N := 20) hx hb hts k1 hown hK hP 0 rfl rfl 1 (by decide) k0 (fun _ h9 => h9) rfl dX8_as_37 ?_
        refine lv_bipush (v := 33) hx hb dX8_as_40 (by decide) ?_
        refine lv_iload_n hx hb dX8_as_42 rfl (lv_at hl 1 rfl) ?_
        refine lv_iadd hx hb dX8_as_43 ?_
        obtain ⟨h8, hF⟩ := m_chk hF
        refine va_iald (f := (Model_s v)) hx hb hK hP 1 1 rfl rfl (mIn_ok h8) dX8_as_44 ?_
        refine W.eq (g2 := F0 m 45 ls [.int ((Model_s v) ((33 + x0)).toNatClampNeg)]) rfl ?_
        refine lv_goto (tgt := 50) hx hb dX8_as_45 (by decide) ?_
        have hF := Option.some.inj hF
        subst hF
        rw [hQ]
        exact W.iret hx hb hr (fun t ht _ => ⟨rfl, ht⟩) (fun _ h => by cases h) dX8_as_50
    · have hF := m_neg (fun n9 => n9 c4) hF
      refine lv_iconst (v := (-1)) hx hb dX8_as_18 (by decide) ?_
      have hF := Option.some.inj hF
      subst hF
      rw [hQ]
      exact W.iret hx hb hr (fun t ht _ => ⟨rfl, ht⟩) (fun _ h => by cases h) dX8_as_19

abbrev rmX8_image : Room := { frames := 0, cells := 0, slots := 0, locals := 0 }
set_option maxRecDepth 100000 in
set_option maxHeartbeats 400000 in
theorem c_X8_image (l : Launch) (E : mE) (a : ModelA) (v : ModelV) (t : (Int32 × ModelV)) (hF : fn_X8_image v = some t) (sz : Nat) : Met l yX8_image wsX8_image rmX8_image (mPm E [.ref (Modela_self a)] sz ((Model_c E a v)) (([] : va_W))) (mSm E (some (.int t.1)) ((Model_c E a t.2)) (va_A ((Model_c E a v)) sz)) 0 0 (va_A ((Model_c E a v)) sz) := by
  refine mOfM (cc := cX8_image) (maxL := 2) (ret := (some .int)) (by decide) rfl (Nat.le_of_ble_eq_true rfl) ?_
  intro p e_ s m args below meth c Q A hQ CC hr hlocks hin hA hP hD hKN hGl hR0 hRA ls hl
  have hS : va_S A s.heap s.heap [] := va_S.rf
  have hK := hKN.1
  have hx := CC.1
  have hb := CC.2.1
  have hml := CC.2.2.1
  have hown : s.vm.findClass RX8 = some m.cls := CC.2.2.2.1
  have hts := CC.2.2.2.2
  have hl : lv_has ls 2 [(0, .ref (Modela_self a))] := hl
  have k0 := hts (.fieldLink RX8 290 "OneDidAllModel" "hasImage" "Z") (by decide +kernel)
  have k1 := (show ∀ w ∈ u_ws RX8 TX8 20, w ∈ wsX8_image by decide +kernel)
  have k2 := hts (.fieldLink RX8 9 "OneDidAllModel" "s" "[I") (by decide +kernel)
  have k3 := hts (.fieldLink RX8 15 "OneDidAllModel" "image" "[I") (by decide +kernel)
  have hP : va_P E.1 vwCl (Model_c E a v) s.heap := hP
  obtain ⟨H, hH⟩ : ∃ H, H = s.heap := ⟨_, rfl⟩
  obtain ⟨locs, hlc⟩ : ∃ z : List Loc, z = [] := ⟨_, rfl⟩
  rw [← hH] at hP
  rw [← hlc] at hS
  have hS : va_S A s.heap H locs := by rw [hH]; exact hS
  rw [← hH, ← hlc]
  unfold fn_X8_image at hF
  refine lv_iconst (v := 0) hx hb dX8_image_0 (by decide) ?_
  refine lv_istore_n (lv' := [(1, .int 0), (0, .ref (Modela_self a))]) hx hb dX8_image_1 rfl hl (by decide) rfl (fun ls hl => ?_)
  obtain ⟨j27, hjd27, hF⟩ := m_jp hF
  have hj27 : ∀ (wx_27 : ModelV) (H : Heap) (locs : List Loc) (ls : Array Slot), j27 wx_27 = some t → va_P E.1 vwCl (Model_c E a wx_27) H → va_D A (Model_c E a wx_27) → va_S A s.heap H locs → lv_has ls 2 [(0, .ref (Modela_self a))] → W p l e_ rmX8_image s m args below meth c H locs 0 0 Q (F0 m 27 ls []) := by
    intro wx_27 H locs ls hF hP hD hS hl
    rw [hjd27] at hF
    refine lv_aload_n hx hb dX8_image_27 rfl (lv_at hl 0 rfl) ?_
    refine lv_iconst (v := 1) hx hb dX8_image_28 (by decide) ?_
    refine va_put (D := E.1) (ci := 8) (v := .int 1) (ty := .boolean) (C := RX8) (T := TX8) (N := 20) hx hb hts k1 tyX8 tyX8_ok nmX8 hown hK hP hD hS 0 rfl rfl 4 (by decide) k0 (fun _ h9 => h9) rfl (by decide +kernel) rfl rfl (Nat.le_of_ble_eq_true rfl) dX8_image_29 (fun H locs hP hD hS => ?_)
    have hP : va_P E.1 vwCl (Model_c E a (Model_hasImage_s wx_27 1)) H := hP
    have hD : va_D A (Model_c E a (Model_hasImage_s wx_27 1)) := hD
    refine lv_aload_n hx hb dX8_image_32 rfl (lv_at hl 0 rfl) ?_
    refine va_get (D := E.1) (ci := 8) (v := .ref (Modela_s a)) (C := RX8) (T := TX8) (N := 20) hx hb hts k1 hown hK hP 0 rfl rfl 1 (by decide) k2 (fun _ h9 => h9) rfl dX8_image_33 ?_
    refine lv_bipush (v := 20) hx hb dX8_image_36 (by decide) ?_
    obtain ⟨h1, hF⟩ := m_chk hF
    refine va_iald (f := (Model_s wx_27)) hx hb hK hP 1 1 rfl rfl (mIn_ok h1) dX8_image_38 ?_
    refine W.eq (g2 := F0 m 39 ls [.int ((Model_s wx_27) (20 : Int32).toNatClampNeg)]) rfl ?_
    have hF := Option.some.inj hF
    subst hF
    rw [hQ]
    exact W.iret hx hb hr (fun t ht _ => ⟨⟨rfl, by rw [ht]; exact hP, hD⟩, hS.F ht⟩) hS.2.2 dX8_image_39
  clear hjd27
  have hL2 : ∀ (n : Nat) (y1_2 : Int32) (wy_2 : ModelV) (H : Heap) (locs : List Loc) (ls : Array Slot), lp_X8_image_2 j27 n y1_2 wy_2 = some t → va_P E.1 vwCl (Model_c E a wy_2) H → va_D A (Model_c E a wy_2) → va_S A s.heap H locs → lv_has ls 2 [(0, .ref (Modela_self a)), (1, .int y1_2)] → W p l e_ rmX8_image s m args below meth c H locs 0 0 Q (F0 m 2 ls []) := by
    intro n
    induction n with
    | zero =>
      intro y1_2 wy_2 H locs ls hF
      exact nomatch (show (none : Option (Int32 × ModelV)) = some t from hF)
    | succ n ih2 =>
      intro y1_2 wy_2 H locs ls hF hP hD hS hl
      have hF : st_X8_image_2 j27 (lp_X8_image_2 j27 n) y1_2 wy_2 = some t := hF
      unfold st_X8_image_2 at hF
      refine lv_iload_n hx hb dX8_image_2 rfl (lv_at hl 1 rfl) ?_
      refine lv_sipush (v := 926) hx hb dX8_image_3 (by decide) ?_
      refine lv_icmp_ge (tgt := 27) hx hb dX8_image_6 (by decide) (fun c2 => ?_) (fun c2 => ?_)
      · have hF := m_pos c2 hF
        exact hj27 wy_2 H locs ls hF hP hD hS (lv_sub hl [0] rfl)
      · have hF := m_neg c2 hF
        refine lv_aload_n hx hb dX8_image_9 rfl (lv_at hl 0 rfl) ?_
        refine va_get (D := E.1) (ci := 8) (v := .ref (Modela_image a)) (C := RX8) (T := TX8) (N := 20) hx hb hts k1 hown hK hP 0 rfl rfl 2 (by decide) k3 (fun _ h9 => h9) rfl dX8_image_10 ?_
        refine lv_iload_n hx hb dX8_image_13 rfl (lv_at hl 1 rfl) ?_
        refine lv_aload_n hx hb dX8_image_14 rfl (lv_at hl 0 rfl) ?_
        refine va_get (D := E.1) (ci := 8) (v := .ref (Modela_s a)) (C := RX8) (T := TX8) (N := 20) hx hb hts k1 hown hK hP 0 rfl rfl 1 (by decide) k2 (fun _ h9 => h9) rfl dX8_image_15 ?_
        refine lv_iload_n hx hb dX8_image_18 rfl (lv_at hl 1 rfl) ?_
        obtain ⟨h3, hF⟩ := m_chk hF
        refine va_iald (f := (Model_s wy_2)) hx hb hK hP 1 1 rfl rfl (mIn_ok h3) dX8_image_19 ?_
        refine W.eq (g2 := F0 m 20 ls [.int ((Model_s wy_2) (y1_2).toNatClampNeg), .int y1_2, .ref (Modela_image a)]) rfl ?_
        obtain ⟨h4, hF⟩ := m_chk hF
        refine va_iast (f := (Model_image wy_2)) hx hb hK hP hD hS 2 1 rfl rfl (mIn_ok h4) dX8_image_20 (fun H locs hP hD hS => ?_)
        have hP : va_P E.1 vwCl (Model_c E a (Model_image_s wy_2 (upd (Model_image wy_2) (y1_2).toNatClampNeg ((Model_s wy_2) (y1_2).toNatClampNeg)))) H := hP
        have hD : va_D A (Model_c E a (Model_image_s wy_2 (upd (Model_image wy_2) (y1_2).toNatClampNeg ((Model_s wy_2) (y1_2).toNatClampNeg)))) := hD
        refine lv_iinc (v := (y1_2 + 1)) (lv' := [(1, .int (y1_2 + 1)), (0, .ref (Modela_self a))]) hx hb dX8_image_21 hl (k := 1) rfl rfl (by decide) rfl (fun ls hl => ?_)
        refine lv_goto (tgt := 2) hx hb dX8_image_24 (by decide) ?_
        exact ih2 (y1_2 + 1) (Model_image_s wy_2 (upd (Model_image wy_2) (y1_2).toNatClampNeg ((Model_s wy_2) (y1_2).toNatClampNeg))) H locs ls hF hP hD hS (lv_sub hl [1, 0] rfl)
  exact hL2 m_N 0 v H locs ls hF hP hD hS (lv_sub hl [1, 0] rfl)

abbrev rmX8_undo : Room := { frames := 0, cells := 0, slots := 0, locals := 0 }
set_option maxRecDepth 100000 in
set_option maxHeartbeats 400000 in
theorem c_X8_undo (l : Launch) (E : mE) (a : ModelA) (v : ModelV) (t : (Int32 × ModelV)) (hF : fn_X8_undo v = some t) (sz : Nat) : Met l yX8_undo wsX8_undo rmX8_undo (mPm E [.ref (Modela_self a)] sz ((Model_c E a v)) (([] : va_W))) (mSm E (some (.int t.1)) ((Model_c E a t.2)) (va_A ((Model_c E a v)) sz)) 0 0 (va_A ((Model_c E a v)) sz) := by
  refine mOfM (cc := cX8_undo) (maxL := 2) (ret := (some .int)) (by decide) rfl (Nat.le_of_ble_eq_true rfl) ?_
  intro p e_ s m args below meth c Q A hQ CC hr hlocks hin hA hP hD hKN hGl hR0 hRA ls hl
  have hS : va_S A s.heap s.heap [] := va_S.rf
  have hK := hKN.1
  have hx := CC.1
  have hb := CC.2.1
  have hml := CC.2.2.1
  have hown : s.vm.findClass RX8 = some m.cls := CC.2.2.2.1
  have hts := CC.2.2.2.2
  have hl : lv_has ls 2 [(0, .ref (Modela_self a))] := hl
  have k0 := hts (.fieldLink RX8 290 "OneDidAllModel" "hasImage" "Z") (by decide +kernel)
  have k1 := (show ∀ w ∈ u_ws RX8 TX8 20, w ∈ wsX8_undo by decide +kernel)
  have k2 := hts (.fieldLink RX8 9 "OneDidAllModel" "s" "[I") (by decide +kernel)
  have k3 := hts (.fieldLink RX8 15 "OneDidAllModel" "image" "[I") (by decide +kernel)
  have hP : va_P E.1 vwCl (Model_c E a v) s.heap := hP
  obtain ⟨H, hH⟩ : ∃ H, H = s.heap := ⟨_, rfl⟩
  obtain ⟨locs, hlc⟩ : ∃ z : List Loc, z = [] := ⟨_, rfl⟩
  rw [← hH] at hP
  rw [← hlc] at hS
  have hS : va_S A s.heap H locs := by rw [hH]; exact hS
  rw [← hH, ← hlc]
  unfold fn_X8_undo at hF
  refine lv_aload_n hx hb dX8_undo_0 rfl (lv_at hl 0 rfl) ?_
  refine va_get (D := E.1) (ci := 8) (v := .int (Model_hasImage v)) (C := RX8) (T := TX8) (N := 20) hx hb hts k1 hown hK hP 0 rfl rfl 4 (by decide) k0 (fun _ h9 => h9) rfl dX8_undo_1 ?_
  refine lv_if_ne (tgt := 10) hx hb dX8_undo_4 (by decide) (fun c1 => ?_) (fun c1 => ?_)
  · have hF := m_pos c1 hF
    refine lv_iconst (v := 0) hx hb dX8_undo_10 (by decide) ?_
    refine lv_istore_n (lv' := [(1, .int 0), (0, .ref (Modela_self a))]) hx hb dX8_undo_11 rfl hl (by decide) rfl (fun ls hl => ?_)
    obtain ⟨j37, hjd37, hF⟩ := m_jp hF
    have hj37 : ∀ (wx_37 : ModelV) (H : Heap) (locs : List Loc) (ls : Array Slot), j37 wx_37 = some t → va_P E.1 vwCl (Model_c E a wx_37) H → va_D A (Model_c E a wx_37) → va_S A s.heap H locs → lv_has ls 2 [(0, .ref (Modela_self a))] → W p l e_ rmX8_undo s m args below meth c H locs 0 0 Q (F0 m 37 ls []) := by
      intro wx_37 H locs ls hF hP hD hS hl
      rw [hjd37] at hF
      refine lv_aload_n hx hb dX8_undo_37 rfl (lv_at hl 0 rfl) ?_
      refine va_get (D := E.1) (ci := 8) (v := .ref (Modela_s a)) (C := RX8) (T := TX8) (N := 20) hx hb hts k1 hown hK hP 0 rfl rfl 1 (by decide) k2 (fun _ h9 => h9) rfl dX8_undo_38 ?_
      refine lv_bipush (v := 20) hx hb dX8_undo_41 (by decide) ?_
      obtain ⟨h2, hF⟩ := m_chk hF
      refine va_iald (f := (Model_s wx_37)) hx hb hK hP 1 1 rfl rfl (mIn_ok h2) dX8_undo_43 ?_
      refine W.eq (g2 := F0 m 44 ls [.int ((Model_s wx_37) (20 : Int32).toNatClampNeg)]) rfl ?_
      have hF := Option.some.inj hF
      subst hF
      rw [hQ]
      exact W.iret hx hb hr (fun t ht _ => ⟨⟨rfl, by rw [ht]; exact hP, hD⟩, hS.F ht⟩) hS.2.2 dX8_undo_44
    clear hjd37
    have hL12 : ∀ (n : Nat) (y1_12 : Int32) (wy_12 : ModelV) (H : Heap) (locs : List Loc) (ls : Array Slot), lp_X8_undo_12 j37 n y1_12 wy_12 = some t → va_P E.1 vwCl (Model_c E a wy_12) H → va_D A (Model_c E a wy_12) → va_S A s.heap H locs → lv_has ls 2 [(0, .ref (Modela_self a)), (1, .int y1_12)] → W p l e_ rmX8_undo s m args below meth c H locs 0 0 Q (F0 m 12 ls []) := by
      intro n
      induction n with
      | zero =>
        intro y1_12 wy_12 H locs ls hF
        exact nomatch (show (none : Option (Int32 × ModelV)) = some t from hF)
      | succ n ih12 =>
        intro y1_12 wy_12 H locs ls hF hP hD hS hl
        have hF : st_X8_undo_12 j37 (lp_X8_undo_12 j37 n) y1_12 wy_12 = some t := hF
        unfold st_X8_undo_12 at hF
        refine lv_iload_n hx hb dX8_undo_12 rfl (lv_at hl 1 rfl) ?_
        refine lv_sipush (v := 926) hx hb dX8_undo_13 (by decide) ?_
        refine lv_icmp_ge (tgt := 37) hx hb dX8_undo_16 (by decide) (fun c3 => ?_) (fun c3 => ?_)
        · have hF := m_pos c3 hF
          exact hj37 wy_12 H locs ls hF hP hD hS (lv_sub hl [0] rfl)
        · have hF := m_neg c3 hF
          refine lv_aload_n hx hb dX8_undo_19 rfl (lv_at hl 0 rfl) ?_
          refine va_get (D := E.1) (ci := 8) (v := .ref (Modela_s a)) (C := RX8) (T := TX8) (N := 20) hx hb hts k1 hown hK hP 0 rfl rfl 1 (by decide) k2 (fun _ h9 => h9) rfl dX8_undo_20 ?_
          refine lv_iload_n hx hb dX8_undo_23 rfl (lv_at hl 1 rfl) ?_
          refine lv_aload_n hx hb dX8_undo_24 rfl (lv_at hl 0 rfl) ?_
          refine va_get (D := E.1) (ci := 8) (v := .ref (Modela_image a)) (C := RX8) (T := TX8) (N := 20) hx hb hts k1 hown hK hP 0 rfl rfl 2 (by decide) k3 (fun _ h9 => h9) rfl dX8_undo_25 ?_
          refine lv_iload_n hx hb dX8_undo_28 rfl (lv_at hl 1 rfl) ?_
          obtain ⟨h4, hF⟩ := m_chk hF
          refine va_iald (f := (Model_image wy_12)) hx hb hK hP 2 1 rfl rfl (mIn_ok h4) dX8_undo_29 ?_
          refine W.eq (g2 := F0 m 30 ls [.int ((Model_image wy_12) (y1_12).toNatClampNeg), .int y1_12, .ref (Modela_s a)]) rfl ?_
          obtain ⟨h5, hF⟩ := m_chk hF
          refine va_iast (f := (Model_s wy_12)) hx hb hK hP hD hS 1 1 rfl rfl (mIn_ok h5) dX8_undo_30 (fun H locs hP hD hS => ?_)
          have hP : va_P E.1 vwCl (Model_c E a (Model_s_s wy_12 (upd (Model_s wy_12) (y1_12).toNatClampNeg ((Model_image wy_12) (y1_12).toNatClampNeg)))) H := hP
          have hD : va_D A (Model_c E a (Model_s_s wy_12 (upd (Model_s wy_12) (y1_12).toNatClampNeg ((Model_image wy_12) (y1_12).toNatClampNeg)))) := hD
          refine lv_iinc (v := (y1_12 + 1)) (lv' := [(1, .int (y1_12 + 1)), (0, .ref (Modela_self a))]) hx hb dX8_undo_31 hl (k := 1) rfl rfl (by decide) rfl (fun ls hl => ?_)
          refine lv_goto (tgt := 12) hx hb dX8_undo_34 (by decide) ?_
          exact ih12 (y1_12 + 1) (Model_s_s wy_12 (upd (Model_s wy_12) (y1_12).toNatClampNeg ((Model_image wy_12) (y1_12).toNatClampNeg))) H locs ls hF hP hD hS (lv_sub hl [1, 0] rfl)
    exact hL12 m_N 0 v H locs ls hF hP hD hS (lv_sub hl [1, 0] rfl)
  · have hF := m_neg (fun n9 => n9 c1) hF
    refine lv_bipush (v := (-3)) hx hb dX8_undo_7 (by decide) ?_
    have hF := Option.some.inj hF
    subst hF
    rw [hQ]
    exact W.iret hx hb hr (fun t ht _ => ⟨⟨rfl, by rw [ht]; exact hP, hD⟩, hS.F ht⟩) hS.2.2 dX8_undo_9

abbrev rmX8_count : Room := { frames := 1, cells := 0, slots := 0, locals := 22 }
set_option maxRecDepth 100000 in
set_option maxHeartbeats 400000 in
theorem c_X8_count (l : Launch) (E : mE) (a : ModelA) (v : ModelV) (x0 : Int32) (t : Int32) (hF : fn_X8_count v x0 = some t) : Met l yX8_count wsX8_count rmX8_count (mPp E [.ref (Modela_self a), .int x0] (Model_c E a v)) (mSp (some (.int t))) 0 0 (fun _ => False) := by
  refine mOfP (cc := cX8_count) (maxL := 2) (ret := (some .int)) (by decide) rfl (Nat.le_of_ble_eq_true rfl) ?_
  intro p e_ s m args below meth c Q hQ CC hr hlocks hP hKN hGl ls hl
  have hS : va_S (fun _ => False) s.heap s.heap [] := va_S.rf
  have hK := hKN.1
  have hx := CC.1
  have hb := CC.2.1
  have hml := CC.2.2.1
  have hown : s.vm.findClass RX8 = some m.cls := CC.2.2.2.1
  have hts := CC.2.2.2.2
  have hl : lv_has ls 2 [(0, .ref (Modela_self a)), (1, .int x0)] := hl
  have k0 := hts (.fieldLink RX8 9 "OneDidAllModel" "s" "[I") (by decide +kernel)
  have k1 := (show ∀ w ∈ u_ws RX8 TX8 20, w ∈ wsX8_count by decide +kernel)
  have k2 := hts (.fieldLink RX8 253 "OneDidAllModel" "ran" "I") (by decide +kernel)
  unfold fn_X8_count at hF
  refine lv_iload_n hx hb dX8_count_0 rfl (lv_at hl 1 rfl) ?_
  refine lv_bipush (v := 6) hx hb dX8_count_1 (by decide) ?_
  refine lv_icmp_ne (tgt := 13) hx hb dX8_count_3 (by decide) (fun c1 => ?_) (fun c1 => ?_)
  · have hF := m_pos c1 hF
    refine lv_iload_n hx hb dX8_count_13 rfl (lv_at hl 1 rfl) ?_
    refine lv_iconst (v := 0) hx hb dX8_count_14 (by decide) ?_
    refine lv_iconst (v := 5) hx hb dX8_count_15 (by decide) ?_
    obtain ⟨t2, ht2, hF⟩ := m_bnd hF
    refine mSP (n := 3) (rest := []) (As := [.int x0, .int 0, .int 5]) CC hKN hGl hS (c_X8_in l E x0 0 5 t2 ht2) gX8_count_X8_in rfl ⟨rfl, rfl⟩ (by decide +kernel) ⟨Nat.le_of_ble_eq_true rfl, Nat.le_of_ble_eq_true rfl⟩ m_nil rfl hl.1 rfl (Nat.le_of_ble_eq_true rfl) ⟨Nat.zero_le _, Nat.zero_le _⟩ dX8_count_16 ?_
    refine W.eq (g2 := F0 m 19 ls [.int t2]) rfl ?_
    refine lv_if_eq (tgt := 34) hx hb dX8_count_19 (by decide) (fun c3 => ?_) (fun c3 => ?_)
    · have hF := m_pos c3 hF
      refine lv_iconst (v := (-1)) hx hb dX8_count_34 (by decide) ?_
      have hF := Option.some.inj hF
      subst hF
      rw [hQ]
      exact W.iret hx hb hr (fun t ht _ => ⟨rfl, ht⟩) (fun _ h => by cases h) dX8_count_35
    · have hF := m_neg c3 hF
      refine lv_aload_n hx hb dX8_count_22 rfl (lv_at hl 0 rfl) ?_
      refine va_get (D := E.1) (ci := 8) (v := .ref (Modela_s a)) (C := RX8) (T := TX8) (N := 20) hx hb hts k1 hown hK hP 0 rfl rfl 1 (by decide) k0 (fun _ h9 => h9) rfl dX8_count_23 ?_
      refine lv_bipush (v := 20) hx hb dX8_count_26 (by decide) ?_
      refine lv_iload_n hx hb dX8_count_28 rfl (lv_at hl 1 rfl) ?_
      refine lv_iadd hx hb dX8_count_29 ?_
      obtain ⟨h4, hF⟩ := m_chk hF
      refine va_iald (f := (Model_s v)) hx hb hK hP 1 1 rfl rfl (mIn_ok h4) dX8_count_30 ?_
      refine W.eq (g2 := F0 m 31 ls [.int ((Model_s v) ((20 + x0)).toNatClampNeg)]) rfl ?_
      refine lv_goto (tgt := 35) hx hb dX8_count_31 (by decide) ?_
      have hF := Option.some.inj hF
      subst hF
      rw [hQ]
      exact W.iret hx hb hr (fun t ht _ => ⟨rfl, ht⟩) (fun _ h => by cases h) dX8_count_35
  · have hF := m_neg (fun n9 => n9 c1) hF
    refine lv_aload_n hx hb dX8_count_6 rfl (lv_at hl 0 rfl) ?_
    refine va_get (D := E.1) (ci := 8) (v := .int (Model_ran v)) (C := RX8) (T := TX8) (N := 20) hx hb hts k1 hown hK hP 0 rfl rfl 16 (by decide) k2 (fun _ h9 => h9) rfl dX8_count_7 ?_
    refine lv_goto (tgt := 35) hx hb dX8_count_10 (by decide) ?_
    have hF := Option.some.inj hF
    subst hF
    rw [hQ]
    exact W.iret hx hb hr (fun t ht _ => ⟨rfl, ht⟩) (fun _ h => by cases h) dX8_count_35

abbrev rm_Tk (d : Nat) : Room := { frames := d + 1, cells := 0, slots := 0, locals := d * 23 + 21 }
set_option maxRecDepth 100000 in
set_option maxHeartbeats 400000 in
theorem cg_Tk (l : Launch) (E : mE) : ∀ d : Nat, (∀ (a : ActsA) (v : ActsV) (x0 : Int32) (x1 : Int32) (x2 : Int32) (t : (Int32 × ActsV)) (_ : fn_X0_thinks d v x0 x1 x2 = some t) (sz : Nat), Met l yX0_thinks wsX0_thinks (rm_Tk d) (mPm E [.ref (Actsa_self a), .int x0, .int x1, .int x2] sz ((Acts_c E a v)) (([] : va_W))) (mSm E (some (.int t.1)) ((Acts_c E a t.2)) (va_A ((Acts_c E a v)) sz)) 0 0 (va_A ((Acts_c E a v)) sz)) := by
  intro d
  induction d with
  | zero =>
    refine ?_
    · intro a v x0 x1 x2 t hF
      exact nomatch (show (none : Option (Int32 × ActsV)) = some t from hF)
  | succ d ihd =>
    refine ?_
    · intro a v x0 x1 x2 t hF sz
      refine mOfM (cc := cX0_thinks) (maxL := 4) (ret := (some .int)) (by decide) rfl (Nat.le_of_ble_eq_true rfl) ?_
      intro p e_ s m args below meth c Q A hQ CC hr hlocks hin hA hP hD hKN hGl hR0 hRA ls hl
      have hS : va_S A s.heap s.heap [] := va_S.rf
      have hK := hKN.1
      have hx := CC.1
      have hb := CC.2.1
      have hml := CC.2.2.1
      have hown : s.vm.findClass RX0 = some m.cls := CC.2.2.2.1
      have hts := CC.2.2.2.2
      have hl : lv_has ls 4 [(0, .ref (Actsa_self a)), (1, .int x0), (2, .int x1), (3, .int x2)] := hl
      have k0 := hts (.fieldLink RX0 25 "OneDidAll$Acts" "i" "I") (by decide +kernel)
      have k1 := (show ∀ w ∈ u_ws RX0 TX0 5, w ∈ wsX0_thinks by decide +kernel)
      have hP : va_P E.1 vwCl (Acts_c E a v) s.heap := hP
      obtain ⟨H, hH⟩ : ∃ H, H = s.heap := ⟨_, rfl⟩
      obtain ⟨locs, hlc⟩ : ∃ z : List Loc, z = [] := ⟨_, rfl⟩
      rw [← hH] at hP
      rw [← hlc] at hS
      have hS : va_S A s.heap H locs := by rw [hH]; exact hS
      rw [← hH, ← hlc]
      have hF : bd_X0_thinks (gr_Tk d) v x0 x1 x2 = some t := hF
      unfold bd_X0_thinks at hF
      refine lv_iload_n hx hb dX0_thinks_0 rfl (lv_at hl 3 rfl) ?_
      refine lv_bipush (v := 9) hx hb dX0_thinks_1 (by decide) ?_
      refine lv_icmp_le (tgt := 8) hx hb dX0_thinks_3 (by decide) (fun c1 => ?_) (fun c1 => ?_)
      · have hF := m_pos c1 hF
        refine lv_iload_n hx hb dX0_thinks_8 rfl (lv_at hl 1 rfl) ?_
        obtain ⟨j83, hjd83, hF⟩ := m_jp hF
        have hj83 : ∀ (H : Heap) (locs : List Loc) (ls : Array Slot), j83 () = some t → va_P E.1 vwCl (Acts_c E a v) H → va_D A (Acts_c E a v) → va_S A s.heap H locs → lv_has ls 4 [(0, .ref (Actsa_self a)), (2, .int x1)] → W p l e_ (rm_Tk (d + 1)) s m args below meth c H locs 0 0 Q (F0 m 83 ls []) := by
          intro H locs ls hF hP hD hS hl
          rw [hjd83] at hF
          refine lv_aload_n hx hb dX0_thinks_83 rfl (lv_at hl 0 rfl) ?_
          refine lv_iconst (v := 1) hx hb dX0_thinks_84 (by decide) ?_
          obtain ⟨t2, ht2, hF⟩ := m_bnd hF
          have hPc := hP
          have hDc := hD
          have hFc := va_free (wc := (Acts_c E a v)) hD hS hA [0, 1] rfl
          refine mVM (ci := 0) (n := 1) (rest := []) (As := [.int 1]) CC hKN hGl (c_X0_begins l E a v 1 t2 ht2 _) gX0_thinks_X0_begins rfl ⟨rfl, rfl⟩ (by decide +kernel) ⟨by show 0 + 1 ≤ d + 1 + 1; omega, by show 8 + (2 + 11) + 0 ≤ (d + 1) * 23 + 21; omega⟩ hPc hDc m_nil m_nilA hS hFc rfl rfl rfl rfl hl.1 rfl (Nat.le_of_ble_eq_true rfl) ⟨Nat.zero_le _, Nat.zero_le _⟩ dX0_thinks_85 (fun H1 locs hP1 hD1 hz1 hk1 hS => ?_)
          have hP : va_P E.1 vwCl (Acts_c E a t2) H1 := hP1
          have hD : va_D A (Acts_c E a t2) := m_back hD1 hFc
          generalize H1 = H at hP hS ⊢
          refine W.eq (g2 := F0 m 88 ls []) rfl ?_
          refine lv_iload_n hx hb dX0_thinks_88 rfl (lv_at hl 1 rfl) ?_
          refine lv_aload_n hx hb dX0_thinks_89 rfl (lv_at hl 0 rfl) ?_
          refine va_get (D := E.1) (ci := 0) (v := .int (Acts_i t2)) (C := RX0) (T := TX0) (N := 5) hx hb hts k1 hown hK hP 0 rfl rfl 4 (by decide) k0 (fun _ h9 => h9) rfl dX0_thinks_90 ?_
          refine lv_iadd hx hb dX0_thinks_93 ?_
          have hF := Option.some.inj hF
          subst hF
          rw [hQ]
          exact W.iret hx hb hr (fun t ht _ => ⟨⟨rfl, by rw [ht]; exact hP, hD⟩, hS.F ht⟩) hS.2.2 dX0_thinks_94
        clear hjd83
        obtain ⟨j44, hjd44, hF⟩ := m_jp hF
        have hj44 : ∀ (H : Heap) (locs : List Loc) (ls : Array Slot), j44 () = some t → va_P E.1 vwCl (Acts_c E a v) H → va_D A (Acts_c E a v) → va_S A s.heap H locs → lv_has ls 4 [(0, .ref (Actsa_self a)), (2, .int x1), (3, .int x2)] → W p l e_ (rm_Tk (d + 1)) s m args below meth c H locs 0 0 Q (F0 m 44 ls []) := by
          intro H locs ls hF hP hD hS hl
          rw [hjd44] at hF
          refine lv_aload_n hx hb dX0_thinks_44 rfl (lv_at hl 0 rfl) ?_
          refine lv_bipush (v := 11) hx hb dX0_thinks_45 (by decide) ?_
          obtain ⟨t3, ht3, hF⟩ := m_bnd hF
          have hPc := hP
          have hDc := hD
          have hFc := va_free (wc := (Acts_c E a v)) hD hS hA [0, 1] rfl
          refine mVM (ci := 0) (n := 1) (rest := []) (As := [.int 11]) CC hKN hGl (c_X0_begins l E a v 11 t3 ht3 _) gX0_thinks_X0_begins rfl ⟨rfl, rfl⟩ (by decide +kernel) ⟨by show 0 + 1 ≤ d + 1 + 1; omega, by show 8 + (2 + 11) + 0 ≤ (d + 1) * 23 + 21; omega⟩ hPc hDc m_nil m_nilA hS hFc rfl rfl rfl rfl hl.1 rfl (Nat.le_of_ble_eq_true rfl) ⟨Nat.zero_le _, Nat.zero_le _⟩ dX0_thinks_47 (fun H1 locs hP1 hD1 hz1 hk1 hS => ?_)
          have hP : va_P E.1 vwCl (Acts_c E a t3) H1 := hP1
          have hD : va_D A (Acts_c E a t3) := m_back hD1 hFc
          generalize H1 = H at hP hS ⊢
          refine W.eq (g2 := F0 m 50 ls []) rfl ?_
          refine lv_aload_n hx hb dX0_thinks_50 rfl (lv_at hl 0 rfl) ?_
          refine lv_iconst (v := 0) hx hb dX0_thinks_51 (by decide) ?_
          refine lv_iload_n hx hb dX0_thinks_52 rfl (lv_at hl 1 rfl) ?_
          refine lv_iconst (v := 3) hx hb dX0_thinks_53 (by decide) ?_
          refine lv_imul hx hb dX0_thinks_54 ?_
          refine lv_iload_n hx hb dX0_thinks_55 rfl (lv_at hl 2 rfl) ?_
          refine lv_iconst (v := 1) hx hb dX0_thinks_56 (by decide) ?_
          refine lv_iadd hx hb dX0_thinks_57 ?_
          obtain ⟨t4, ht4, hF⟩ := m_bnd hF
          have hPc := hP
          have hDc := hD
          have hFc := va_free (wc := (Acts_c E a t3)) hD hS hA [0, 1] rfl
          refine mVM (ci := 0) (n := 3) (rest := []) (As := [.int 0, .int (x1 * 3), .int (x2 + 1)]) CC hKN hGl (ihd a t3 0 (x1 * 3) (x2 + 1) t4 ht4 _) gX0_thinks_X0_thinks rfl ⟨rfl, rfl⟩ (by decide +kernel) ⟨by show d + 1 + 1 ≤ d + 1 + 1; omega, by show 8 + (4 + 11) + (d * 23 + 21) ≤ (d + 1) * 23 + 21; omega⟩ hPc hDc m_nil m_nilA hS hFc rfl rfl rfl rfl hl.1 rfl (Nat.le_of_ble_eq_true rfl) ⟨Nat.zero_le _, Nat.zero_le _⟩ dX0_thinks_58 (fun H1 locs hP1 hD1 hz1 hk1 hS => ?_)
          have hP : va_P E.1 vwCl (Acts_c E a t4.2) H1 := hP1
          have hD : va_D A (Acts_c E a t4.2) := m_back hD1 hFc
          generalize H1 = H at hP hS ⊢
          refine W.eq (g2 := F0 m 61 ls [.int t4.1]) rfl ?_
          have hF := Option.some.inj hF
          subst hF
          rw [hQ]
          exact W.iret hx hb hr (fun t ht _ => ⟨⟨rfl, by rw [ht]; exact hP, hD⟩, hS.F ht⟩) hS.2.2 dX0_thinks_61
        clear hjd44
        by_cases c5 : x0 = 1
        · have hF := m_pos c5 hF
          refine lv_tableIn (off := 35) (tgt := 44) hx hb dX0_thinks_9 (by rw [c5]; decide) (by rw [c5]; decide) (by rw [c5]; rfl) (by decide) ?_
          exact hj44 H locs ls hF hP hD hS (lv_sub hl [0, 2, 3] rfl)
        · have hF := m_neg c5 hF
          by_cases c6 : x0 = 2
          · have hF := m_pos c6 hF
            refine lv_tableIn (off := 74) (tgt := 83) hx hb dX0_thinks_9 (by rw [c6]; decide) (by rw [c6]; decide) (by rw [c6]; rfl) (by decide) ?_
            exact hj83 H locs ls hF hP hD hS (lv_sub hl [0, 2] rfl)
          · have hF := m_neg c6 hF
            by_cases c7 : x0 = 3
            · have hF := m_pos c7 hF
              refine lv_tableIn (off := 74) (tgt := 83) hx hb dX0_thinks_9 (by rw [c7]; decide) (by rw [c7]; decide) (by rw [c7]; rfl) (by decide) ?_
              exact hj83 H locs ls hF hP hD hS (lv_sub hl [0, 2] rfl)
            · have hF := m_neg c7 hF
              by_cases c8 : x0 = 4
              · have hF := m_pos c8 hF
                refine lv_tableIn (off := 35) (tgt := 44) hx hb dX0_thinks_9 (by rw [c8]; decide) (by rw [c8]; decide) (by rw [c8]; rfl) (by decide) ?_
                exact hj44 H locs ls hF hP hD hS (lv_sub hl [0, 2, 3] rfl)
              · have hF := m_neg c8 hF
                by_cases c9 : x0 = 5
                · have hF := m_pos c9 hF
                  refine lv_tableIn (off := 53) (tgt := 62) hx hb dX0_thinks_9 (by rw [c9]; decide) (by rw [c9]; decide) (by rw [c9]; rfl) (by decide) ?_
                  refine lv_aload_n hx hb dX0_thinks_62 rfl (lv_at hl 0 rfl) ?_
                  refine lv_bipush (v := 51) hx hb dX0_thinks_63 (by decide) ?_
                  obtain ⟨t10, ht10, hF⟩ := m_bnd hF
                  have hPc := hP
                  have hDc := hD
                  have hFc := va_free (wc := (Acts_c E a v)) hD hS hA [0, 1] rfl
                  refine mVM (ci := 0) (n := 1) (rest := []) (As := [.int 51]) CC hKN hGl (c_X0_begins l E a v 51 t10 ht10 _) gX0_thinks_X0_begins rfl ⟨rfl, rfl⟩ (by decide +kernel) ⟨by show 0 + 1 ≤ d + 1 + 1; omega, by show 8 + (2 + 11) + 0 ≤ (d + 1) * 23 + 21; omega⟩ hPc hDc m_nil m_nilA hS hFc rfl rfl rfl rfl hl.1 rfl (Nat.le_of_ble_eq_true rfl) ⟨Nat.zero_le _, Nat.zero_le _⟩ dX0_thinks_65 (fun H1 locs hP1 hD1 hz1 hk1 hS => ?_)
                  have hP : va_P E.1 vwCl (Acts_c E a t10) H1 := hP1
                  have hD : va_D A (Acts_c E a t10) := m_back hD1 hFc
                  generalize H1 = H at hP hS ⊢
                  refine W.eq (g2 := F0 m 68 ls []) rfl ?_
                  refine lv_aload_n hx hb dX0_thinks_68 rfl (lv_at hl 0 rfl) ?_
                  refine lv_iconst (v := 2) hx hb dX0_thinks_69 (by decide) ?_
                  refine lv_iload_n hx hb dX0_thinks_70 rfl (lv_at hl 2 rfl) ?_
                  refine lv_iload_n hx hb dX0_thinks_71 rfl (lv_at hl 3 rfl) ?_
                  refine lv_iconst (v := 1) hx hb dX0_thinks_72 (by decide) ?_
                  refine lv_iadd hx hb dX0_thinks_73 ?_
                  obtain ⟨t11, ht11, hF⟩ := m_bnd hF
                  have hPc := hP
                  have hDc := hD
                  have hFc := va_free (wc := (Acts_c E a t10)) hD hS hA [0, 1] rfl
                  refine mVM (ci := 0) (n := 3) (rest := []) (As := [.int 2, .int x1, .int (x2 + 1)]) CC hKN hGl (ihd a t10 2 x1 (x2 + 1) t11 ht11 _) gX0_thinks_X0_thinks rfl ⟨rfl, rfl⟩ (by decide +kernel) ⟨by show d + 1 + 1 ≤ d + 1 + 1; omega, by show 8 + (4 + 11) + (d * 23 + 21) ≤ (d + 1) * 23 + 21; omega⟩ hPc hDc m_nil m_nilA hS hFc rfl rfl rfl rfl hl.1 rfl (Nat.le_of_ble_eq_true rfl) ⟨Nat.zero_le _, Nat.zero_le _⟩ dX0_thinks_74 (fun H1 locs hP1 hD1 hz1 hk1 hS => ?_)
                  have hP : va_P E.1 vwCl (Acts_c E a t11.2) H1 := hP1
                  have hD : va_D A (Acts_c E a t11.2) := m_back hD1 hFc
                  generalize H1 = H at hP hS ⊢
                  refine W.eq (g2 := F0 m 77 ls [.int t11.1]) rfl ?_
                  refine lv_aload_n hx hb dX0_thinks_77 rfl (lv_at hl 0 rfl) ?_
                  refine va_get (D := E.1) (ci := 0) (v := .int (Acts_i t11.2)) (C := RX0) (T := TX0) (N := 5) hx hb hts k1 hown hK hP 0 rfl rfl 4 (by decide) k0 (fun _ h9 => h9) rfl dX0_thinks_78 ?_
                  refine lv_ixor hx hb dX0_thinks_81 ?_
                  have hF := Option.some.inj hF
                  subst hF
                  rw [hQ]
                  exact W.iret hx hb hr (fun t ht _ => ⟨⟨rfl, by rw [ht]; exact hP, hD⟩, hS.F ht⟩) hS.2.2 dX0_thinks_82
                · have hF := m_neg c9 hF
                  have qc5 := lv_neT (a := 1) c5 rfl
                  have qc6 := lv_neT (a := 2) c6 rfl
                  have qc7 := lv_neT (a := 3) c7 rfl
                  have qc8 := lv_neT (a := 4) c8 rfl
                  have qc9 := lv_neT (a := 5) c9 rfl
                  refine lv_tableOut (tgt := 83) hx hb dX0_thinks_9 (by omega) (by decide) ?_
                  exact hj83 H locs ls hF hP hD hS (lv_sub hl [0, 2] rfl)
      · have hF := m_neg c1 hF
        refine lv_iconst (v := 0) hx hb dX0_thinks_6 (by decide) ?_
        have hF := Option.some.inj hF
        subst hF
        rw [hQ]
        exact W.iret hx hb hr (fun t ht _ => ⟨⟨rfl, by rw [ht]; exact hP, hD⟩, hS.F ht⟩) hS.2.2 dX0_thinks_7


