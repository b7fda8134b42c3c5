abbrev rmX8_pass : Room := { frames := 5, cells := 0, slots := 0, locals := 120 }
set_option maxRecDepth 100000 in
set_option maxHeartbeats 400000 in
theorem c_X8_pass (l : Launch) (E : mE) (a : ModelA) (v : ModelV) (x0 : Int32) (t : (Int32 × ModelV)) (hF : fn_X8_pass v x0 = some t) (sz : Nat) : Met l yX8_pass wsX8_pass rmX8_pass (mPm E [.ref (Modela_self a), .int x0] sz ((Model_c E a v)) (([] : va_W))) (mSm E (some (.int t.1)) ((Model_c E a t.2)) (va_A ((Model_c E a v)) sz)) 0 0 (va_A ((Model_c E a v)) sz) := by
  refine mOfM (cc := cX8_pass) (maxL := 4) (ret := (some .int)) (by decide) rfl (Nat.le_of_ble_eq_true rfl) ?_
  intro p e_ s m args below meth c Q A hQ CC hr hlocks hin hA hP hD hKN hGl hR0 hRA ls hl
  have hS : va_S A s.heap s.heap [] := va_S.rf
  have hK := hKN.1
  have hx := CC.1
  have hb := CC.2.1
  have hml := CC.2.2.1
  have hown : s.vm.findClass RX8 = some m.cls := CC.2.2.2.1
  have hts := CC.2.2.2.2
  have hl : lv_has ls 4 [(0, .ref (Modela_self a)), (1, .int x0)] := hl
  have k0 := hts (.fieldLink RX8 9 "OneDidAllModel" "s" "[I") (by decide +kernel)
  have k1 := (show ∀ w ∈ u_ws RX8 TX8 20, w ∈ wsX8_pass by decide +kernel)
  have k2 := hts (.constant RX8 184 (99999)) (by decide +kernel)
  have hP : va_P E.1 vwCl (Model_c E a v) s.heap := hP
  obtain ⟨H, hH⟩ : ∃ H, H = s.heap := ⟨_, rfl⟩
  obtain ⟨locs, hlc⟩ : ∃ z : List Loc, z = [] := ⟨_, rfl⟩
  rw [← hH] at hP
  rw [← hlc] at hS
  have hS : va_S A s.heap H locs := by rw [hH]; exact hS
  rw [← hH, ← hlc]
  unfold fn_X8_pass at hF
  refine lv_iload_n hx hb dX8_pass_0 rfl (lv_at hl 1 rfl) ?_
  refine lv_iconst (v := 0) hx hb dX8_pass_1 (by decide) ?_
  refine lv_bipush (v := 60) hx hb dX8_pass_2 (by decide) ?_
  obtain ⟨t1, ht1, hF⟩ := m_bnd hF
  refine mSP (n := 3) (rest := []) (As := [.int x0, .int 0, .int 60]) CC hKN hGl hS (c_X8_in l E x0 0 60 t1 ht1) gX8_pass_X8_in rfl ⟨rfl, rfl⟩ (by decide +kernel) ⟨Nat.le_of_ble_eq_true rfl, Nat.le_of_ble_eq_true rfl⟩ m_nil rfl hl.1 rfl (Nat.le_of_ble_eq_true rfl) ⟨Nat.zero_le _, Nat.zero_le _⟩ dX8_pass_4 ?_
  refine W.eq (g2 := F0 m 7 ls [.int t1]) rfl ?_
  refine lv_if_ne (tgt := 13) hx hb dX8_pass_7 (by decide) (fun c2 => ?_) (fun c2 => ?_)
  · have hF := m_pos c2 hF
    refine lv_aload_n hx hb dX8_pass_13 rfl (lv_at hl 0 rfl) ?_
    refine va_get (D := E.1) (ci := 8) (v := .ref (Modela_s a)) (C := RX8) (T := TX8) (N := 20) hx hb hts k1 hown hK hP 0 rfl rfl 1 (by decide) k0 (fun _ h9 => h9) rfl dX8_pass_14 ?_
    refine lv_iconst (v := 0) hx hb dX8_pass_17 (by decide) ?_
    obtain ⟨h3, hF⟩ := m_chk hF
    refine va_iald (f := (Model_s v)) hx hb hK hP 1 1 rfl rfl (mIn_ok h3) dX8_pass_18 ?_
    refine W.eq (g2 := F0 m 19 ls [.int ((Model_s v) (0 : Int32).toNatClampNeg)]) rfl ?_
    refine lv_iload_n hx hb dX8_pass_19 rfl (lv_at hl 1 rfl) ?_
    refine lv_iadd hx hb dX8_pass_20 ?_
    refine lv_sipush (v := 9999) hx hb dX8_pass_21 (by decide) ?_
    refine lv_icmp_le (tgt := 30) hx hb dX8_pass_24 (by decide) (fun c4 => ?_) (fun c4 => ?_)
    · have hF := m_pos c4 hF
      refine lv_iconst (v := 0) hx hb dX8_pass_30 (by decide) ?_
      refine lv_istore_n (lv' := [(2, .int 0), (0, .ref (Modela_self a)), (1, .int x0)]) hx hb dX8_pass_31 rfl hl (by decide) rfl (fun ls hl => ?_)
      obtain ⟨j107, hjd107, hF⟩ := m_jp hF
      have hj107 : ∀ (wx_107 : ModelV) (H : Heap) (locs : List Loc) (ls : Array Slot), j107 wx_107 = some t → va_P E.1 vwCl (Model_c E a wx_107) H → va_D A (Model_c E a wx_107) → va_S A s.heap H locs → lv_has ls 4 [(0, .ref (Modela_self a))] → W p l e_ rmX8_pass s m args below meth c H locs 0 0 Q (F0 m 107 ls []) := by
        intro wx_107 H locs ls hF hP hD hS hl
        rw [hjd107] at hF
        refine lv_aload_n hx hb dX8_pass_107 rfl (lv_at hl 0 rfl) ?_
        refine va_get (D := E.1) (ci := 8) (v := .ref (Modela_s a)) (C := RX8) (T := TX8) (N := 20) hx hb hts k1 hown hK hP 0 rfl rfl 1 (by decide) k0 (fun _ h9 => h9) rfl dX8_pass_108 ?_
        refine lv_iconst (v := 1) hx hb dX8_pass_111 (by decide) ?_
        obtain ⟨h5, hF⟩ := m_chk hF
        refine va_iald (f := (Model_s wx_107)) hx hb hK hP 1 1 rfl rfl (mIn_ok h5) dX8_pass_112 ?_
        refine W.eq (g2 := F0 m 113 ls [.int ((Model_s wx_107) (1 : Int32).toNatClampNeg)]) rfl ?_
        have hF := Option.some.inj hF
        subst hF
        rw [hQ]
        exact W.iret hx hb hr (fun t ht _ => ⟨⟨rfl, by rw [ht]; exact hP, hD⟩, hS.F ht⟩) hS.2.2 dX8_pass_113
      clear hjd107
      have hL32 : ∀ (n : Nat) (y2_32 : Int32) (wy_32 : ModelV) (H : Heap) (locs : List Loc) (ls : Array Slot), lp_X8_pass_32 x0 j107 n y2_32 wy_32 = some t → va_P E.1 vwCl (Model_c E a wy_32) H → va_D A (Model_c E a wy_32) → va_S A s.heap H locs → lv_has ls 4 [(0, .ref (Modela_self a)), (1, .int x0), (2, .int y2_32)] → W p l e_ rmX8_pass s m args below meth c H locs 0 0 Q (F0 m 32 ls []) := by
        intro n
        induction n with
        | zero =>
          intro y2_32 wy_32 H locs ls hF
          exact nomatch (show (none : Option (Int32 × ModelV)) = some t from hF)
        | succ n ih32 =>
          intro y2_32 wy_32 H locs ls hF hP hD hS hl
          have hF : st_X8_pass_32 x0 j107 (lp_X8_pass_32 x0 j107 n) y2_32 wy_32 = some t := hF
          unfold st_X8_pass_32 at hF
          refine lv_iload_n hx hb dX8_pass_32 rfl (lv_at hl 2 rfl) ?_
          refine lv_iload_n hx hb dX8_pass_33 rfl (lv_at hl 1 rfl) ?_
          refine lv_icmp_ge (tgt := 107) hx hb dX8_pass_34 (by decide) (fun c6 => ?_) (fun c6 => ?_)
          · have hF := m_pos c6 hF
            exact hj107 wy_32 H locs ls hF hP hD hS (lv_sub hl [0] rfl)
          · have hF := m_neg c6 hF
            refine lv_aload_n hx hb dX8_pass_37 rfl (lv_at hl 0 rfl) ?_
            obtain ⟨t7, ht7, hF⟩ := m_bnd hF
            have hPc := hP
            have hDc := hD
            have hFc := va_free (wc := (Model_c E a wy_32)) hD hS hA [0, 1, 2, 3, 4, 5, 6, 7] rfl
            refine mVM (ci := 8) (n := 0) (rest := []) (As := []) CC hKN hGl (c_X8_goes l E a wy_32 t7 ht7 _) gX8_pass_X8_goes rfl ⟨rfl, rfl⟩ (by decide +kernel) ⟨Nat.le_of_ble_eq_true rfl, Nat.le_of_ble_eq_true rfl⟩ hPc hDc m_nil m_nilA hS hFc rfl rfl rfl rfl hl.1 rfl (Nat.le_of_ble_eq_true rfl) ⟨Nat.zero_le _, Nat.zero_le _⟩ dX8_pass_38 (fun H1 locs hP1 hD1 hz1 hk1 hS => ?_)
            have hP : va_P E.1 vwCl (Model_c E a t7) H1 := hP1
            have hD : va_D A (Model_c E a t7) := m_back hD1 hFc
            generalize H1 = H at hP hS ⊢
            refine W.eq (g2 := F0 m 41 ls []) rfl ?_
            refine lv_aload_n hx hb dX8_pass_41 rfl (lv_at hl 0 rfl) ?_
            refine va_get (D := E.1) (ci := 8) (v := .ref (Modela_s a)) (C := RX8) (T := TX8) (N := 20) hx hb hts k1 hown hK hP 0 rfl rfl 1 (by decide) k0 (fun _ h9 => h9) rfl dX8_pass_42 ?_
            refine lv_iconst (v := 1) hx hb dX8_pass_45 (by decide) ?_
            refine lv_aload_n hx hb dX8_pass_46 rfl (lv_at hl 0 rfl) ?_
            refine va_get (D := E.1) (ci := 8) (v := .ref (Modela_s a)) (C := RX8) (T := TX8) (N := 20) hx hb hts k1 hown hK hP 0 rfl rfl 1 (by decide) k0 (fun _ h9 => h9) rfl dX8_pass_47 ?_
            refine lv_iconst (v := 1) hx hb dX8_pass_50 (by decide) ?_
            obtain ⟨h8, hF⟩ := m_chk hF
            refine va_iald (f := (Model_s t7)) hx hb hK hP 1 1 rfl rfl (mIn_ok h8) dX8_pass_51 ?_
            refine W.eq (g2 := F0 m 52 ls [.int ((Model_s t7) (1 : Int32).toNatClampNeg), .int 1, .ref (Modela_s a)]) rfl ?_
            refine lv_iconst (v := 0) hx hb dX8_pass_52 (by decide) ?_
            refine lv_ldc (v := 99999) hx hb hown k2 dX8_pass_53 ?_
            obtain ⟨t9, ht9, hF⟩ := m_bnd hF
            refine mSP (n := 3) (rest := [.int 1, .ref (Modela_s a)]) (As := [.int ((Model_s t7) (1 : Int32).toNatClampNeg), .int 0, .int 99999]) CC hKN hGl hS (c_X8_within l E ((Model_s t7) (1 : Int32).toNatClampNeg) 0 99999 t9 ht9) gX8_pass_X8_within rfl ⟨rfl, rfl⟩ (by decide +kernel) ⟨Nat.le_of_ble_eq_true rfl, Nat.le_of_ble_eq_true rfl⟩ m_nil rfl hl.1 rfl (Nat.le_of_ble_eq_true rfl) ⟨Nat.zero_le _, Nat.zero_le _⟩ dX8_pass_55 ?_
            refine W.eq (g2 := F0 m 58 ls [.int t9, .int 1, .ref (Modela_s a)]) rfl ?_
            obtain ⟨h10, hF⟩ := m_chk hF
            refine va_iast (f := (Model_s t7)) hx hb hK hP hD hS 1 1 rfl rfl (mIn_ok h10) dX8_pass_58 (fun H locs hP hD hS => ?_)
            have hP : va_P E.1 vwCl (Model_c E a (Model_s_s t7 (upd (Model_s t7) (1 : Int32).toNatClampNeg t9))) H := hP
            have hD : va_D A (Model_c E a (Model_s_s t7 (upd (Model_s t7) (1 : Int32).toNatClampNeg t9))) := hD
            refine lv_iconst (v := 0) hx hb dX8_pass_59 (by decide) ?_
            refine lv_istore_n (lv' := [(3, .int 0), (0, .ref (Modela_self a)), (1, .int x0), (2, .int y2_32)]) hx hb dX8_pass_60 rfl hl (by decide) rfl (fun ls hl => ?_)
            obtain ⟨j101, hjd101, hF⟩ := m_jp hF
            have hj101 : ∀ (wx_101 : ModelV) (H : Heap) (locs : List Loc) (ls : Array Slot), j101 wx_101 = some t → va_P E.1 vwCl (Model_c E a wx_101) H → va_D A (Model_c E a wx_101) → va_S A s.heap H locs → lv_has ls 4 [(0, .ref (Modela_self a)), (1, .int x0), (2, .int y2_32)] → W p l e_ rmX8_pass s m args below meth c H locs 0 0 Q (F0 m 101 ls []) := by
              intro wx_101 H locs ls hF hP hD hS hl
              rw [hjd101] at hF
              refine lv_iinc (v := (y2_32 + 1)) (lv' := [(2, .int (y2_32 + 1)), (0, .ref (Modela_self a)), (1, .int x0)]) hx hb dX8_pass_101 hl (k := 2) rfl rfl (by decide) rfl (fun ls hl => ?_)
              refine lv_goto (tgt := 32) hx hb dX8_pass_104 (by decide) ?_
              exact ih32 (y2_32 + 1) wx_101 H locs ls hF hP hD hS (lv_sub hl [1, 2, 0] rfl)
            clear hjd101
            have hL61 : ∀ (n : Nat) (y3_61 : Int32) (wy_61 : ModelV) (H : Heap) (locs : List Loc) (ls : Array Slot), lp_X8_pass_61 j101 n y3_61 wy_61 = some t → va_P E.1 vwCl (Model_c E a wy_61) H → va_D A (Model_c E a wy_61) → va_S A s.heap H locs → lv_has ls 4 [(0, .ref (Modela_self a)), (1, .int x0), (2, .int y2_32), (3, .int y3_61)] → W p l e_ rmX8_pass s m args below meth c H locs 0 0 Q (F0 m 61 ls []) := by
              intro n
              induction n with
              | zero =>
                intro y3_61 wy_61 H locs ls hF
                exact nomatch (show (none : Option (Int32 × ModelV)) = some t from hF)
              | succ n ih61 =>
                intro y3_61 wy_61 H locs ls hF hP hD hS hl
                have hF : st_X8_pass_61 j101 (lp_X8_pass_61 j101 n) y3_61 wy_61 = some t := hF
                unfold st_X8_pass_61 at hF
                refine lv_iload_n hx hb dX8_pass_61 rfl (lv_at hl 3 rfl) ?_
                refine lv_aload_n hx hb dX8_pass_62 rfl (lv_at hl 0 rfl) ?_
                refine va_get (D := E.1) (ci := 8) (v := .ref (Modela_s a)) (C := RX8) (T := TX8) (N := 20) hx hb hts k1 hown hK hP 0 rfl rfl 1 (by decide) k0 (fun _ h9 => h9) rfl dX8_pass_63 ?_
                refine lv_bipush (v := 20) hx hb dX8_pass_66 (by decide) ?_
                obtain ⟨h11, hF⟩ := m_chk hF
                refine va_iald (f := (Model_s wy_61)) hx hb hK hP 1 1 rfl rfl (mIn_ok h11) dX8_pass_68 ?_
                refine W.eq (g2 := F0 m 69 ls [.int ((Model_s wy_61) (20 : Int32).toNatClampNeg), .int y3_61]) rfl ?_
                refine lv_icmp_ge (tgt := 101) hx hb dX8_pass_69 (by decide) (fun c12 => ?_) (fun c12 => ?_)
                · have hF := m_pos c12 hF
                  exact hj101 wy_61 H locs ls hF hP hD hS (lv_sub hl [0, 1, 2] rfl)
                · have hF := m_neg c12 hF
                  refine lv_aload_n hx hb dX8_pass_72 rfl (lv_at hl 0 rfl) ?_
                  refine va_get (D := E.1) (ci := 8) (v := .ref (Modela_s a)) (C := RX8) (T := TX8) (N := 20) hx hb hts k1 hown hK hP 0 rfl rfl 1 (by decide) k0 (fun _ h9 => h9) rfl dX8_pass_73 ?_
                  refine lv_iconst (v := 2) hx hb dX8_pass_76 (by decide) ?_
                  refine lv_iload_n hx hb dX8_pass_77 rfl (lv_at hl 3 rfl) ?_
                  refine lv_iadd hx hb dX8_pass_78 ?_
                  refine lv_aload_n hx hb dX8_pass_79 rfl (lv_at hl 0 rfl) ?_
                  refine va_get (D := E.1) (ci := 8) (v := .ref (Modela_s a)) (C := RX8) (T := TX8) (N := 20) hx hb hts k1 hown hK hP 0 rfl rfl 1 (by decide) k0 (fun _ h9 => h9) rfl dX8_pass_80 ?_
                  refine lv_iconst (v := 2) hx hb dX8_pass_83 (by decide) ?_
                  refine lv_iload_n hx hb dX8_pass_84 rfl (lv_at hl 3 rfl) ?_
                  refine lv_iadd hx hb dX8_pass_85 ?_
                  obtain ⟨h13, hF⟩ := m_chk hF
                  refine va_iald (f := (Model_s wy_61)) hx hb hK hP 1 1 rfl rfl (mIn_ok h13) dX8_pass_86 ?_
                  refine W.eq (g2 := F0 m 87 ls [.int ((Model_s wy_61) ((2 + y3_61)).toNatClampNeg), .int (2 + y3_61), .ref (Modela_s a)]) rfl ?_
                  refine lv_iconst (v := 0) hx hb dX8_pass_87 (by decide) ?_
                  refine lv_sipush (v := 9999) hx hb dX8_pass_88 (by decide) ?_
                  obtain ⟨t14, ht14, hF⟩ := m_bnd hF
                  refine mSP (n := 3) (rest := [.int (2 + y3_61), .ref (Modela_s a)]) (As := [.int ((Model_s wy_61) ((2 + y3_61)).toNatClampNeg), .int 0, .int 9999]) CC hKN hGl hS (c_X8_within l E ((Model_s wy_61) ((2 + y3_61)).toNatClampNeg) 0 9999 t14 ht14) gX8_pass_X8_within rfl ⟨rfl, rfl⟩ (by decide +kernel) ⟨Nat.le_of_ble_eq_true rfl, Nat.le_of_ble_eq_true rfl⟩ m_nil rfl hl.1 rfl (Nat.le_of_ble_eq_true rfl) ⟨Nat.zero_le _, Nat.zero_le _⟩ dX8_pass_91 ?_
                  refine W.eq (g2 := F0 m 94 ls [.int t14, .int (2 + y3_61), .ref (Modela_s a)]) rfl ?_
                  obtain ⟨h15, hF⟩ := m_chk hF
                  refine va_iast (f := (Model_s wy_61)) hx hb hK hP hD hS 1 1 rfl rfl (mIn_ok h15) dX8_pass_94 (fun H locs hP hD hS => ?_)
                  have hP : va_P E.1 vwCl (Model_c E a (Model_s_s wy_61 (upd (Model_s wy_61) ((2 + y3_61)).toNatClampNeg t14))) H := hP
                  have hD : va_D A (Model_c E a (Model_s_s wy_61 (upd (Model_s wy_61) ((2 + y3_61)).toNatClampNeg t14))) := hD
                  refine lv_iinc (v := (y3_61 + 1)) (lv' := [(3, .int (y3_61 + 1)), (0, .ref (Modela_self a)), (1, .int x0), (2, .int y2_32)]) hx hb dX8_pass_95 hl (k := 3) rfl rfl (by decide) rfl (fun ls hl => ?_)
                  refine lv_goto (tgt := 61) hx hb dX8_pass_98 (by decide) ?_
                  exact ih61 (y3_61 + 1) (Model_s_s wy_61 (upd (Model_s wy_61) ((2 + y3_61)).toNatClampNeg t14)) H locs ls hF hP hD hS (lv_sub hl [1, 2, 3, 0] rfl)
            exact hL61 m_N 0 (Model_s_s t7 (upd (Model_s t7) (1 : Int32).toNatClampNeg t9)) H locs ls hF hP hD hS (lv_sub hl [1, 2, 3, 0] rfl)
      exact hL32 m_N 0 v H locs ls hF hP hD hS (lv_sub hl [1, 2, 0] rfl)
    · have hF := m_neg c4 hF
      refine lv_bipush (v := (-3)) hx hb dX8_pass_27 (by decide) ?_
      have hF := Option.some.inj hF
      subst hF
      rw [hQ]
      exact W.iret hx hb hr (fun t ht _ => ⟨⟨rfl, by rw [ht]; exact hP, hD⟩, hS.F ht⟩) hS.2.2 dX8_pass_29
  · have hF := m_neg (fun n9 => n9 c2) hF
    refine lv_bipush (v := (-2)) hx hb dX8_pass_10 (by decide) ?_
    have hF := Option.some.inj hF
    subst hF
    rw [hQ]
    exact W.iret hx hb hr (fun t ht _ => ⟨⟨rfl, by rw [ht]; exact hP, hD⟩, hS.F ht⟩) hS.2.2 dX8_pass_12

abbrev rmX8_workMore : Room := { frames := 0, cells := 0, slots := 0, locals := 0 }
set_option maxRecDepth 100000 in
set_option maxHeartbeats 400000 in
theorem c_X8_workMore (l : Launch) (E : mE) (a : ModelA) (v : ModelV) (t : Int32) (hF : fn_X8_workMore v = some t) : Met l yX8_workMore wsX8_workMore rmX8_workMore (mPp E [.ref (Modela_self a)] (Model_c E a v)) (mSp (some (.int t))) 0 0 (fun _ => False) := by
  refine mOfP (cc := cX8_workMore) (maxL := 1) (ret := (some .int)) (by decide) rfl (Nat.le_of_ble_eq_true rfl) ?_
  intro p e_ s m args below meth c Q hQ CC hr hlocks hP hKN hGl ls hl
  have hS : va_S (fun _ => False) s.heap s.heap [] := va_S.rf
  have hK := hKN.1
  have hx := CC.1
  have hb := CC.2.1
  have hml := CC.2.2.1
  have hown : s.vm.findClass RX8 = some m.cls := CC.2.2.2.1
  have hts := CC.2.2.2.2
  have hl : lv_has ls 1 [(0, .ref (Modela_self a))] := hl
  have k0 := hts (.fieldLink RX8 9 "OneDidAllModel" "s" "[I") (by decide +kernel)
  have k1 := (show ∀ w ∈ u_ws RX8 TX8 20, w ∈ wsX8_workMore by decide +kernel)
  have k2 := hts (.fieldLink RX8 18 "OneDidAllModel" "frame" "[I") (by decide +kernel)
  unfold fn_X8_workMore at hF
  refine lv_aload_n hx hb dX8_workMore_0 rfl (lv_at hl 0 rfl) ?_
  refine va_get (D := E.1) (ci := 8) (v := .ref (Modela_s a)) (C := RX8) (T := TX8) (N := 20) hx hb hts k1 hown hK hP 0 rfl rfl 1 (by decide) k0 (fun _ h9 => h9) rfl dX8_workMore_1 ?_
  refine lv_iconst (v := 1) hx hb dX8_workMore_4 (by decide) ?_
  obtain ⟨h1, hF⟩ := m_chk hF
  refine va_iald (f := (Model_s v)) hx hb hK hP 1 1 rfl rfl (mIn_ok h1) dX8_workMore_5 ?_
  refine W.eq (g2 := F0 m 6 ls [.int ((Model_s v) (1 : Int32).toNatClampNeg)]) rfl ?_
  refine lv_aload_n hx hb dX8_workMore_6 rfl (lv_at hl 0 rfl) ?_
  refine va_get (D := E.1) (ci := 8) (v := .ref (Modela_frame a)) (C := RX8) (T := TX8) (N := 20) hx hb hts k1 hown hK hP 0 rfl rfl 3 (by decide) k2 (fun _ h9 => h9) rfl dX8_workMore_7 ?_
  refine lv_iconst (v := 1) hx hb dX8_workMore_10 (by decide) ?_
  obtain ⟨h2, hF⟩ := m_chk hF
  refine va_iald (f := (Model_frame v)) hx hb hK hP 3 1 rfl rfl (mIn_ok h2) dX8_workMore_11 ?_
  refine W.eq (g2 := F0 m 12 ls [.int ((Model_frame v) (1 : Int32).toNatClampNeg), .int ((Model_s v) (1 : Int32).toNatClampNeg)]) rfl ?_
  refine lv_isub hx hb dX8_workMore_12 ?_
  have hF := Option.some.inj hF
  subst hF
  rw [hQ]
  exact W.iret hx hb hr (fun t ht _ => ⟨rfl, ht⟩) (fun _ h => by cases h) dX8_workMore_13

abbrev rmX8_hoursMore : Room := { frames := 0, cells := 0, slots := 0, locals := 0 }
set_option maxRecDepth 100000 in
set_option maxHeartbeats 400000 in
theorem c_X8_hoursMore (l : Launch) (E : mE) (a : ModelA) (v : ModelV) (x0 : Int32) (t : Int32) (hF : fn_X8_hoursMore v x0 = some t) : Met l yX8_hoursMore wsX8_hoursMore rmX8_hoursMore (mPp E [.ref (Modela_self a), .int x0] (Model_c E a v)) (mSp (some (.int t))) 0 0 (fun _ => False) := by
  refine mOfP (cc := cX8_hoursMore) (maxL := 2) (ret := (some .int)) (by decide) rfl (Nat.le_of_ble_eq_true rfl) ?_
  intro p e_ s m args below meth c Q hQ CC hr hlocks hP hKN hGl ls hl
  have hS : va_S (fun _ => False) s.heap s.heap [] := va_S.rf
  have hK := hKN.1
  have hx := CC.1
  have hb := CC.2.1
  have hml := CC.2.2.1
  have hown : s.vm.findClass RX8 = some m.cls := CC.2.2.2.1
  have hts := CC.2.2.2.2
  have hl : lv_has ls 2 [(0, .ref (Modela_self a)), (1, .int x0)] := hl
  have k0 := hts (.fieldLink RX8 9 "OneDidAllModel" "s" "[I") (by decide +kernel)
  have k1 := (show ∀ w ∈ u_ws RX8 TX8 20, w ∈ wsX8_hoursMore by decide +kernel)
  have k2 := hts (.fieldLink RX8 18 "OneDidAllModel" "frame" "[I") (by decide +kernel)
  unfold fn_X8_hoursMore at hF
  refine lv_aload_n hx hb dX8_hoursMore_0 rfl (lv_at hl 0 rfl) ?_
  refine va_get (D := E.1) (ci := 8) (v := .ref (Modela_s a)) (C := RX8) (T := TX8) (N := 20) hx hb hts k1 hown hK hP 0 rfl rfl 1 (by decide) k0 (fun _ h9 => h9) rfl dX8_hoursMore_1 ?_
  refine lv_iconst (v := 2) hx hb dX8_hoursMore_4 (by decide) ?_
  refine lv_iload_n hx hb dX8_hoursMore_5 rfl (lv_at hl 1 rfl) ?_
  refine lv_iadd hx hb dX8_hoursMore_6 ?_
  obtain ⟨h1, hF⟩ := m_chk hF
  refine va_iald (f := (Model_s v)) hx hb hK hP 1 1 rfl rfl (mIn_ok h1) dX8_hoursMore_7 ?_
  refine W.eq (g2 := F0 m 8 ls [.int ((Model_s v) ((2 + x0)).toNatClampNeg)]) rfl ?_
  refine lv_aload_n hx hb dX8_hoursMore_8 rfl (lv_at hl 0 rfl) ?_
  refine va_get (D := E.1) (ci := 8) (v := .ref (Modela_frame a)) (C := RX8) (T := TX8) (N := 20) hx hb hts k1 hown hK hP 0 rfl rfl 3 (by decide) k2 (fun _ h9 => h9) rfl dX8_hoursMore_9 ?_
  refine lv_iconst (v := 2) hx hb dX8_hoursMore_12 (by decide) ?_
  refine lv_iload_n hx hb dX8_hoursMore_13 rfl (lv_at hl 1 rfl) ?_
  refine lv_iadd hx hb dX8_hoursMore_14 ?_
  obtain ⟨h2, hF⟩ := m_chk hF
  refine va_iald (f := (Model_frame v)) hx hb hK hP 3 1 rfl rfl (mIn_ok h2) dX8_hoursMore_15 ?_
  refine W.eq (g2 := F0 m 16 ls [.int ((Model_frame v) ((2 + x0)).toNatClampNeg), .int ((Model_s v) ((2 + x0)).toNatClampNeg)]) rfl ?_
  refine lv_isub hx hb dX8_hoursMore_16 ?_
  have hF := Option.some.inj hF
  subst hF
  rw [hQ]
  exact W.iret hx hb hr (fun t ht _ => ⟨rfl, ht⟩) (fun _ h => by cases h) dX8_hoursMore_17

abbrev rmX8_allMore : Room := { frames := 1, cells := 0, slots := 0, locals := 21 }
set_option maxRecDepth 100000 in
set_option maxHeartbeats 400000 in
theorem c_X8_allMore (l : Launch) (E : mE) (a : ModelA) (v : ModelV) (t : Int32) (hF : fn_X8_allMore v = some t) : Met l yX8_allMore wsX8_allMore rmX8_allMore (mPp E [.ref (Modela_self a)] (Model_c E a v)) (mSp (some (.int t))) 0 0 (fun _ => False) := by
  refine mOfP (cc := cX8_allMore) (maxL := 3) (ret := (some .int)) (by decide) rfl (Nat.le_of_ble_eq_true rfl) ?_
  intro p e_ s m args below meth c Q hQ CC hr hlocks hP hKN hGl ls hl
  have hS : va_S (fun _ => False) s.heap s.heap [] := va_S.rf
  have hK := hKN.1
  have hx := CC.1
  have hb := CC.2.1
  have hml := CC.2.2.1
  have hown : s.vm.findClass RX8 = some m.cls := CC.2.2.2.1
  have hts := CC.2.2.2.2
  have hl : lv_has ls 3 [(0, .ref (Modela_self a))] := hl
  have k0 := hts (.fieldLink RX8 9 "OneDidAllModel" "s" "[I") (by decide +kernel)
  have k1 := (show ∀ w ∈ u_ws RX8 TX8 20, w ∈ wsX8_allMore by decide +kernel)
  unfold fn_X8_allMore at hF
  refine lv_iconst (v := 0) hx hb dX8_allMore_0 (by decide) ?_
  refine lv_istore_n (lv' := [(1, .int 0), (0, .ref (Modela_self a))]) hx hb dX8_allMore_1 rfl hl (by decide) rfl (fun ls hl => ?_)
  refine lv_iconst (v := 0) hx hb dX8_allMore_2 (by decide) ?_
  refine lv_istore_n (lv' := [(2, .int 0), (1, .int 0), (0, .ref (Modela_self a))]) hx hb dX8_allMore_3 rfl hl (by decide) rfl (fun ls hl => ?_)
  have hL4 : ∀ (n : Nat) (y1_4 : Int32) (y2_4 : Int32) (ls : Array Slot), lp_X8_allMore_4 v n y1_4 y2_4 = some t → lv_has ls 3 [(0, .ref (Modela_self a)), (1, .int y1_4), (2, .int y2_4)] → W p l e_ rmX8_allMore s m args below meth c s.heap [] 0 0 Q (F0 m 4 ls []) := by
    intro n
    induction n with
    | zero =>
      intro y1_4 y2_4 ls hF
      exact nomatch (show (none : Option Int32) = some t from hF)
    | succ n ih4 =>
      intro y1_4 y2_4 ls hF hl
      have hF : st_X8_allMore_4 v (lp_X8_allMore_4 v n) y1_4 y2_4 = some t := hF
      unfold st_X8_allMore_4 at hF
      refine lv_iload_n hx hb dX8_allMore_4 rfl (lv_at hl 2 rfl) ?_
      refine lv_aload_n hx hb dX8_allMore_5 rfl (lv_at hl 0 rfl) ?_
      refine va_get (D := E.1) (ci := 8) (v := .ref (Modela_s a)) (C := RX8) (T := TX8) (N := 20) hx hb hts k1 hown hK hP 0 rfl rfl 1 (by decide) k0 (fun _ h9 => h9) rfl dX8_allMore_6 ?_
      refine lv_bipush (v := 20) hx hb dX8_allMore_9 (by decide) ?_
      obtain ⟨h1, hF⟩ := m_chk hF
      refine va_iald (f := (Model_s v)) hx hb hK hP 1 1 rfl rfl (mIn_ok h1) dX8_allMore_11 ?_
      refine W.eq (g2 := F0 m 12 ls [.int ((Model_s v) (20 : Int32).toNatClampNeg), .int y2_4]) rfl ?_
      refine lv_icmp_ge (tgt := 29) hx hb dX8_allMore_12 (by decide) (fun c2 => ?_) (fun c2 => ?_)
      · have hF := m_pos c2 hF
        refine lv_iload_n hx hb dX8_allMore_29 rfl (lv_at hl 1 rfl) ?_
        have hF := Option.some.inj hF
        subst hF
        rw [hQ]
        exact W.iret hx hb hr (fun t ht _ => ⟨rfl, ht⟩) (fun _ h => by cases h) dX8_allMore_30
      · have hF := m_neg c2 hF
        refine lv_iload_n hx hb dX8_allMore_15 rfl (lv_at hl 1 rfl) ?_
        refine lv_aload_n hx hb dX8_allMore_16 rfl (lv_at hl 0 rfl) ?_
        refine lv_iload_n hx hb dX8_allMore_17 rfl (lv_at hl 2 rfl) ?_
        obtain ⟨t3, ht3, hF⟩ := m_bnd hF
        refine mVP (ci := 8) (n := 1) (rest := [.int y1_4]) (As := [.int y2_4]) CC hKN hGl hS (c_X8_hoursMore l E a v y2_4 t3 ht3) gX8_allMore_X8_hoursMore rfl ⟨rfl, rfl⟩ (by decide +kernel) ⟨Nat.le_of_ble_eq_true rfl, Nat.le_of_ble_eq_true rfl⟩ hP rfl rfl rfl rfl hl.1 rfl (Nat.le_of_ble_eq_true rfl) ⟨Nat.zero_le _, Nat.zero_le _⟩ dX8_allMore_18 ?_
        refine W.eq (g2 := F0 m 21 ls [.int t3, .int y1_4]) rfl ?_
        refine lv_iadd hx hb dX8_allMore_21 ?_
        refine lv_istore_n (lv' := [(1, .int (y1_4 + t3)), (0, .ref (Modela_self a)), (2, .int y2_4)]) hx hb dX8_allMore_22 rfl hl (by decide) rfl (fun ls hl => ?_)
        refine lv_iinc (v := (y2_4 + 1)) (lv' := [(2, .int (y2_4 + 1)), (1, .int (y1_4 + t3)), (0, .ref (Modela_self a))]) hx hb dX8_allMore_23 hl (k := 2) rfl rfl (by decide) rfl (fun ls hl => ?_)
        refine lv_goto (tgt := 4) hx hb dX8_allMore_26 (by decide) ?_
        exact ih4 (y1_4 + t3) (y2_4 + 1) ls hF (lv_sub hl [2, 1, 0] rfl)
  exact hL4 m_N 0 0 ls hF (lv_sub hl [2, 1, 0] rfl)

abbrev rmX8_on : Room := { frames := 6, cells := 0, slots := 0, locals := 142 }
set_option maxRecDepth 100000 in
set_option maxHeartbeats 400000 in
theorem c_X8_on (l : Launch) (E : mE) (a : ModelA) (v : ModelV) (x0 : Int32) (x1 : Int32) (t : (Int32 × ModelV)) (hF : fn_X8_on v x0 x1 = some t) (sz : Nat) : Met l yX8_on wsX8_on rmX8_on (mPm E [.ref (Modela_self a), .int x0, .int x1] sz ((Model_c E a v)) (([] : va_W))) (mSm E (some (.int t.1)) ((Model_c E a t.2)) (va_A ((Model_c E a v)) sz)) 0 0 (va_A ((Model_c E a v)) sz) := by
  refine mOfM (cc := cX8_on) (maxL := 4) (ret := (some .int)) (by decide) rfl (Nat.le_of_ble_eq_true rfl) ?_
  intro p e_ s m args below meth c Q A hQ CC hr hlocks hin hA hP hD hKN hGl hR0 hRA ls hl
  have hS : va_S A s.heap s.heap [] := va_S.rf
  have hK := hKN.1
  have hx := CC.1
  have hb := CC.2.1
  have hml := CC.2.2.1
  have hown : s.vm.findClass RX8 = some m.cls := CC.2.2.2.1
  have hts := CC.2.2.2.2
  have hl : lv_has ls 4 [(0, .ref (Modela_self a)), (1, .int x0), (2, .int x1)] := hl
  have k0 := hts (.fieldLink RX8 9 "OneDidAllModel" "s" "[I") (by decide +kernel)
  have k1 := (show ∀ w ∈ u_ws RX8 TX8 20, w ∈ wsX8_on by decide +kernel)
  have hP : va_P E.1 vwCl (Model_c E a v) s.heap := hP
  obtain ⟨H, hH⟩ : ∃ H, H = s.heap := ⟨_, rfl⟩
  obtain ⟨locs, hlc⟩ : ∃ z : List Loc, z = [] := ⟨_, rfl⟩
  rw [← hH] at hP
  rw [← hlc] at hS
  have hS : va_S A s.heap H locs := by rw [hH]; exact hS
  rw [← hH, ← hlc]
  unfold fn_X8_on at hF
  refine lv_iload_n hx hb dX8_on_0 rfl (lv_at hl 2 rfl) ?_
  refine lv_iconst (v := 0) hx hb dX8_on_1 (by decide) ?_
  refine lv_iconst (v := 1) hx hb dX8_on_2 (by decide) ?_
  obtain ⟨t1, ht1, hF⟩ := m_bnd hF
  refine mSP (n := 3) (rest := []) (As := [.int x1, .int 0, .int 1]) CC hKN hGl hS (c_X8_in l E x1 0 1 t1 ht1) gX8_on_X8_in rfl ⟨rfl, rfl⟩ (by decide +kernel) ⟨Nat.le_of_ble_eq_true rfl, Nat.le_of_ble_eq_true rfl⟩ m_nil rfl hl.1 rfl (Nat.le_of_ble_eq_true rfl) ⟨Nat.zero_le _, Nat.zero_le _⟩ dX8_on_3 ?_
  refine W.eq (g2 := F0 m 6 ls [.int t1]) rfl ?_
  obtain ⟨j33, hjd33, hF⟩ := m_jp hF
  have hj33 : ∀ (H : Heap) (locs : List Loc) (ls : Array Slot), j33 () = some t → va_P E.1 vwCl (Model_c E a v) H → va_D A (Model_c E a v) → va_S A s.heap H locs → lv_has ls 4 [(0, .ref (Modela_self a)), (1, .int x0), (2, .int x1)] → W p l e_ rmX8_on s m args below meth c H locs 0 0 Q (F0 m 33 ls []) := by
    intro H locs ls hF hP hD hS hl
    rw [hjd33] at hF
    refine lv_iload_n hx hb dX8_on_33 rfl (lv_at hl 1 rfl) ?_
    refine lv_iconst (v := 0) hx hb dX8_on_34 (by decide) ?_
    refine lv_bipush (v := 60) hx hb dX8_on_35 (by decide) ?_
    obtain ⟨t2, ht2, hF⟩ := m_bnd hF
    refine mSP (n := 3) (rest := []) (As := [.int x0, .int 0, .int 60]) CC hKN hGl hS (c_X8_in l E x0 0 60 t2 ht2) gX8_on_X8_in rfl ⟨rfl, rfl⟩ (by decide +kernel) ⟨Nat.le_of_ble_eq_true rfl, Nat.le_of_ble_eq_true rfl⟩ m_nil rfl hl.1 rfl (Nat.le_of_ble_eq_true rfl) ⟨Nat.zero_le _, Nat.zero_le _⟩ dX8_on_37 ?_
    refine W.eq (g2 := F0 m 40 ls [.int t2]) rfl ?_
    refine lv_if_ne (tgt := 46) hx hb dX8_on_40 (by decide) (fun c3 => ?_) (fun c3 => ?_)
    · have hF := m_pos c3 hF
      refine lv_aload_n hx hb dX8_on_46 rfl (lv_at hl 0 rfl) ?_
      obtain ⟨t4, ht4, hF⟩ := m_bnd hF
      have hPc := hP
      have hDc := hD
      have hFc := va_free (wc := (Model_c E a v)) hD hS hA [0, 1, 2, 3, 4, 5, 6, 7] rfl
      refine mVM (ci := 8) (n := 0) (rest := []) (As := []) CC hKN hGl (c_X8_keeps l E a v t4 ht4 _) gX8_on_X8_keeps rfl ⟨rfl, rfl⟩ (by decide +kernel) ⟨Nat.le_of_ble_eq_true rfl, Nat.le_of_ble_eq_true rfl⟩ hPc hDc m_nil m_nilA hS hFc rfl rfl rfl rfl hl.1 rfl (Nat.le_of_ble_eq_true rfl) ⟨Nat.zero_le _, Nat.zero_le _⟩ dX8_on_47 (fun H1 locs hP1 hD1 hz1 hk1 hS => ?_)
      have hP : va_P E.1 vwCl (Model_c E a t4) H1 := hP1
      have hD : va_D A (Model_c E a t4) := m_back hD1 hFc
      generalize H1 = H at hP hS ⊢
      refine W.eq (g2 := F0 m 50 ls []) rfl ?_
      refine lv_aload_n hx hb dX8_on_50 rfl (lv_at hl 0 rfl) ?_
      refine lv_iload_n hx hb dX8_on_51 rfl (lv_at hl 1 rfl) ?_
      obtain ⟨t5, ht5, hF⟩ := m_bnd hF
      have hPc := hP
      have hDc := hD
      have hFc := va_free (wc := (Model_c E a t4)) hD hS hA [0, 1, 2, 3, 4, 5, 6, 7] rfl
      refine mVM (ci := 8) (n := 1) (rest := []) (As := [.int x0]) CC hKN hGl (c_X8_goesOn l E a t4 x0 t5 ht5 _) gX8_on_X8_goesOn rfl ⟨rfl, rfl⟩ (by decide +kernel) ⟨Nat.le_of_ble_eq_true rfl, Nat.le_of_ble_eq_true rfl⟩ hPc hDc m_nil m_nilA hS hFc rfl rfl rfl rfl hl.1 rfl (Nat.le_of_ble_eq_true rfl) ⟨Nat.zero_le _, Nat.zero_le _⟩ dX8_on_52 (fun H1 locs hP1 hD1 hz1 hk1 hS => ?_)
      have hP : va_P E.1 vwCl (Model_c E a t5) H1 := hP1
      have hD : va_D A (Model_c E a t5) := m_back hD1 hFc
      generalize H1 = H at hP hS ⊢
      refine W.eq (g2 := F0 m 55 ls []) rfl ?_
      refine lv_iload_n hx hb dX8_on_55 rfl (lv_at hl 2 rfl) ?_
      obtain ⟨j107, hjd107, hF⟩ := m_jp hF
      have hj107 : ∀ (z0_107 : Int32) (H : Heap) (locs : List Loc) (ls : Array Slot), j107 z0_107 = some t → va_P E.1 vwCl (Model_c E a t5) H → va_D A (Model_c E a t5) → va_S A s.heap H locs → lv_has ls 4 [(0, .ref (Modela_self a))] → W p l e_ rmX8_on s m args below meth c H locs 0 0 Q (F0 m 107 ls [.int z0_107]) := by
        intro z0_107 H locs ls hF hP hD hS hl
        rw [hjd107] at hF
        refine lv_istore_n (lv' := [(3, .int z0_107), (0, .ref (Modela_self a))]) hx hb dX8_on_107 rfl hl (by decide) rfl (fun ls hl => ?_)
        refine lv_aload_n hx hb dX8_on_108 rfl (lv_at hl 1 rfl) ?_
        obtain ⟨t6, ht6, hF⟩ := m_bnd hF
        have hPc := hP
        have hDc := hD
        have hFc := va_free (wc := (Model_c E a t5)) hD hS hA [0, 1, 2, 3, 4, 5, 6, 7] rfl
        refine mVM (ci := 8) (n := 0) (rest := []) (As := []) CC hKN hGl (c_X8_goesBack l E a t5 t6 ht6 _) gX8_on_X8_goesBack rfl ⟨rfl, rfl⟩ (by decide +kernel) ⟨Nat.le_of_ble_eq_true rfl, Nat.le_of_ble_eq_true rfl⟩ hPc hDc m_nil m_nilA hS hFc rfl rfl rfl rfl hl.1 rfl (Nat.le_of_ble_eq_true rfl) ⟨Nat.zero_le _, Nat.zero_le _⟩ dX8_on_109 (fun H1 locs hP1 hD1 hz1 hk1 hS => ?_)
        have hP : va_P E.1 vwCl (Model_c E a t6) H1 := hP1
        have hD : va_D A (Model_c E a t6) := m_back hD1 hFc
        generalize H1 = H at hP hS ⊢
        refine W.eq (g2 := F0 m 112 ls []) rfl ?_
        refine lv_iload_n hx hb dX8_on_112 rfl (lv_at hl 0 rfl) ?_
        have hF := Option.some.inj hF
        subst hF
        rw [hQ]
        exact W.iret hx hb hr (fun t ht _ => ⟨⟨rfl, by rw [ht]; exact hP, hD⟩, hS.F ht⟩) hS.2.2 dX8_on_113
      clear hjd107
      refine lv_if_ne (tgt := 66) hx hb dX8_on_56 (by decide) (fun c7 => ?_) (fun c7 => ?_)
      · have hF := m_pos c7 hF
        refine lv_iload_n hx hb dX8_on_66 rfl (lv_at hl 2 rfl) ?_
        refine lv_iconst (v := 1) hx hb dX8_on_67 (by decide) ?_
        refine lv_icmp_ne (tgt := 78) hx hb dX8_on_68 (by decide) (fun c8 => ?_) (fun c8 => ?_)
        · have hF := m_pos c8 hF
          refine lv_iload_n hx hb dX8_on_78 rfl (lv_at hl 2 rfl) ?_
          refine lv_bipush (v := 20) hx hb dX8_on_79 (by decide) ?_
          refine lv_icmp_ge (tgt := 95) hx hb dX8_on_81 (by decide) (fun c9 => ?_) (fun c9 => ?_)
          · have hF := m_pos c9 hF
            refine lv_aload_n hx hb dX8_on_95 rfl (lv_at hl 0 rfl) ?_
            refine va_get (D := E.1) (ci := 8) (v := .ref (Modela_s a)) (C := RX8) (T := TX8) (N := 20) hx hb hts k1 hown hK hP 0 rfl rfl 1 (by decide) k0 (fun _ h9 => h9) rfl dX8_on_96 ?_
            refine lv_bipush (v := 8) hx hb dX8_on_99 (by decide) ?_
            refine lv_iload_n hx hb dX8_on_101 rfl (lv_at hl 2 rfl) ?_
            refine lv_iadd hx hb dX8_on_102 ?_
            refine lv_bipush (v := 20) hx hb dX8_on_103 (by decide) ?_
            refine lv_isub hx hb dX8_on_105 ?_
            obtain ⟨h10, hF⟩ := m_chk hF
            refine va_iald (f := (Model_s t5)) hx hb hK hP 1 1 rfl rfl (mIn_ok h10) dX8_on_106 ?_
            refine W.eq (g2 := F0 m 107 ls [.int ((Model_s t5) (((8 + x1) - 20)).toNatClampNeg)]) rfl ?_
            exact hj107 ((Model_s t5) (((8 + x1) - 20)).toNatClampNeg) H locs ls hF hP hD hS (lv_sub hl [0] rfl)
          · have hF := m_neg c9 hF
            refine lv_aload_n hx hb dX8_on_84 rfl (lv_at hl 0 rfl) ?_
            refine lv_iload_n hx hb dX8_on_85 rfl (lv_at hl 2 rfl) ?_
            refine lv_bipush (v := 10) hx hb dX8_on_86 (by decide) ?_
            refine lv_isub hx hb dX8_on_88 ?_
            obtain ⟨t11, ht11, hF⟩ := m_bnd hF
            refine mVP (ci := 8) (n := 1) (rest := []) (As := [.int (x1 - 10)]) CC hKN hGl hS (c_X8_hoursMore l E a t5 (x1 - 10) t11 ht11) gX8_on_X8_hoursMore rfl ⟨rfl, rfl⟩ (by decide +kernel) ⟨Nat.le_of_ble_eq_true rfl, Nat.le_of_ble_eq_true rfl⟩ hP rfl rfl rfl rfl hl.1 rfl (Nat.le_of_ble_eq_true rfl) ⟨Nat.zero_le _, Nat.zero_le _⟩ dX8_on_89 ?_
            refine W.eq (g2 := F0 m 92 ls [.int t11]) rfl ?_
            refine lv_goto (tgt := 107) hx hb dX8_on_92 (by decide) ?_
            exact hj107 t11 H locs ls hF hP hD hS (lv_sub hl [0] rfl)
        · have hF := m_neg (fun n9 => n9 c8) hF
          refine lv_aload_n hx hb dX8_on_71 rfl (lv_at hl 0 rfl) ?_
          obtain ⟨t12, ht12, hF⟩ := m_bnd hF
          refine mVP (ci := 8) (n := 0) (rest := []) (As := []) CC hKN hGl hS (c_X8_allMore l E a t5 t12 ht12) gX8_on_X8_allMore rfl ⟨rfl, rfl⟩ (by decide +kernel) ⟨Nat.le_of_ble_eq_true rfl, Nat.le_of_ble_eq_true rfl⟩ hP rfl rfl rfl rfl hl.1 rfl (Nat.le_of_ble_eq_true rfl) ⟨Nat.zero_le _, Nat.zero_le _⟩ dX8_on_72 ?_
          refine W.eq (g2 := F0 m 75 ls [.int t12]) rfl ?_
          refine lv_goto (tgt := 107) hx hb dX8_on_75 (by decide) ?_
          exact hj107 t12 H locs ls hF hP hD hS (lv_sub hl [0] rfl)
      · have hF := m_neg (fun n9 => n9 c7) hF
        refine lv_aload_n hx hb dX8_on_59 rfl (lv_at hl 0 rfl) ?_
        obtain ⟨t13, ht13, hF⟩ := m_bnd hF
        refine mVP (ci := 8) (n := 0) (rest := []) (As := []) CC hKN hGl hS (c_X8_workMore l E a t5 t13 ht13) gX8_on_X8_workMore rfl ⟨rfl, rfl⟩ (by decide +kernel) ⟨Nat.le_of_ble_eq_true rfl, Nat.le_of_ble_eq_true rfl⟩ hP rfl rfl rfl rfl hl.1 rfl (Nat.le_of_ble_eq_true rfl) ⟨Nat.zero_le _, Nat.zero_le _⟩ dX8_on_60 ?_
        refine W.eq (g2 := F0 m 63 ls [.int t13]) rfl ?_
        refine lv_goto (tgt := 107) hx hb dX8_on_63 (by decide) ?_
        exact hj107 t13 H locs ls hF hP hD hS (lv_sub hl [0] rfl)
    · have hF := m_neg (fun n9 => n9 c3) hF
      refine lv_bipush (v := (-2)) hx hb dX8_on_43 (by decide) ?_
      have hF := Option.some.inj hF
      subst hF
      rw [hQ]
      exact W.iret hx hb hr (fun t ht _ => ⟨⟨rfl, by rw [ht]; exact hP, hD⟩, hS.F ht⟩) hS.2.2 dX8_on_45
  clear hjd33
  refine lv_if_ne (tgt := 33) hx hb dX8_on_6 (by decide) (fun c14 => ?_) (fun c14 => ?_)
  · have hF := m_pos c14 hF
    exact hj33 H locs ls hF hP hD hS (lv_sub hl [0, 1, 2] rfl)
  · have hF := m_neg (fun n9 => n9 c14) hF
    refine lv_aload_n hx hb dX8_on_9 rfl (lv_at hl 0 rfl) ?_
    refine lv_iload_n hx hb dX8_on_10 rfl (lv_at hl 2 rfl) ?_
    refine lv_bipush (v := 10) hx hb dX8_on_11 (by decide) ?_
    refine lv_isub hx hb dX8_on_13 ?_
    obtain ⟨t15, ht15, hF⟩ := m_bnd hF
    refine mVP (ci := 8) (n := 1) (rest := []) (As := [.int (x1 - 10)]) CC hKN hGl hS (c_X8_isPupil l E a v (x1 - 10) t15 ht15) gX8_on_X8_isPupil rfl ⟨rfl, rfl⟩ (by decide +kernel) ⟨Nat.le_of_ble_eq_true rfl, Nat.le_of_ble_eq_true rfl⟩ hP rfl rfl rfl rfl hl.1 rfl (Nat.le_of_ble_eq_true rfl) ⟨Nat.zero_le _, Nat.zero_le _⟩ dX8_on_14 ?_
    refine W.eq (g2 := F0 m 17 ls [.int t15]) rfl ?_
    refine lv_if_ne (tgt := 33) hx hb dX8_on_17 (by decide) (fun c16 => ?_) (fun c16 => ?_)
    · have hF := m_pos c16 hF
      exact hj33 H locs ls hF hP hD hS (lv_sub hl [0, 1, 2] rfl)
    · have hF := m_neg (fun n9 => n9 c16) hF
      refine lv_aload_n hx hb dX8_on_20 rfl (lv_at hl 0 rfl) ?_
      refine lv_iload_n hx hb dX8_on_21 rfl (lv_at hl 2 rfl) ?_
      refine lv_bipush (v := 20) hx hb dX8_on_22 (by decide) ?_
      refine lv_isub hx hb dX8_on_24 ?_
      obtain ⟨t17, ht17, hF⟩ := m_bnd hF
      refine mVP (ci := 8) (n := 1) (rest := []) (As := [.int (x1 - 20)]) CC hKN hGl hS (c_X8_isPupil l E a v (x1 - 20) t17 ht17) gX8_on_X8_isPupil rfl ⟨rfl, rfl⟩ (by decide +kernel) ⟨Nat.le_of_ble_eq_true rfl, Nat.le_of_ble_eq_true rfl⟩ hP rfl rfl rfl rfl hl.1 rfl (Nat.le_of_ble_eq_true rfl) ⟨Nat.zero_le _, Nat.zero_le _⟩ dX8_on_25 ?_
      refine W.eq (g2 := F0 m 28 ls [.int t17]) rfl ?_
      refine lv_if_ne (tgt := 33) hx hb dX8_on_28 (by decide) (fun c18 => ?_) (fun c18 => ?_)
      · have hF := m_pos c18 hF
        exact hj33 H locs ls hF hP hD hS (lv_sub hl [0, 1, 2] rfl)
      · have hF := m_neg (fun n9 => n9 c18) hF
        refine lv_iconst (v := (-1)) hx hb dX8_on_31 (by decide) ?_
        have hF := Option.some.inj hF
        subst hF
        rw [hQ]
        exact W.iret hx hb hr (fun t ht _ => ⟨⟨rfl, by rw [ht]; exact hP, hD⟩, hS.F ht⟩) hS.2.2 dX8_on_32

abbrev rmX8_ready : Room := { frames := 5, cells := 0, slots := 0, locals := 120 }
set_option maxRecDepth 100000 in
set_option maxHeartbeats 400000 in
theorem c_X8_ready (l : Launch) (E : mE) (a : ModelA) (v : ModelV) (t : (Int32 × ModelV)) (hF : fn_X8_ready v = some t) (sz : Nat) : Met l yX8_ready wsX8_ready rmX8_ready (mPm E [.ref (Modela_self a)] sz ((Model_c E a v)) (([] : va_W))) (mSm E (some (.int t.1)) ((Model_c E a t.2)) (va_A ((Model_c E a v)) sz)) 0 0 (va_A ((Model_c E a v)) sz) := by
  refine mOfM (cc := cX8_ready) (maxL := 3) (ret := (some .int)) (by decide) rfl (Nat.le_of_ble_eq_true rfl) ?_
  intro p e_ s m args below meth c Q A hQ CC hr hlocks hin hA hP hD hKN hGl hR0 hRA ls hl
  have hS : va_S A s.heap s.heap [] := va_S.rf
  have hK := hKN.1
  have hx := CC.1
  have hb := CC.2.1
  have hml := CC.2.2.1
  have hown : s.vm.findClass RX8 = some m.cls := CC.2.2.2.1
  have hts := CC.2.2.2.2
  have hl : lv_has ls 3 [(0, .ref (Modela_self a))] := hl
  have k0 := hts (.fieldLink RX8 9 "OneDidAllModel" "s" "[I") (by decide +kernel)
  have k1 := (show ∀ w ∈ u_ws RX8 TX8 20, w ∈ wsX8_ready by decide +kernel)
  have hP : va_P E.1 vwCl (Model_c E a v) s.heap := hP
  obtain ⟨H, hH⟩ : ∃ H, H = s.heap := ⟨_, rfl⟩
  obtain ⟨locs, hlc⟩ : ∃ z : List Loc, z = [] := ⟨_, rfl⟩
  rw [← hH] at hP
  rw [← hlc] at hS
  have hS : va_S A s.heap H locs := by rw [hH]; exact hS
  rw [← hH, ← hlc]
  unfold fn_X8_ready at hF
  refine lv_aload_n hx hb dX8_ready_0 rfl (lv_at hl 0 rfl) ?_
  obtain ⟨t1, ht1, hF⟩ := m_bnd hF
  have hPc := hP
  have hDc := hD
  have hFc := va_free (wc := (Model_c E a v)) hD hS hA [0, 1, 2, 3, 4, 5, 6, 7] rfl
  refine mVM (ci := 8) (n := 0) (rest := []) (As := []) CC hKN hGl (c_X8_keeps l E a v t1 ht1 _) gX8_ready_X8_keeps rfl ⟨rfl, rfl⟩ (by decide +kernel) ⟨Nat.le_of_ble_eq_true rfl, Nat.le_of_ble_eq_true rfl⟩ hPc hDc m_nil m_nilA hS hFc rfl rfl rfl rfl hl.1 rfl (Nat.le_of_ble_eq_true rfl) ⟨Nat.zero_le _, Nat.zero_le _⟩ dX8_ready_1 (fun H1 locs hP1 hD1 hz1 hk1 hS => ?_)
  have hP : va_P E.1 vwCl (Model_c E a t1) H1 := hP1
  have hD : va_D A (Model_c E a t1) := m_back hD1 hFc
  generalize H1 = H at hP hS ⊢
  refine W.eq (g2 := F0 m 4 ls []) rfl ?_
  refine lv_bipush (v := (-5)) hx hb dX8_ready_4 (by decide) ?_
  refine lv_istore_n (lv' := [(1, .int (-5)), (0, .ref (Modela_self a))]) hx hb dX8_ready_6 rfl hl (by decide) rfl (fun ls hl => ?_)
  refine lv_iconst (v := 0) hx hb dX8_ready_7 (by decide) ?_
  refine lv_istore_n (lv' := [(2, .int 0), (1, .int (-5)), (0, .ref (Modela_self a))]) hx hb dX8_ready_8 rfl hl (by decide) rfl (fun ls hl => ?_)
  obtain ⟨j51, hjd51, hF⟩ := m_jp hF
  have hj51 : ∀ (x1_51 : Int32) (wx_51 : ModelV) (H : Heap) (locs : List Loc) (ls : Array Slot), j51 x1_51 wx_51 = some t → va_P E.1 vwCl (Model_c E a wx_51) H → va_D A (Model_c E a wx_51) → va_S A s.heap H locs → lv_has ls 3 [(0, .ref (Modela_self a)), (1, .int x1_51)] → W p l e_ rmX8_ready s m args below meth c H locs 0 0 Q (F0 m 51 ls []) := by
    intro x1_51 wx_51 H locs ls hF hP hD hS hl
    rw [hjd51] at hF
    refine lv_aload_n hx hb dX8_ready_51 rfl (lv_at hl 0 rfl) ?_
    obtain ⟨t2, ht2, hF⟩ := m_bnd hF
    have hPc := hP
    have hDc := hD
    have hFc := va_free (wc := (Model_c E a wx_51)) hD hS hA [0, 1, 2, 3, 4, 5, 6, 7] rfl
    refine mVM (ci := 8) (n := 0) (rest := []) (As := []) CC hKN hGl (c_X8_goesBack l E a wx_51 t2 ht2 _) gX8_ready_X8_goesBack rfl ⟨rfl, rfl⟩ (by decide +kernel) ⟨Nat.le_of_ble_eq_true rfl, Nat.le_of_ble_eq_true rfl⟩ hPc hDc m_nil m_nilA hS hFc rfl rfl rfl rfl hl.1 rfl (Nat.le_of_ble_eq_true rfl) ⟨Nat.zero_le _, Nat.zero_le _⟩ dX8_ready_52 (fun H1 locs hP1 hD1 hz1 hk1 hS => ?_)
    have hP : va_P E.1 vwCl (Model_c E a t2) H1 := hP1
    have hD : va_D A (Model_c E a t2) := m_back hD1 hFc
    generalize H1 = H at hP hS ⊢
    refine W.eq (g2 := F0 m 55 ls []) rfl ?_
    refine lv_iload_n hx hb dX8_ready_55 rfl (lv_at hl 1 rfl) ?_
    have hF := Option.some.inj hF
    subst hF
    rw [hQ]
    exact W.iret hx hb hr (fun t ht _ => ⟨⟨rfl, by rw [ht]; exact hP, hD⟩, hS.F ht⟩) hS.2.2 dX8_ready_56
  clear hjd51
  have hL9 : ∀ (n : Nat) (y1_9 : Int32) (y2_9 : Int32) (wy_9 : ModelV) (H : Heap) (locs : List Loc) (ls : Array Slot), lp_X8_ready_9 j51 n y1_9 y2_9 wy_9 = some t → va_P E.1 vwCl (Model_c E a wy_9) H → va_D A (Model_c E a wy_9) → va_S A s.heap H locs → lv_has ls 3 [(0, .ref (Modela_self a)), (1, .int y1_9), (2, .int y2_9)] → W p l e_ rmX8_ready s m args below meth c H locs 0 0 Q (F0 m 9 ls []) := by
    intro n
    induction n with
    | zero =>
      intro y1_9 y2_9 wy_9 H locs ls hF
      exact nomatch (show (none : Option (Int32 × ModelV)) = some t from hF)
    | succ n ih9 =>
      intro y1_9 y2_9 wy_9 H locs ls hF hP hD hS hl
      have hF : st_X8_ready_9 j51 (lp_X8_ready_9 j51 n) y1_9 y2_9 wy_9 = some t := hF
      unfold st_X8_ready_9 at hF
      refine lv_iload_n hx hb dX8_ready_9 rfl (lv_at hl 2 rfl) ?_
      refine lv_bipush (v := 60) hx hb dX8_ready_10 (by decide) ?_
      refine lv_icmp_gt (tgt := 51) hx hb dX8_ready_12 (by decide) (fun c3 => ?_) (fun c3 => ?_)
      · have hF := m_pos c3 hF
        exact hj51 y1_9 wy_9 H locs ls hF hP hD hS (lv_sub hl [0, 1] rfl)
      · have hF := m_neg c3 hF
        refine lv_iload_n hx hb dX8_ready_15 rfl (lv_at hl 1 rfl) ?_
        refine lv_bipush (v := (-5)) hx hb dX8_ready_16 (by decide) ?_
        refine lv_icmp_ne (tgt := 51) hx hb dX8_ready_18 (by decide) (fun c4 => ?_) (fun c4 => ?_)
        · have hF := m_pos c4 hF
          exact hj51 y1_9 wy_9 H locs ls hF hP hD hS (lv_sub hl [0, 1] rfl)
        · have hF := m_neg (fun n9 => n9 c4) hF
          refine lv_aload_n hx hb dX8_ready_21 rfl (lv_at hl 0 rfl) ?_
          refine va_get (D := E.1) (ci := 8) (v := .ref (Modela_s a)) (C := RX8) (T := TX8) (N := 20) hx hb hts k1 hown hK hP 0 rfl rfl 1 (by decide) k0 (fun _ h9 => h9) rfl dX8_ready_22 ?_
          refine lv_iconst (v := 1) hx hb dX8_ready_25 (by decide) ?_
          obtain ⟨h5, hF⟩ := m_chk hF
          refine va_iald (f := (Model_s wy_9)) hx hb hK hP 1 1 rfl rfl (mIn_ok h5) dX8_ready_26 ?_
          refine W.eq (g2 := F0 m 27 ls [.int ((Model_s wy_9) (1 : Int32).toNatClampNeg)]) rfl ?_
          refine lv_aload_n hx hb dX8_ready_27 rfl (lv_at hl 0 rfl) ?_
          obtain ⟨t6, ht6, hF⟩ := m_bnd hF
          refine mVP (ci := 8) (n := 0) (rest := [.int ((Model_s wy_9) (1 : Int32).toNatClampNeg)]) (As := []) CC hKN hGl hS (c_X8_goalNow l E a wy_9 t6 ht6) gX8_ready_X8_goalNow rfl ⟨rfl, rfl⟩ (by decide +kernel) ⟨Nat.le_of_ble_eq_true rfl, Nat.le_of_ble_eq_true rfl⟩ hP rfl rfl rfl rfl hl.1 rfl (Nat.le_of_ble_eq_true rfl) ⟨Nat.zero_le _, Nat.zero_le _⟩ dX8_ready_28 ?_
          refine W.eq (g2 := F0 m 31 ls [.int t6, .int ((Model_s wy_9) (1 : Int32).toNatClampNeg)]) rfl ?_
          obtain ⟨j40, hjd40, hF⟩ := m_jp hF
          have hj40 : ∀ (z0_40 : Int32) (H : Heap) (locs : List Loc) (ls : Array Slot), j40 z0_40 = some t → va_P E.1 vwCl (Model_c E a wy_9) H → va_D A (Model_c E a wy_9) → va_S A s.heap H locs → lv_has ls 3 [(0, .ref (Modela_self a)), (2, .int y2_9)] → W p l e_ rmX8_ready s m args below meth c H locs 0 0 Q (F0 m 40 ls [.int z0_40]) := by
            intro z0_40 H locs ls hF hP hD hS hl
            rw [hjd40] at hF
            refine lv_istore_n (lv' := [(1, .int z0_40), (0, .ref (Modela_self a)), (2, .int y2_9)]) hx hb dX8_ready_40 rfl hl (by decide) rfl (fun ls hl => ?_)
            refine lv_aload_n hx hb dX8_ready_41 rfl (lv_at hl 1 rfl) ?_
            obtain ⟨t7, ht7, hF⟩ := m_bnd hF
            have hPc := hP
            have hDc := hD
            have hFc := va_free (wc := (Model_c E a wy_9)) hD hS hA [0, 1, 2, 3, 4, 5, 6, 7] rfl
            refine mVM (ci := 8) (n := 0) (rest := []) (As := []) CC hKN hGl (c_X8_goes l E a wy_9 t7 ht7 _) gX8_ready_X8_goes rfl ⟨rfl, rfl⟩ (by decide +kernel) ⟨Nat.le_of_ble_eq_true rfl, Nat.le_of_ble_eq_true rfl⟩ hPc hDc m_nil m_nilA hS hFc rfl rfl rfl rfl hl.1 rfl (Nat.le_of_ble_eq_true rfl) ⟨Nat.zero_le _, Nat.zero_le _⟩ dX8_ready_42 (fun H1 locs hP1 hD1 hz1 hk1 hS => ?_)
            have hP : va_P E.1 vwCl (Model_c E a t7) H1 := hP1
            have hD : va_D A (Model_c E a t7) := m_back hD1 hFc
            generalize H1 = H at hP hS ⊢
            refine W.eq (g2 := F0 m 45 ls []) rfl ?_
            refine lv_iinc (v := (y2_9 + 1)) (lv' := [(2, .int (y2_9 + 1)), (1, .int z0_40), (0, .ref (Modela_self a))]) hx hb dX8_ready_45 hl (k := 2) rfl rfl (by decide) rfl (fun ls hl => ?_)
            refine lv_goto (tgt := 9) hx hb dX8_ready_48 (by decide) ?_
            exact ih9 z0_40 (y2_9 + 1) t7 H locs ls hF hP hD hS (lv_sub hl [2, 1, 0] rfl)
          clear hjd40
          refine lv_icmp_lt (tgt := 38) hx hb dX8_ready_31 (by decide) (fun c8 => ?_) (fun c8 => ?_)
          · have hF := m_pos c8 hF
            refine lv_bipush (v := (-5)) hx hb dX8_ready_38 (by decide) ?_
            exact hj40 (-5) H locs ls hF hP hD hS (lv_sub hl [0, 2] rfl)
          · have hF := m_neg c8 hF
            refine lv_iload_n hx hb dX8_ready_34 rfl (lv_at hl 2 rfl) ?_
            refine lv_goto (tgt := 40) hx hb dX8_ready_35 (by decide) ?_
            exact hj40 y2_9 H locs ls hF hP hD hS (lv_sub hl [0, 2] rfl)
  exact hL9 m_N (-5) 0 t1 H locs ls hF hP hD hS (lv_sub hl [2, 1, 0] rfl)

abbrev rmX8_spread : Room := { frames := 5, cells := 0, slots := 0, locals := 114 }
set_option maxRecDepth 100000 in
set_option maxHeartbeats 400000 in
theorem c_X8_spread (l : Launch) (E : mE) (a : ModelA) (v : ModelV) (x0 : Int32) (t : Int32) (hF : fn_X8_spread v x0 = some t) : Met l yX8_spread wsX8_spread rmX8_spread (mPp E [.ref (Modela_self a), .int x0] (Model_c E a v)) (mSp (some (.int t))) 0 0 (fun _ => False) := by
  refine mOfP (cc := cX8_spread) (maxL := 6) (ret := (some .int)) (by decide) rfl (Nat.le_of_ble_eq_true rfl) ?_
  intro p e_ s m args below meth c Q hQ CC hr hlocks hP hKN hGl ls hl
  have hS : va_S (fun _ => False) s.heap s.heap [] := va_S.rf
  have hK := hKN.1
  have hx := CC.1
  have hb := CC.2.1
  have hml := CC.2.2.1
  have hown : s.vm.findClass RX8 = some m.cls := CC.2.2.2.1
  have hts := CC.2.2.2.2
  have hl : lv_has ls 6 [(0, .ref (Modela_self a)), (1, .int x0)] := hl
  have k0 := hts (.constant RX8 203 (1000000000)) (by decide +kernel)
  have k1 := hts (.fieldLink RX8 9 "OneDidAllModel" "s" "[I") (by decide +kernel)
  have k2 := (show ∀ w ∈ u_ws RX8 TX8 20, w ∈ wsX8_spread by decide +kernel)
  unfold fn_X8_spread at hF
  refine lv_iload_n hx hb dX8_spread_0 rfl (lv_at hl 1 rfl) ?_
  obtain ⟨t1, ht1, hF⟩ := m_bnd hF
  refine mSP (n := 1) (rest := []) (As := [.int x0]) CC hKN hGl hS (c_X8_isRule l E x0 t1 ht1) gX8_spread_X8_isRule rfl ⟨rfl, rfl⟩ (by decide +kernel) ⟨Nat.le_of_ble_eq_true rfl, Nat.le_of_ble_eq_true rfl⟩ m_nil rfl hl.1 rfl (Nat.le_of_ble_eq_true rfl) ⟨Nat.zero_le _, Nat.zero_le _⟩ dX8_spread_1 ?_
  refine W.eq (g2 := F0 m 4 ls [.int t1]) rfl ?_
  refine lv_if_ne (tgt := 9) hx hb dX8_spread_4 (by decide) (fun c2 => ?_) (fun c2 => ?_)
  · have hF := m_pos c2 hF
    refine lv_iconst (v := (-1)) hx hb dX8_spread_9 (by decide) ?_
    refine lv_istore_n (lv' := [(2, .int (-1)), (0, .ref (Modela_self a)), (1, .int x0)]) hx hb dX8_spread_10 rfl hl (by decide) rfl (fun ls hl => ?_)
    refine lv_ldc (v := 1000000000) hx hb hown k0 dX8_spread_11 ?_
    refine lv_istore_n (lv' := [(3, .int 1000000000), (2, .int (-1)), (0, .ref (Modela_self a)), (1, .int x0)]) hx hb dX8_spread_13 rfl hl (by decide) rfl (fun ls hl => ?_)
    refine lv_iconst (v := 0) hx hb dX8_spread_14 (by decide) ?_
    refine lv_istore (lv' := [(4, .int 0), (3, .int 1000000000), (2, .int (-1)), (0, .ref (Modela_self a)), (1, .int x0)]) hx hb dX8_spread_15 hl (by decide) rfl (fun ls hl => ?_)
    obtain ⟨j96, hjd96, hF⟩ := m_jp hF
    have hj96 : ∀ (x2_96 : Int32) (x3_96 : Int32) (ls : Array Slot), j96 x2_96 x3_96 = some t → lv_has ls 6 [(2, .int x2_96), (3, .int x3_96)] → W p l e_ rmX8_spread s m args below meth c s.heap [] 0 0 Q (F0 m 96 ls []) := by
      intro x2_96 x3_96 ls hF hl
      rw [hjd96] at hF
      refine lv_iload_n hx hb dX8_spread_96 rfl (lv_at hl 0 rfl) ?_
      refine lv_iconst (v := (-1)) hx hb dX8_spread_97 (by decide) ?_
      refine lv_icmp_ne (tgt := 105) hx hb dX8_spread_98 (by decide) (fun c3 => ?_) (fun c3 => ?_)
      · have hF := m_pos c3 hF
        refine lv_iload_n hx hb dX8_spread_105 rfl (lv_at hl 0 rfl) ?_
        refine lv_iload_n hx hb dX8_spread_106 rfl (lv_at hl 1 rfl) ?_
        refine lv_isub hx hb dX8_spread_107 ?_
        have hF := Option.some.inj hF
        subst hF
        rw [hQ]
        exact W.iret hx hb hr (fun t ht _ => ⟨rfl, ht⟩) (fun _ h => by cases h) dX8_spread_108
      · have hF := m_neg (fun n9 => n9 c3) hF
        refine lv_iconst (v := 0) hx hb dX8_spread_101 (by decide) ?_
        refine lv_goto (tgt := 108) hx hb dX8_spread_102 (by decide) ?_
        have hF := Option.some.inj hF
        subst hF
        rw [hQ]
        exact W.iret hx hb hr (fun t ht _ => ⟨rfl, ht⟩) (fun _ h => by cases h) dX8_spread_108
    clear hjd96
    have hL17 : ∀ (n : Nat) (y2_17 : Int32) (y3_17 : Int32) (y4_17 : Int32) (ls : Array Slot), lp_X8_spread_17 v x0 j96 n y2_17 y3_17 y4_17 = some t → lv_has ls 6 [(0, .ref (Modela_self a)), (1, .int x0), (2, .int y2_17), (3, .int y3_17), (4, .int y4_17)] → W p l e_ rmX8_spread s m args below meth c s.heap [] 0 0 Q (F0 m 17 ls []) := by
      intro n
      induction n with
      | zero =>
        intro y2_17 y3_17 y4_17 ls hF
        exact nomatch (show (none : Option Int32) = some t from hF)
      | succ n ih17 =>
        intro y2_17 y3_17 y4_17 ls hF hl
        have hF : st_X8_spread_17 v x0 j96 (lp_X8_spread_17 v x0 j96 n) y2_17 y3_17 y4_17 = some t := hF
        unfold st_X8_spread_17 at hF
        refine lv_iload hx hb dX8_spread_17 (lv_at hl 4 rfl) ?_
        refine lv_aload_n hx hb dX8_spread_19 rfl (lv_at hl 0 rfl) ?_
        refine va_get (D := E.1) (ci := 8) (v := .ref (Modela_s a)) (C := RX8) (T := TX8) (N := 20) hx hb hts k2 hown hK hP 0 rfl rfl 1 (by decide) k1 (fun _ h9 => h9) rfl dX8_spread_20 ?_
        refine lv_bipush (v := 20) hx hb dX8_spread_23 (by decide) ?_
        obtain ⟨h4, hF⟩ := m_chk hF
        refine va_iald (f := (Model_s v)) hx hb hK hP 1 1 rfl rfl (mIn_ok h4) dX8_spread_25 ?_
        refine W.eq (g2 := F0 m 26 ls [.int ((Model_s v) (20 : Int32).toNatClampNeg), .int y4_17]) rfl ?_
        refine lv_icmp_ge (tgt := 96) hx hb dX8_spread_26 (by decide) (fun c5 => ?_) (fun c5 => ?_)
        · have hF := m_pos c5 hF
          exact hj96 y2_17 y3_17 ls hF (lv_sub hl [2, 3] rfl)
        · have hF := m_neg c5 hF
          refine lv_aload_n hx hb dX8_spread_29 rfl (lv_at hl 0 rfl) ?_
          refine lv_iload hx hb dX8_spread_30 (lv_at hl 4 rfl) ?_
          refine lv_iload_n hx hb dX8_spread_32 rfl (lv_at hl 1 rfl) ?_
          obtain ⟨t6, ht6, hF⟩ := m_bnd hF
          refine mVP (ci := 8) (n := 2) (rest := []) (As := [.int y4_17, .int x0]) CC hKN hGl hS (c_X8_markOf l E a v y4_17 x0 t6 ht6) gX8_spread_X8_markOf rfl ⟨rfl, rfl⟩ (by decide +kernel) ⟨Nat.le_of_ble_eq_true rfl, Nat.le_of_ble_eq_true rfl⟩ hP rfl rfl rfl rfl hl.1 rfl (Nat.le_of_ble_eq_true rfl) ⟨Nat.zero_le _, Nat.zero_le _⟩ dX8_spread_33 ?_
          refine W.eq (g2 := F0 m 36 ls [.int t6]) rfl ?_
          refine lv_istore (lv' := [(5, .int t6), (0, .ref (Modela_self a)), (1, .int x0), (2, .int y2_17), (3, .int y3_17), (4, .int y4_17)]) hx hb dX8_spread_36 hl (by decide) rfl (fun ls hl => ?_)
          refine lv_aload_n hx hb dX8_spread_38 rfl (lv_at hl 1 rfl) ?_
          refine va_get (D := E.1) (ci := 8) (v := .ref (Modela_s a)) (C := RX8) (T := TX8) (N := 20) hx hb hts k2 hown hK hP 0 rfl rfl 1 (by decide) k1 (fun _ h9 => h9) rfl dX8_spread_39 ?_
          refine lv_bipush (v := 14) hx hb dX8_spread_42 (by decide) ?_
          refine lv_iload hx hb dX8_spread_44 (lv_at hl 5 rfl) ?_
          refine lv_iadd hx hb dX8_spread_46 ?_
          obtain ⟨h7, hF⟩ := m_chk hF
          refine va_iald (f := (Model_s v)) hx hb hK hP 1 1 rfl rfl (mIn_ok h7) dX8_spread_47 ?_
          refine W.eq (g2 := F0 m 48 ls [.int ((Model_s v) ((14 + y4_17)).toNatClampNeg)]) rfl ?_
          obtain ⟨j63, hjd63, hF⟩ := m_jp hF
          have hj63 : ∀ (z0_63 : Int32) (ls : Array Slot), j63 z0_63 = some t → lv_has ls 6 [(0, .ref (Modela_self a)), (1, .int x0), (3, .int y3_17), (4, .int y4_17), (5, .int t6)] → W p l e_ rmX8_spread s m args below meth c s.heap [] 0 0 Q (F0 m 63 ls [.int z0_63]) := by
            intro z0_63 ls hF hl
            rw [hjd63] at hF
            refine lv_istore_n (lv' := [(2, .int z0_63), (0, .ref (Modela_self a)), (1, .int x0), (3, .int y3_17), (4, .int y4_17), (5, .int t6)]) hx hb dX8_spread_63 rfl hl (by decide) rfl (fun ls hl => ?_)
            refine lv_aload_n hx hb dX8_spread_64 rfl (lv_at hl 1 rfl) ?_
            refine va_get (D := E.1) (ci := 8) (v := .ref (Modela_s a)) (C := RX8) (T := TX8) (N := 20) hx hb hts k2 hown hK hP 0 rfl rfl 1 (by decide) k1 (fun _ h9 => h9) rfl dX8_spread_65 ?_
            refine lv_bipush (v := 14) hx hb dX8_spread_68 (by decide) ?_
            refine lv_iload hx hb dX8_spread_70 (lv_at hl 4 rfl) ?_
            refine lv_iadd hx hb dX8_spread_72 ?_
            obtain ⟨h8, hF⟩ := m_chk hF
            refine va_iald (f := (Model_s v)) hx hb hK hP 1 1 rfl rfl (mIn_ok h8) dX8_spread_73 ?_
            refine W.eq (g2 := F0 m 74 ls [.int ((Model_s v) ((14 + y4_17)).toNatClampNeg)]) rfl ?_
            obtain ⟨j89, hjd89, hF⟩ := m_jp hF
            have hj89 : ∀ (z0_89 : Int32) (ls : Array Slot), j89 z0_89 = some t → lv_has ls 6 [(0, .ref (Modela_self a)), (1, .int x0), (2, .int z0_63), (4, .int y4_17)] → W p l e_ rmX8_spread s m args below meth c s.heap [] 0 0 Q (F0 m 89 ls [.int z0_89]) := by
              intro z0_89 ls hF hl
              rw [hjd89] at hF
              refine lv_istore_n (lv' := [(3, .int z0_89), (0, .ref (Modela_self a)), (1, .int x0), (2, .int z0_63), (4, .int y4_17)]) hx hb dX8_spread_89 rfl hl (by decide) rfl (fun ls hl => ?_)
              refine lv_iinc (v := (y4_17 + 1)) (lv' := [(4, .int (y4_17 + 1)), (3, .int z0_89), (0, .ref (Modela_self a)), (1, .int x0), (2, .int z0_63)]) hx hb dX8_spread_90 hl (k := 4) rfl rfl (by decide) rfl (fun ls hl => ?_)
              refine lv_goto (tgt := 17) hx hb dX8_spread_93 (by decide) ?_
              exact ih17 z0_63 z0_89 (y4_17 + 1) ls hF (lv_sub hl [2, 3, 4, 1, 0] rfl)
            clear hjd89
            obtain ⟨j88, hjd88, hF⟩ := m_jp hF
            have hj88 : ∀ (ls : Array Slot), j88 () = some t → lv_has ls 6 [(0, .ref (Modela_self a)), (1, .int x0), (2, .int z0_63), (3, .int y3_17), (4, .int y4_17)] → W p l e_ rmX8_spread s m args below meth c s.heap [] 0 0 Q (F0 m 88 ls []) := by
              intro ls hF hl
              rw [hjd88] at hF
              refine lv_iload_n hx hb dX8_spread_88 rfl (lv_at hl 3 rfl) ?_
              exact hj89 y3_17 ls hF (lv_sub hl [0, 1, 2, 4] rfl)
            clear hjd88
            refine lv_if_ne (tgt := 88) hx hb dX8_spread_74 (by decide) (fun c9 => ?_) (fun c9 => ?_)
            · have hF := m_pos c9 hF
              exact hj88 ls hF (lv_sub hl [1, 2, 0, 3, 4] rfl)
            · have hF := m_neg (fun n9 => n9 c9) hF
              refine lv_iload hx hb dX8_spread_77 (lv_at hl 5 rfl) ?_
              refine lv_iload_n hx hb dX8_spread_79 rfl (lv_at hl 3 rfl) ?_
              refine lv_icmp_ge (tgt := 88) hx hb dX8_spread_80 (by decide) (fun c10 => ?_) (fun c10 => ?_)
              · have hF := m_pos c10 hF
                exact hj88 ls hF (lv_sub hl [1, 2, 0, 3, 4] rfl)
              · have hF := m_neg c10 hF
                refine lv_iload hx hb dX8_spread_83 (lv_at hl 5 rfl) ?_
                refine lv_goto (tgt := 89) hx hb dX8_spread_85 (by decide) ?_
                exact hj89 t6 ls hF (lv_sub hl [1, 2, 0, 4] rfl)
          clear hjd63
          obtain ⟨j62, hjd62, hF⟩ := m_jp hF
          have hj62 : ∀ (ls : Array Slot), j62 () = some t → lv_has ls 6 [(0, .ref (Modela_self a)), (1, .int x0), (2, .int y2_17), (3, .int y3_17), (4, .int y4_17), (5, .int t6)] → W p l e_ rmX8_spread s m args below meth c s.heap [] 0 0 Q (F0 m 62 ls []) := by
            intro ls hF hl
            rw [hjd62] at hF
            refine lv_iload_n hx hb dX8_spread_62 rfl (lv_at hl 2 rfl) ?_
            exact hj63 y2_17 ls hF (lv_sub hl [0, 1, 3, 4, 5] rfl)
          clear hjd62
          refine lv_if_ne (tgt := 62) hx hb dX8_spread_48 (by decide) (fun c11 => ?_) (fun c11 => ?_)
          · have hF := m_pos c11 hF
            exact hj62 ls hF (lv_sub hl [1, 2, 3, 4, 5, 0] rfl)
          · have hF := m_neg (fun n9 => n9 c11) hF
            refine lv_iload hx hb dX8_spread_51 (lv_at hl 0 rfl) ?_
            refine lv_iload_n hx hb dX8_spread_53 rfl (lv_at hl 3 rfl) ?_
            refine lv_icmp_le (tgt := 62) hx hb dX8_spread_54 (by decide) (fun c12 => ?_) (fun c12 => ?_)
            · have hF := m_pos c12 hF
              exact hj62 ls hF (lv_sub hl [1, 2, 3, 4, 5, 0] rfl)
            · have hF := m_neg c12 hF
              refine lv_iload hx hb dX8_spread_57 (lv_at hl 0 rfl) ?_
              refine lv_goto (tgt := 63) hx hb dX8_spread_59 (by decide) ?_
              exact hj63 t6 ls hF (lv_sub hl [1, 2, 4, 5, 0] rfl)
    exact hL17 m_N (-1) 1000000000 0 ls hF (lv_sub hl [3, 4, 2, 1, 0] rfl)
  · have hF := m_neg (fun n9 => n9 c2) hF
    refine lv_iconst (v := (-1)) hx hb dX8_spread_7 (by decide) ?_
    have hF := Option.some.inj hF
    subst hF
    rw [hQ]
    exact W.iret hx hb hr (fun t ht _ => ⟨rfl, ht⟩) (fun _ h => by cases h) dX8_spread_8

abbrev rmX8_farFrom : Room := { frames := 5, cells := 0, slots := 0, locals := 114 }
set_option maxRecDepth 100000 in
set_option maxHeartbeats 400000 in
theorem c_X8_farFrom (l : Launch) (E : mE) (a : ModelA) (v : ModelV) (x0 : Int32) (t : Int32) (hF : fn_X8_farFrom v x0 = some t) : Met l yX8_farFrom wsX8_farFrom rmX8_farFrom (mPp E [.ref (Modela_self a), .int x0] (Model_c E a v)) (mSp (some (.int t))) 0 0 (fun _ => False) := by
  refine mOfP (cc := cX8_farFrom) (maxL := 4) (ret := (some .int)) (by decide) rfl (Nat.le_of_ble_eq_true rfl) ?_
  intro p e_ s m args below meth c Q hQ CC hr hlocks hP hKN hGl ls hl
  have hS : va_S (fun _ => False) s.heap s.heap [] := va_S.rf
  have hK := hKN.1
  have hx := CC.1
  have hb := CC.2.1
  have hml := CC.2.2.1
  have hown : s.vm.findClass RX8 = some m.cls := CC.2.2.2.1
  have hts := CC.2.2.2.2
  have hl : lv_has ls 4 [(0, .ref (Modela_self a)), (1, .int x0)] := hl
  have k0 := hts (.fieldLink RX8 9 "OneDidAllModel" "s" "[I") (by decide +kernel)
  have k1 := (show ∀ w ∈ u_ws RX8 TX8 20, w ∈ wsX8_farFrom by decide +kernel)
  unfold fn_X8_farFrom at hF
  refine lv_iconst (v := 0) hx hb dX8_farFrom_0 (by decide) ?_
  refine lv_istore_n (lv' := [(2, .int 0), (0, .ref (Modela_self a)), (1, .int x0)]) hx hb dX8_farFrom_1 rfl hl (by decide) rfl (fun ls hl => ?_)
  refine lv_iconst (v := 0) hx hb dX8_farFrom_2 (by decide) ?_
  refine lv_istore_n (lv' := [(3, .int 0), (2, .int 0), (0, .ref (Modela_self a)), (1, .int x0)]) hx hb dX8_farFrom_3 rfl hl (by decide) rfl (fun ls hl => ?_)
  have hL4 : ∀ (n : Nat) (y2_4 : Int32) (y3_4 : Int32) (ls : Array Slot), lp_X8_farFrom_4 v x0 n y2_4 y3_4 = some t → lv_has ls 4 [(0, .ref (Modela_self a)), (1, .int x0), (2, .int y2_4), (3, .int y3_4)] → W p l e_ rmX8_farFrom s m args below meth c s.heap [] 0 0 Q (F0 m 4 ls []) := by
    intro n
    induction n with
    | zero =>
      intro y2_4 y3_4 ls hF
      exact nomatch (show (none : Option Int32) = some t from hF)
    | succ n ih4 =>
      intro y2_4 y3_4 ls hF hl
      have hF : st_X8_farFrom_4 v x0 (lp_X8_farFrom_4 v x0 n) y2_4 y3_4 = some t := hF
      unfold st_X8_farFrom_4 at hF
      refine lv_iload_n hx hb dX8_farFrom_4 rfl (lv_at hl 3 rfl) ?_
      refine lv_aload_n hx hb dX8_farFrom_5 rfl (lv_at hl 0 rfl) ?_
      refine va_get (D := E.1) (ci := 8) (v := .ref (Modela_s a)) (C := RX8) (T := TX8) (N := 20) hx hb hts k1 hown hK hP 0 rfl rfl 1 (by decide) k0 (fun _ h9 => h9) rfl dX8_farFrom_6 ?_
      refine lv_bipush (v := 20) hx hb dX8_farFrom_9 (by decide) ?_
      obtain ⟨h1, hF⟩ := m_chk hF
      refine va_iald (f := (Model_s v)) hx hb hK hP 1 1 rfl rfl (mIn_ok h1) dX8_farFrom_11 ?_
      refine W.eq (g2 := F0 m 12 ls [.int ((Model_s v) (20 : Int32).toNatClampNeg), .int y3_4]) rfl ?_
      refine lv_icmp_ge (tgt := 40) hx hb dX8_farFrom_12 (by decide) (fun c2 => ?_) (fun c2 => ?_)
      · have hF := m_pos c2 hF
        refine lv_iload_n hx hb dX8_farFrom_40 rfl (lv_at hl 2 rfl) ?_
        have hF := Option.some.inj hF
        subst hF
        rw [hQ]
        exact W.iret hx hb hr (fun t ht _ => ⟨rfl, ht⟩) (fun _ h => by cases h) dX8_farFrom_41
      · have hF := m_neg c2 hF
        refine lv_iload_n hx hb dX8_farFrom_15 rfl (lv_at hl 2 rfl) ?_
        refine lv_aload_n hx hb dX8_farFrom_16 rfl (lv_at hl 0 rfl) ?_
        refine lv_iload_n hx hb dX8_farFrom_17 rfl (lv_at hl 3 rfl) ?_
        refine lv_iload_n hx hb dX8_farFrom_18 rfl (lv_at hl 1 rfl) ?_
        obtain ⟨t3, ht3, hF⟩ := m_bnd hF
        refine mVP (ci := 8) (n := 2) (rest := [.int y2_4]) (As := [.int y3_4, .int x0]) CC hKN hGl hS (c_X8_markOf l E a v y3_4 x0 t3 ht3) gX8_farFrom_X8_markOf rfl ⟨rfl, rfl⟩ (by decide +kernel) ⟨Nat.le_of_ble_eq_true rfl, Nat.le_of_ble_eq_true rfl⟩ hP rfl rfl rfl rfl hl.1 rfl (Nat.le_of_ble_eq_true rfl) ⟨Nat.zero_le _, Nat.zero_le _⟩ dX8_farFrom_19 ?_
        refine W.eq (g2 := F0 m 22 ls [.int t3, .int y2_4]) rfl ?_
        refine lv_aload_n hx hb dX8_farFrom_22 rfl (lv_at hl 0 rfl) ?_
        refine lv_iload_n hx hb dX8_farFrom_23 rfl (lv_at hl 3 rfl) ?_
        refine lv_iconst (v := 1) hx hb dX8_farFrom_24 (by decide) ?_
        obtain ⟨t4, ht4, hF⟩ := m_bnd hF
        refine mVP (ci := 8) (n := 2) (rest := [.int t3, .int y2_4]) (As := [.int y3_4, .int 1]) CC hKN hGl hS (c_X8_markOf l E a v y3_4 1 t4 ht4) gX8_farFrom_X8_markOf rfl ⟨rfl, rfl⟩ (by decide +kernel) ⟨Nat.le_of_ble_eq_true rfl, Nat.le_of_ble_eq_true rfl⟩ hP rfl rfl rfl rfl hl.1 rfl (Nat.le_of_ble_eq_true rfl) ⟨Nat.zero_le _, Nat.zero_le _⟩ dX8_farFrom_25 ?_
        refine W.eq (g2 := F0 m 28 ls [.int t4, .int t3, .int y2_4]) rfl ?_
        refine lv_isub hx hb dX8_farFrom_28 ?_
        obtain ⟨t5, ht5, hF⟩ := m_bnd hF
        refine mSP (n := 1) (rest := [.int y2_4]) (As := [.int (t3 - t4)]) CC hKN hGl hS (c_X8_size l E (t3 - t4) t5 ht5) gX8_farFrom_X8_size rfl ⟨rfl, rfl⟩ (by decide +kernel) ⟨Nat.le_of_ble_eq_true rfl, Nat.le_of_ble_eq_true rfl⟩ m_nil rfl hl.1 rfl (Nat.le_of_ble_eq_true rfl) ⟨Nat.zero_le _, Nat.zero_le _⟩ dX8_farFrom_29 ?_
        refine W.eq (g2 := F0 m 32 ls [.int t5, .int y2_4]) rfl ?_
        refine lv_iadd hx hb dX8_farFrom_32 ?_
        refine lv_istore_n (lv' := [(2, .int (y2_4 + t5)), (0, .ref (Modela_self a)), (1, .int x0), (3, .int y3_4)]) hx hb dX8_farFrom_33 rfl hl (by decide) rfl (fun ls hl => ?_)
        refine lv_iinc (v := (y3_4 + 1)) (lv' := [(3, .int (y3_4 + 1)), (2, .int (y2_4 + t5)), (0, .ref (Modela_self a)), (1, .int x0)]) hx hb dX8_farFrom_34 hl (k := 3) rfl rfl (by decide) rfl (fun ls hl => ?_)
        refine lv_goto (tgt := 4) hx hb dX8_farFrom_37 (by decide) ?_
        exact ih4 (y2_4 + t5) (y3_4 + 1) ls hF (lv_sub hl [2, 3, 1, 0] rfl)
  exact hL4 m_N 0 0 ls hF (lv_sub hl [2, 3, 1, 0] rfl)

abbrev rmX8_nearest : Room := { frames := 6, cells := 0, slots := 0, locals := 137 }
set_option maxRecDepth 100000 in
set_option maxHeartbeats 400000 in
theorem c_X8_nearest (l : Launch) (E : mE) (a : ModelA) (v : ModelV) (t : Int32) (hF : fn_X8_nearest v = some t) : Met l yX8_nearest wsX8_nearest rmX8_nearest (mPp E [.ref (Modela_self a)] (Model_c E a v)) (mSp (some (.int t))) 0 0 (fun _ => False) := by
  refine mOfP (cc := cX8_nearest) (maxL := 2) (ret := (some .int)) (by decide) rfl (Nat.le_of_ble_eq_true rfl) ?_
  intro p e_ s m args below meth c Q hQ CC hr hlocks hP hKN hGl ls hl
  have hS : va_S (fun _ => False) s.heap s.heap [] := va_S.rf
  have hK := hKN.1
  have hx := CC.1
  have hb := CC.2.1
  have hml := CC.2.2.1
  have hown : s.vm.findClass RX8 = some m.cls := CC.2.2.2.1
  have hts := CC.2.2.2.2
  have hl : lv_has ls 2 [(0, .ref (Modela_self a))] := hl
  unfold fn_X8_nearest at hF
  refine lv_iconst (v := 0) hx hb dX8_nearest_0 (by decide) ?_
  refine lv_istore_n (lv' := [(1, .int 0), (0, .ref (Modela_self a))]) hx hb dX8_nearest_1 rfl hl (by decide) rfl (fun ls hl => ?_)
  refine lv_aload_n hx hb dX8_nearest_2 rfl (lv_at hl 1 rfl) ?_
  refine lv_iconst (v := 2) hx hb dX8_nearest_3 (by decide) ?_
  obtain ⟨t1, ht1, hF⟩ := m_bnd hF
  refine mVP (ci := 8) (n := 1) (rest := []) (As := [.int 2]) CC hKN hGl hS (c_X8_farFrom l E a v 2 t1 ht1) gX8_nearest_X8_farFrom rfl ⟨rfl, rfl⟩ (by decide +kernel) ⟨Nat.le_of_ble_eq_true rfl, Nat.le_of_ble_eq_true rfl⟩ hP rfl rfl rfl rfl hl.1 rfl (Nat.le_of_ble_eq_true rfl) ⟨Nat.zero_le _, Nat.zero_le _⟩ dX8_nearest_4 ?_
  refine W.eq (g2 := F0 m 7 ls [.int t1]) rfl ?_
  refine lv_aload_n hx hb dX8_nearest_7 rfl (lv_at hl 1 rfl) ?_
  refine lv_iload_n hx hb dX8_nearest_8 rfl (lv_at hl 0 rfl) ?_
  obtain ⟨t2, ht2, hF⟩ := m_bnd hF
  refine mVP (ci := 8) (n := 1) (rest := [.int t1]) (As := [.int 0]) CC hKN hGl hS (c_X8_farFrom l E a v 0 t2 ht2) gX8_nearest_X8_farFrom rfl ⟨rfl, rfl⟩ (by decide +kernel) ⟨Nat.le_of_ble_eq_true rfl, Nat.le_of_ble_eq_true rfl⟩ hP rfl rfl rfl rfl hl.1 rfl (Nat.le_of_ble_eq_true rfl) ⟨Nat.zero_le _, Nat.zero_le _⟩ dX8_nearest_9 ?_
  refine W.eq (g2 := F0 m 12 ls [.int t2, .int t1]) rfl ?_
  obtain ⟨j20, hjd20, hF⟩ := m_jp hF
  have hj20 : ∀ (z0_20 : Int32) (ls : Array Slot), j20 z0_20 = some t → lv_has ls 2 [(0, .ref (Modela_self a))] → W p l e_ rmX8_nearest s m args below meth c s.heap [] 0 0 Q (F0 m 20 ls [.int z0_20]) := by
    intro z0_20 ls hF hl
    rw [hjd20] at hF
    refine lv_istore_n (lv' := [(1, .int z0_20), (0, .ref (Modela_self a))]) hx hb dX8_nearest_20 rfl hl (by decide) rfl (fun ls hl => ?_)
    refine lv_aload_n hx hb dX8_nearest_21 rfl (lv_at hl 1 rfl) ?_
    refine lv_iconst (v := 3) hx hb dX8_nearest_22 (by decide) ?_
    obtain ⟨t3, ht3, hF⟩ := m_bnd hF
    refine mVP (ci := 8) (n := 1) (rest := []) (As := [.int 3]) CC hKN hGl hS (c_X8_farFrom l E a v 3 t3 ht3) gX8_nearest_X8_farFrom rfl ⟨rfl, rfl⟩ (by decide +kernel) ⟨Nat.le_of_ble_eq_true rfl, Nat.le_of_ble_eq_true rfl⟩ hP rfl rfl rfl rfl hl.1 rfl (Nat.le_of_ble_eq_true rfl) ⟨Nat.zero_le _, Nat.zero_le _⟩ dX8_nearest_23 ?_
    refine W.eq (g2 := F0 m 26 ls [.int t3]) rfl ?_
    refine lv_aload_n hx hb dX8_nearest_26 rfl (lv_at hl 1 rfl) ?_
    refine lv_iload_n hx hb dX8_nearest_27 rfl (lv_at hl 0 rfl) ?_
    obtain ⟨t4, ht4, hF⟩ := m_bnd hF
    refine mVP (ci := 8) (n := 1) (rest := [.int t3]) (As := [.int z0_20]) CC hKN hGl hS (c_X8_farFrom l E a v z0_20 t4 ht4) gX8_nearest_X8_farFrom rfl ⟨rfl, rfl⟩ (by decide +kernel) ⟨Nat.le_of_ble_eq_true rfl, Nat.le_of_ble_eq_true rfl⟩ hP rfl rfl rfl rfl hl.1 rfl (Nat.le_of_ble_eq_true rfl) ⟨Nat.zero_le _, Nat.zero_le _⟩ dX8_nearest_28 ?_
    refine W.eq (g2 := F0 m 31 ls [.int t4, .int t3]) rfl ?_
    refine lv_icmp_ge (tgt := 38) hx hb dX8_nearest_31 (by decide) (fun c5 => ?_) (fun c5 => ?_)
    · have hF := m_pos c5 hF
      refine lv_iload_n hx hb dX8_nearest_38 rfl (lv_at hl 0 rfl) ?_
      have hF := Option.some.inj hF
      subst hF
      rw [hQ]
      exact W.iret hx hb hr (fun t ht _ => ⟨rfl, ht⟩) (fun _ h => by cases h) dX8_nearest_39
    · have hF := m_neg c5 hF
      refine lv_iconst (v := 3) hx hb dX8_nearest_34 (by decide) ?_
      refine lv_goto (tgt := 39) hx hb dX8_nearest_35 (by decide) ?_
      have hF := Option.some.inj hF
      subst hF
      rw [hQ]
      exact W.iret hx hb hr (fun t ht _ => ⟨rfl, ht⟩) (fun _ h => by cases h) dX8_nearest_39
  clear hjd20
  refine lv_icmp_ge (tgt := 19) hx hb dX8_nearest_12 (by decide) (fun c6 => ?_) (fun c6 => ?_)
  · have hF := m_pos c6 hF
    refine lv_iload_n hx hb dX8_nearest_19 rfl (lv_at hl 0 rfl) ?_
    exact hj20 0 ls hF (lv_sub hl [1] rfl)
  · have hF := m_neg c6 hF
    refine lv_iconst (v := 2) hx hb dX8_nearest_15 (by decide) ?_
    refine lv_goto (tgt := 20) hx hb dX8_nearest_16 (by decide) ?_
    exact hj20 2 ls hF (lv_sub hl [1] rfl)

abbrev rmX8_workBy : Room := { frames := 6, cells := 0, slots := 0, locals := 142 }
set_option maxRecDepth 100000 in
set_option maxHeartbeats 400000 in
theorem c_X8_workBy (l : Launch) (E : mE) (a : ModelA) (v : ModelV) (x0 : Int32) (x1 : Int32) (t : (Int32 × ModelV)) (hF : fn_X8_workBy v x0 x1 = some t) (sz : Nat) : Met l yX8_workBy wsX8_workBy rmX8_workBy (mPm E [.ref (Modela_self a), .int x0, .int x1] sz ((Model_c E a v)) (([] : va_W))) (mSm E (some (.int t.1)) ((Model_c E a t.2)) (va_A ((Model_c E a v)) sz)) 0 0 (va_A ((Model_c E a v)) sz) := by
  refine mOfM (cc := cX8_workBy) (maxL := 4) (ret := (some .int)) (by decide) rfl (Nat.le_of_ble_eq_true rfl) ?_
  intro p e_ s m args below meth c Q A hQ CC hr hlocks hin hA hP hD hKN hGl hR0 hRA ls hl
  have hS : va_S A s.heap s.heap [] := va_S.rf
  have hK := hKN.1
  have hx := CC.1
  have hb := CC.2.1
  have hml := CC.2.2.1
  have hown : s.vm.findClass RX8 = some m.cls := CC.2.2.2.1
  have hts := CC.2.2.2.2
  have hl : lv_has ls 4 [(0, .ref (Modela_self a)), (1, .int x0), (2, .int x1)] := hl
  have k0 := hts (.fieldLink RX8 9 "OneDidAllModel" "s" "[I") (by decide +kernel)
  have k1 := (show ∀ w ∈ u_ws RX8 TX8 20, w ∈ wsX8_workBy by decide +kernel)
  have hP : va_P E.1 vwCl (Model_c E a v) s.heap := hP
  obtain ⟨H, hH⟩ : ∃ H, H = s.heap := ⟨_, rfl⟩
  obtain ⟨locs, hlc⟩ : ∃ z : List Loc, z = [] := ⟨_, rfl⟩
  rw [← hH] at hP
  rw [← hlc] at hS
  have hS : va_S A s.heap H locs := by rw [hH]; exact hS
  rw [← hH, ← hlc]
  unfold fn_X8_workBy at hF
  refine lv_aload_n hx hb dX8_workBy_0 rfl (lv_at hl 0 rfl) ?_
  obtain ⟨t1, ht1, hF⟩ := m_bnd hF
  have hPc := hP
  have hDc := hD
  have hFc := va_free (wc := (Model_c E a v)) hD hS hA [0, 1, 2, 3, 4, 5, 6, 7] rfl
  refine mVM (ci := 8) (n := 0) (rest := []) (As := []) CC hKN hGl (c_X8_keeps l E a v t1 ht1 _) gX8_workBy_X8_keeps rfl ⟨rfl, rfl⟩ (by decide +kernel) ⟨Nat.le_of_ble_eq_true rfl, Nat.le_of_ble_eq_true rfl⟩ hPc hDc m_nil m_nilA hS hFc rfl rfl rfl rfl hl.1 rfl (Nat.le_of_ble_eq_true rfl) ⟨Nat.zero_le _, Nat.zero_le _⟩ dX8_workBy_1 (fun H1 locs hP1 hD1 hz1 hk1 hS => ?_)
  have hP : va_P E.1 vwCl (Model_c E a t1) H1 := hP1
  have hD : va_D A (Model_c E a t1) := m_back hD1 hFc
  generalize H1 = H at hP hS ⊢
  refine W.eq (g2 := F0 m 4 ls []) rfl ?_
  refine lv_iconst (v := 0) hx hb dX8_workBy_4 (by decide) ?_
  refine lv_istore_n (lv' := [(3, .int 0), (0, .ref (Modela_self a)), (1, .int x0), (2, .int x1)]) hx hb dX8_workBy_5 rfl hl (by decide) rfl (fun ls hl => ?_)
  obtain ⟨j46, hjd46, hF⟩ := m_jp hF
  have hj46 : ∀ (wx_46 : ModelV) (H : Heap) (locs : List Loc) (ls : Array Slot), j46 wx_46 = some t → va_P E.1 vwCl (Model_c E a wx_46) H → va_D A (Model_c E a wx_46) → va_S A s.heap H locs → lv_has ls 4 [(0, .ref (Modela_self a)), (2, .int x1)] → W p l e_ rmX8_workBy s m args below meth c H locs 0 0 Q (F0 m 46 ls []) := by
    intro wx_46 H locs ls hF hP hD hS hl
    rw [hjd46] at hF
    refine lv_aload_n hx hb dX8_workBy_46 rfl (lv_at hl 0 rfl) ?_
    refine lv_iload_n hx hb dX8_workBy_47 rfl (lv_at hl 1 rfl) ?_
    obtain ⟨t2, ht2, hF⟩ := m_bnd hF
    have hPc := hP
    have hDc := hD
    have hFc := va_free (wc := (Model_c E a wx_46)) hD hS hA [0, 1, 2, 3, 4, 5, 6, 7] rfl
    refine mVM (ci := 8) (n := 1) (rest := []) (As := [.int x1]) CC hKN hGl (c_X8_goesOn l E a wx_46 x1 t2 ht2 _) gX8_workBy_X8_goesOn rfl ⟨rfl, rfl⟩ (by decide +kernel) ⟨Nat.le_of_ble_eq_true rfl, Nat.le_of_ble_eq_true rfl⟩ hPc hDc m_nil m_nilA hS hFc rfl rfl rfl rfl hl.1 rfl (Nat.le_of_ble_eq_true rfl) ⟨Nat.zero_le _, Nat.zero_le _⟩ dX8_workBy_48 (fun H1 locs hP1 hD1 hz1 hk1 hS => ?_)
    have hP : va_P E.1 vwCl (Model_c E a t2) H1 := hP1
    have hD : va_D A (Model_c E a t2) := m_back hD1 hFc
    generalize H1 = H at hP hS ⊢
    refine W.eq (g2 := F0 m 51 ls []) rfl ?_
    refine lv_aload_n hx hb dX8_workBy_51 rfl (lv_at hl 0 rfl) ?_
    obtain ⟨t3, ht3, hF⟩ := m_bnd hF
    refine mVP (ci := 8) (n := 0) (rest := []) (As := []) CC hKN hGl hS (c_X8_workMore l E a t2 t3 ht3) gX8_workBy_X8_workMore rfl ⟨rfl, rfl⟩ (by decide +kernel) ⟨Nat.le_of_ble_eq_true rfl, Nat.le_of_ble_eq_true rfl⟩ hP rfl rfl rfl rfl hl.1 rfl (Nat.le_of_ble_eq_true rfl) ⟨Nat.zero_le _, Nat.zero_le _⟩ dX8_workBy_52 ?_
    refine W.eq (g2 := F0 m 55 ls [.int t3]) rfl ?_
    refine lv_istore_n (lv' := [(3, .int t3), (0, .ref (Modela_self a)), (2, .int x1)]) hx hb dX8_workBy_55 rfl hl (by decide) rfl (fun ls hl => ?_)
    refine lv_aload_n hx hb dX8_workBy_56 rfl (lv_at hl 1 rfl) ?_
    obtain ⟨t4, ht4, hF⟩ := m_bnd hF
    have hPc := hP
    have hDc := hD
    have hFc := va_free (wc := (Model_c E a t2)) hD hS hA [0, 1, 2, 3, 4, 5, 6, 7] rfl
    refine mVM (ci := 8) (n := 0) (rest := []) (As := []) CC hKN hGl (c_X8_goesBack l E a t2 t4 ht4 _) gX8_workBy_X8_goesBack rfl ⟨rfl, rfl⟩ (by decide +kernel) ⟨Nat.le_of_ble_eq_true rfl, Nat.le_of_ble_eq_true rfl⟩ hPc hDc m_nil m_nilA hS hFc rfl rfl rfl rfl hl.1 rfl (Nat.le_of_ble_eq_true rfl) ⟨Nat.zero_le _, Nat.zero_le _⟩ dX8_workBy_57 (fun H1 locs hP1 hD1 hz1 hk1 hS => ?_)
    have hP : va_P E.1 vwCl (Model_c E a t4) H1 := hP1
    have hD : va_D A (Model_c E a t4) := m_back hD1 hFc
    generalize H1 = H at hP hS ⊢
    refine W.eq (g2 := F0 m 60 ls []) rfl ?_
    refine lv_iload_n hx hb dX8_workBy_60 rfl (lv_at hl 0 rfl) ?_
    have hF := Option.some.inj hF
    subst hF
    rw [hQ]
    exact W.iret hx hb hr (fun t ht _ => ⟨⟨rfl, by rw [ht]; exact hP, hD⟩, hS.F ht⟩) hS.2.2 dX8_workBy_61
  clear hjd46
  have hL6 : ∀ (n : Nat) (y3_6 : Int32) (wy_6 : ModelV) (H : Heap) (locs : List Loc) (ls : Array Slot), lp_X8_workBy_6 x0 j46 n y3_6 wy_6 = some t → va_P E.1 vwCl (Model_c E a wy_6) H → va_D A (Model_c E a wy_6) → va_S A s.heap H locs → lv_has ls 4 [(0, .ref (Modela_self a)), (1, .int x0), (2, .int x1), (3, .int y3_6)] → W p l e_ rmX8_workBy s m args below meth c H locs 0 0 Q (F0 m 6 ls []) := by
    intro n
    induction n with
    | zero =>
      intro y3_6 wy_6 H locs ls hF
      exact nomatch (show (none : Option (Int32 × ModelV)) = some t from hF)
    | succ n ih6 =>
      intro y3_6 wy_6 H locs ls hF hP hD hS hl
      have hF : st_X8_workBy_6 x0 j46 (lp_X8_workBy_6 x0 j46 n) y3_6 wy_6 = some t := hF
      unfold st_X8_workBy_6 at hF
      refine lv_iload_n hx hb dX8_workBy_6 rfl (lv_at hl 3 rfl) ?_
      refine lv_aload_n hx hb dX8_workBy_7 rfl (lv_at hl 0 rfl) ?_
      refine va_get (D := E.1) (ci := 8) (v := .ref (Modela_s a)) (C := RX8) (T := TX8) (N := 20) hx hb hts k1 hown hK hP 0 rfl rfl 1 (by decide) k0 (fun _ h9 => h9) rfl dX8_workBy_8 ?_
      refine lv_bipush (v := 20) hx hb dX8_workBy_11 (by decide) ?_
      obtain ⟨h5, hF⟩ := m_chk hF
      refine va_iald (f := (Model_s wy_6)) hx hb hK hP 1 1 rfl rfl (mIn_ok h5) dX8_workBy_13 ?_
      refine W.eq (g2 := F0 m 14 ls [.int ((Model_s wy_6) (20 : Int32).toNatClampNeg), .int y3_6]) rfl ?_
      refine lv_icmp_ge (tgt := 46) hx hb dX8_workBy_14 (by decide) (fun c6 => ?_) (fun c6 => ?_)
      · have hF := m_pos c6 hF
        exact hj46 wy_6 H locs ls hF hP hD hS (lv_sub hl [0, 2] rfl)
      · have hF := m_neg c6 hF
        refine lv_aload_n hx hb dX8_workBy_17 rfl (lv_at hl 0 rfl) ?_
        refine va_get (D := E.1) (ci := 8) (v := .ref (Modela_s a)) (C := RX8) (T := TX8) (N := 20) hx hb hts k1 hown hK hP 0 rfl rfl 1 (by decide) k0 (fun _ h9 => h9) rfl dX8_workBy_18 ?_
        refine lv_bipush (v := 14) hx hb dX8_workBy_21 (by decide) ?_
        refine lv_iload_n hx hb dX8_workBy_23 rfl (lv_at hl 3 rfl) ?_
        refine lv_iadd hx hb dX8_workBy_24 ?_
        refine lv_iload_n hx hb dX8_workBy_25 rfl (lv_at hl 1 rfl) ?_
        refine lv_iload_n hx hb dX8_workBy_26 rfl (lv_at hl 3 rfl) ?_
        refine lv_ishr hx hb dX8_workBy_27 ?_
        refine lv_iconst (v := 1) hx hb dX8_workBy_28 (by decide) ?_
        refine lv_iand hx hb dX8_workBy_29 ?_
        refine lv_iconst (v := 1) hx hb dX8_workBy_30 (by decide) ?_
        obtain ⟨j39, hjd39, hF⟩ := m_jp hF
        have hj39 : ∀ (z0_39 : Int32) (H : Heap) (locs : List Loc) (ls : Array Slot), j39 z0_39 = some t → va_P E.1 vwCl (Model_c E a wy_6) H → va_D A (Model_c E a wy_6) → va_S A s.heap H locs → lv_has ls 4 [(0, .ref (Modela_self a)), (1, .int x0), (2, .int x1), (3, .int y3_6)] → W p l e_ rmX8_workBy s m args below meth c H locs 0 0 Q (F0 m 39 ls [.int z0_39, .int (14 + y3_6), .ref (Modela_s a)]) := by
          intro z0_39 H locs ls hF hP hD hS hl
          rw [hjd39] at hF
          obtain ⟨h7, hF⟩ := m_chk hF
          refine va_iast (f := (Model_s wy_6)) hx hb hK hP hD hS 1 1 rfl rfl (mIn_ok h7) dX8_workBy_39 (fun H locs hP hD hS => ?_)
          have hP : va_P E.1 vwCl (Model_c E a (Model_s_s wy_6 (upd (Model_s wy_6) ((14 + y3_6)).toNatClampNeg z0_39))) H := hP
          have hD : va_D A (Model_c E a (Model_s_s wy_6 (upd (Model_s wy_6) ((14 + y3_6)).toNatClampNeg z0_39))) := hD
          refine lv_iinc (v := (y3_6 + 1)) (lv' := [(3, .int (y3_6 + 1)), (0, .ref (Modela_self a)), (1, .int x0), (2, .int x1)]) hx hb dX8_workBy_40 hl (k := 3) rfl rfl (by decide) rfl (fun ls hl => ?_)
          refine lv_goto (tgt := 6) hx hb dX8_workBy_43 (by decide) ?_
          exact ih6 (y3_6 + 1) (Model_s_s wy_6 (upd (Model_s wy_6) ((14 + y3_6)).toNatClampNeg z0_39)) H locs ls hF hP hD hS (lv_sub hl [1, 2, 3, 0] rfl)
        clear hjd39
        refine lv_icmp_ne (tgt := 38) hx hb dX8_workBy_31 (by decide) (fun c8 => ?_) (fun c8 => ?_)
        · have hF := m_pos c8 hF
          refine lv_iconst (v := 1) hx hb dX8_workBy_38 (by decide) ?_
          exact hj39 1 H locs ls hF hP hD hS (lv_sub hl [0, 1, 2, 3] rfl)
        · have hF := m_neg (fun n9 => n9 c8) hF
          refine lv_iconst (v := 0) hx hb dX8_workBy_34 (by decide) ?_
          refine lv_goto (tgt := 39) hx hb dX8_workBy_35 (by decide) ?_
          exact hj39 0 H locs ls hF hP hD hS (lv_sub hl [0, 1, 2, 3] rfl)
  exact hL6 m_N 0 t1 H locs ls hF hP hD hS (lv_sub hl [1, 2, 3, 0] rfl)

abbrev rmX8_setIn : Room := { frames := 0, cells := 0, slots := 0, locals := 0 }
set_option maxRecDepth 100000 in
set_option maxHeartbeats 400000 in
theorem c_X8_setIn (l : Launch) (E : mE) (a : ModelA) (v : ModelV) (t : Int32) (hF : fn_X8_setIn v = some t) : Met l yX8_setIn wsX8_setIn rmX8_setIn (mPp E [.ref (Modela_self a)] (Model_c E a v)) (mSp (some (.int t))) 0 0 (fun _ => False) := by
  refine mOfP (cc := cX8_setIn) (maxL := 3) (ret := (some .int)) (by decide) rfl (Nat.le_of_ble_eq_true rfl) ?_
  intro p e_ s m args below meth c Q hQ CC hr hlocks hP hKN hGl ls hl
  have hS : va_S (fun _ => False) s.heap s.heap [] := va_S.rf
  have hK := hKN.1
  have hx := CC.1
  have hb := CC.2.1
  have hml := CC.2.2.1
  have hown : s.vm.findClass RX8 = some m.cls := CC.2.2.2.1
  have hts := CC.2.2.2.2
  have hl : lv_has ls 3 [(0, .ref (Modela_self a))] := hl
  have k0 := hts (.fieldLink RX8 9 "OneDidAllModel" "s" "[I") (by decide +kernel)
  have k1 := (show ∀ w ∈ u_ws RX8 TX8 20, w ∈ wsX8_setIn by decide +kernel)
  unfold fn_X8_setIn at hF
  refine lv_iconst (v := 0) hx hb dX8_setIn_0 (by decide) ?_
  refine lv_istore_n (lv' := [(1, .int 0), (0, .ref (Modela_self a))]) hx hb dX8_setIn_1 rfl hl (by decide) rfl (fun ls hl => ?_)
  refine lv_iconst (v := 0) hx hb dX8_setIn_2 (by decide) ?_
  refine lv_istore_n (lv' := [(2, .int 0), (1, .int 0), (0, .ref (Modela_self a))]) hx hb dX8_setIn_3 rfl hl (by decide) rfl (fun ls hl => ?_)
  have hL4 : ∀ (n : Nat) (y1_4 : Int32) (y2_4 : Int32) (ls : Array Slot), lp_X8_setIn_4 v n y1_4 y2_4 = some t → lv_has ls 3 [(0, .ref (Modela_self a)), (1, .int y1_4), (2, .int y2_4)] → W p l e_ rmX8_setIn s m args below meth c s.heap [] 0 0 Q (F0 m 4 ls []) := by
    intro n
    induction n with
    | zero =>
      intro y1_4 y2_4 ls hF
      exact nomatch (show (none : Option Int32) = some t from hF)
    | succ n ih4 =>
      intro y1_4 y2_4 ls hF hl
      have hF : st_X8_setIn_4 v (lp_X8_setIn_4 v n) y1_4 y2_4 = some t := hF
      unfold st_X8_setIn_4 at hF
      refine lv_iload_n hx hb dX8_setIn_4 rfl (lv_at hl 2 rfl) ?_
      refine lv_aload_n hx hb dX8_setIn_5 rfl (lv_at hl 0 rfl) ?_
      refine va_get (D := E.1) (ci := 8) (v := .ref (Modela_s a)) (C := RX8) (T := TX8) (N := 20) hx hb hts k1 hown hK hP 0 rfl rfl 1 (by decide) k0 (fun _ h9 => h9) rfl dX8_setIn_6 ?_
      refine lv_bipush (v := 20) hx hb dX8_setIn_9 (by decide) ?_
      obtain ⟨h1, hF⟩ := m_chk hF
      refine va_iald (f := (Model_s v)) hx hb hK hP 1 1 rfl rfl (mIn_ok h1) dX8_setIn_11 ?_
      refine W.eq (g2 := F0 m 12 ls [.int ((Model_s v) (20 : Int32).toNatClampNeg), .int y2_4]) rfl ?_
      refine lv_icmp_ge (tgt := 43) hx hb dX8_setIn_12 (by decide) (fun c2 => ?_) (fun c2 => ?_)
      · have hF := m_pos c2 hF
        refine lv_iload_n hx hb dX8_setIn_43 rfl (lv_at hl 1 rfl) ?_
        have hF := Option.some.inj hF
        subst hF
        rw [hQ]
        exact W.iret hx hb hr (fun t ht _ => ⟨rfl, ht⟩) (fun _ h => by cases h) dX8_setIn_44
      · have hF := m_neg c2 hF
        refine lv_iload_n hx hb dX8_setIn_15 rfl (lv_at hl 1 rfl) ?_
        refine lv_aload_n hx hb dX8_setIn_16 rfl (lv_at hl 0 rfl) ?_
        refine va_get (D := E.1) (ci := 8) (v := .ref (Modela_s a)) (C := RX8) (T := TX8) (N := 20) hx hb hts k1 hown hK hP 0 rfl rfl 1 (by decide) k0 (fun _ h9 => h9) rfl dX8_setIn_17 ?_
        refine lv_bipush (v := 14) hx hb dX8_setIn_20 (by decide) ?_
        refine lv_iload_n hx hb dX8_setIn_22 rfl (lv_at hl 2 rfl) ?_
        refine lv_iadd hx hb dX8_setIn_23 ?_
        obtain ⟨h3, hF⟩ := m_chk hF
        refine va_iald (f := (Model_s v)) hx hb hK hP 1 1 rfl rfl (mIn_ok h3) dX8_setIn_24 ?_
        refine W.eq (g2 := F0 m 25 ls [.int ((Model_s v) ((14 + y2_4)).toNatClampNeg), .int y1_4]) rfl ?_
        obtain ⟨j35, hjd35, hF⟩ := m_jp hF
        have hj35 : ∀ (z0_35 : Int32) (ls : Array Slot), j35 z0_35 = some t → lv_has ls 3 [(0, .ref (Modela_self a)), (2, .int y2_4)] → W p l e_ rmX8_setIn s m args below meth c s.heap [] 0 0 Q (F0 m 35 ls [.int z0_35, .int y1_4]) := by
          intro z0_35 ls hF hl
          rw [hjd35] at hF
          refine lv_ior hx hb dX8_setIn_35 ?_
          refine lv_istore_n (lv' := [(1, .int (y1_4 ||| z0_35)), (0, .ref (Modela_self a)), (2, .int y2_4)]) hx hb dX8_setIn_36 rfl hl (by decide) rfl (fun ls hl => ?_)
          refine lv_iinc (v := (y2_4 + 1)) (lv' := [(2, .int (y2_4 + 1)), (1, .int (y1_4 ||| z0_35)), (0, .ref (Modela_self a))]) hx hb dX8_setIn_37 hl (k := 2) rfl rfl (by decide) rfl (fun ls hl => ?_)
          refine lv_goto (tgt := 4) hx hb dX8_setIn_40 (by decide) ?_
          exact ih4 (y1_4 ||| z0_35) (y2_4 + 1) ls hF (lv_sub hl [2, 1, 0] rfl)
        clear hjd35
        refine lv_if_ne (tgt := 34) hx hb dX8_setIn_25 (by decide) (fun c4 => ?_) (fun c4 => ?_)
        · have hF := m_pos c4 hF
          refine lv_iconst (v := 0) hx hb dX8_setIn_34 (by decide) ?_
          exact hj35 0 ls hF (lv_sub hl [0, 2] rfl)
        · have hF := m_neg (fun n9 => n9 c4) hF
          refine lv_iconst (v := 1) hx hb dX8_setIn_28 (by decide) ?_
          refine lv_iload_n hx hb dX8_setIn_29 rfl (lv_at hl 2 rfl) ?_
          refine lv_ishl hx hb dX8_setIn_30 ?_
          refine lv_goto (tgt := 35) hx hb dX8_setIn_31 (by decide) ?_
          exact hj35 ((1 : Int32) <<< (y2_4 &&& 31)) ls hF (lv_sub hl [0, 2] rfl)
  exact hL4 m_N 0 0 ls hF (lv_sub hl [2, 1, 0] rfl)

abbrev rmX8_throwOut : Room := { frames := 7, cells := 0, slots := 0, locals := 165 }
set_option maxRecDepth 100000 in
set_option maxHeartbeats 400000 in
theorem c_X8_throwOut (l : Launch) (E : mE) (a : ModelA) (v : ModelV) (t : (Int32 × ModelV)) (hF : fn_X8_throwOut v = some t) (sz : Nat) : Met l yX8_throwOut wsX8_throwOut rmX8_throwOut (mPm E [.ref (Modela_self a)] sz ((Model_c E a v)) (([] : va_W))) (mSm E (some (.int t.1)) ((Model_c E a t.2)) (va_A ((Model_c E a v)) sz)) 0 0 (va_A ((Model_c E a v)) sz) := by
  refine mOfM (cc := cX8_throwOut) (maxL := 5) (ret := (some .int)) (by decide) rfl (Nat.le_of_ble_eq_true rfl) ?_
  intro p e_ s m args below meth c Q A hQ CC hr hlocks hin hA hP hD hKN hGl hR0 hRA ls hl
  have hS : va_S A s.heap s.heap [] := va_S.rf
  have hK := hKN.1
  have hx := CC.1
  have hb := CC.2.1
  have hml := CC.2.2.1
  have hown : s.vm.findClass RX8 = some m.cls := CC.2.2.2.1
  have hts := CC.2.2.2.2
  have hl : lv_has ls 5 [(0, .ref (Modela_self a))] := hl
  have k0 := hts (.fieldLink RX8 9 "OneDidAllModel" "s" "[I") (by decide +kernel)
  have k1 := (show ∀ w ∈ u_ws RX8 TX8 20, w ∈ wsX8_throwOut by decide +kernel)
  have hP : va_P E.1 vwCl (Model_c E a v) s.heap := hP
  obtain ⟨H, hH⟩ : ∃ H, H = s.heap := ⟨_, rfl⟩
  obtain ⟨locs, hlc⟩ : ∃ z : List Loc, z = [] := ⟨_, rfl⟩
  rw [← hH] at hP
  rw [← hlc] at hS
  have hS : va_S A s.heap H locs := by rw [hH]; exact hS
  rw [← hH, ← hlc]
  unfold fn_X8_throwOut at hF
  refine lv_aload_n hx hb dX8_throwOut_0 rfl (lv_at hl 0 rfl) ?_
  refine lv_aload_n hx hb dX8_throwOut_1 rfl (lv_at hl 0 rfl) ?_
  obtain ⟨t1, ht1, hF⟩ := m_bnd hF
  refine mVP (ci := 8) (n := 0) (rest := [.ref (Modela_self a)]) (As := []) CC hKN hGl hS (c_X8_setIn l E a v t1 ht1) gX8_throwOut_X8_setIn rfl ⟨rfl, rfl⟩ (by decide +kernel) ⟨Nat.le_of_ble_eq_true rfl, Nat.le_of_ble_eq_true rfl⟩ hP rfl rfl rfl rfl hl.1 rfl (Nat.le_of_ble_eq_true rfl) ⟨Nat.zero_le _, Nat.zero_le _⟩ dX8_throwOut_2 ?_
  refine W.eq (g2 := F0 m 5 ls [.int t1, .ref (Modela_self a)]) rfl ?_
  refine lv_bipush (v := 20) hx hb dX8_throwOut_5 (by decide) ?_
  obtain ⟨t2, ht2, hF⟩ := m_bnd hF
  have hPc := hP
  have hDc := hD
  have hFc := va_free (wc := (Model_c E a v)) hD hS hA [0, 1, 2, 3, 4, 5, 6, 7] rfl
  refine mVM (ci := 8) (n := 2) (rest := []) (As := [.int t1, .int 20]) CC hKN hGl (c_X8_workBy l E a v t1 20 t2 ht2 _) gX8_throwOut_X8_workBy rfl ⟨rfl, rfl⟩ (by decide +kernel) ⟨Nat.le_of_ble_eq_true rfl, Nat.le_of_ble_eq_true rfl⟩ hPc hDc m_nil m_nilA hS hFc rfl rfl rfl rfl hl.1 rfl (Nat.le_of_ble_eq_true rfl) ⟨Nat.zero_le _, Nat.zero_le _⟩ dX8_throwOut_7 (fun H1 locs hP1 hD1 hz1 hk1 hS => ?_)
  have hP : va_P E.1 vwCl (Model_c E a t2.2) H1 := hP1
  have hD : va_D A (Model_c E a t2.2) := m_back hD1 hFc
  generalize H1 = H at hP hS ⊢
  refine W.eq (g2 := F0 m 10 ls [.int t2.1]) rfl ?_
  refine lv_istore_n (lv' := [(1, .int t2.1), (0, .ref (Modela_self a))]) hx hb dX8_throwOut_10 rfl hl (by decide) rfl (fun ls hl => ?_)
  refine lv_bipush (v := (-5)) hx hb dX8_throwOut_11 (by decide) ?_
  refine lv_istore_n (lv' := [(2, .int (-5)), (1, .int t2.1), (0, .ref (Modela_self a))]) hx hb dX8_throwOut_13 rfl hl (by decide) rfl (fun ls hl => ?_)
  refine lv_iconst (v := 0) hx hb dX8_throwOut_14 (by decide) ?_
  refine lv_istore_n (lv' := [(3, .int 0), (2, .int (-5)), (1, .int t2.1), (0, .ref (Modela_self a))]) hx hb dX8_throwOut_15 rfl hl (by decide) rfl (fun ls hl => ?_)
  have hL16 : ∀ (n : Nat) (y1_16 : Int32) (y2_16 : Int32) (y3_16 : Int32) (wy_16 : ModelV) (H : Heap) (locs : List Loc) (ls : Array Slot), lp_X8_throwOut_16  n y1_16 y2_16 y3_16 wy_16 = some t → va_P E.1 vwCl (Model_c E a wy_16) H → va_D A (Model_c E a wy_16) → va_S A s.heap H locs → lv_has ls 5 [(0, .ref (Modela_self a)), (1, .int y1_16), (2, .int y2_16), (3, .int y3_16)] → W p l e_ rmX8_throwOut s m args below meth c H locs 0 0 Q (F0 m 16 ls []) := by
    intro n
    induction n with
    | zero =>
      intro y1_16 y2_16 y3_16 wy_16 H locs ls hF
      exact nomatch (show (none : Option (Int32 × ModelV)) = some t from hF)
    | succ n ih16 =>
      intro y1_16 y2_16 y3_16 wy_16 H locs ls hF hP hD hS hl
      have hF : st_X8_throwOut_16  (lp_X8_throwOut_16  n) y1_16 y2_16 y3_16 wy_16 = some t := hF
      unfold st_X8_throwOut_16 at hF
      refine lv_iload_n hx hb dX8_throwOut_16 rfl (lv_at hl 3 rfl) ?_
      refine lv_aload_n hx hb dX8_throwOut_17 rfl (lv_at hl 0 rfl) ?_
      refine va_get (D := E.1) (ci := 8) (v := .ref (Modela_s a)) (C := RX8) (T := TX8) (N := 20) hx hb hts k1 hown hK hP 0 rfl rfl 1 (by decide) k0 (fun _ h9 => h9) rfl dX8_throwOut_18 ?_
      refine lv_bipush (v := 20) hx hb dX8_throwOut_21 (by decide) ?_
      obtain ⟨h3, hF⟩ := m_chk hF
      refine va_iald (f := (Model_s wy_16)) hx hb hK hP 1 1 rfl rfl (mIn_ok h3) dX8_throwOut_23 ?_
      refine W.eq (g2 := F0 m 24 ls [.int ((Model_s wy_16) (20 : Int32).toNatClampNeg), .int y3_16]) rfl ?_
      refine lv_icmp_ge (tgt := 92) hx hb dX8_throwOut_24 (by decide) (fun c4 => ?_) (fun c4 => ?_)
      · have hF := m_pos c4 hF
        refine lv_iload_n hx hb dX8_throwOut_92 rfl (lv_at hl 2 rfl) ?_
        have hF := Option.some.inj hF
        subst hF
        rw [hQ]
        exact W.iret hx hb hr (fun t ht _ => ⟨⟨rfl, by rw [ht]; exact hP, hD⟩, hS.F ht⟩) hS.2.2 dX8_throwOut_93
      · have hF := m_neg c4 hF
        refine lv_aload_n hx hb dX8_throwOut_27 rfl (lv_at hl 0 rfl) ?_
        refine va_get (D := E.1) (ci := 8) (v := .ref (Modela_s a)) (C := RX8) (T := TX8) (N := 20) hx hb hts k1 hown hK hP 0 rfl rfl 1 (by decide) k0 (fun _ h9 => h9) rfl dX8_throwOut_28 ?_
        refine lv_bipush (v := 14) hx hb dX8_throwOut_31 (by decide) ?_
        refine lv_iload_n hx hb dX8_throwOut_33 rfl (lv_at hl 3 rfl) ?_
        refine lv_iadd hx hb dX8_throwOut_34 ?_
        obtain ⟨h5, hF⟩ := m_chk hF
        refine va_iald (f := (Model_s wy_16)) hx hb hK hP 1 1 rfl rfl (mIn_ok h5) dX8_throwOut_35 ?_
        refine W.eq (g2 := F0 m 36 ls [.int ((Model_s wy_16) ((14 + y3_16)).toNatClampNeg)]) rfl ?_
        obtain ⟨j59, hjd59, hF⟩ := m_jp hF
        have hj59 : ∀ (z0_59 : Int32) (wx_59 : ModelV) (H : Heap) (locs : List Loc) (ls : Array Slot), j59 z0_59 wx_59 = some t → va_P E.1 vwCl (Model_c E a wx_59) H → va_D A (Model_c E a wx_59) → va_S A s.heap H locs → lv_has ls 5 [(0, .ref (Modela_self a)), (1, .int y1_16), (2, .int y2_16), (3, .int y3_16)] → W p l e_ rmX8_throwOut s m args below meth c H locs 0 0 Q (F0 m 59 ls [.int z0_59]) := by
          intro z0_59 wx_59 H locs ls hF hP hD hS hl
          rw [hjd59] at hF
          refine lv_istore (lv' := [(4, .int z0_59), (0, .ref (Modela_self a)), (1, .int y1_16), (2, .int y2_16), (3, .int y3_16)]) hx hb dX8_throwOut_59 hl (by decide) rfl (fun ls hl => ?_)
          refine lv_iload hx hb dX8_throwOut_61 (lv_at hl 0 rfl) ?_
          refine lv_iload_n hx hb dX8_throwOut_63 rfl (lv_at hl 2 rfl) ?_
          obtain ⟨j72, hjd72, hF⟩ := m_jp hF
          have hj72 : ∀ (z0_72 : Int32) (H : Heap) (locs : List Loc) (ls : Array Slot), j72 z0_72 = some t → va_P E.1 vwCl (Model_c E a wx_59) H → va_D A (Model_c E a wx_59) → va_S A s.heap H locs → lv_has ls 5 [(0, .ref (Modela_self a)), (1, .int y1_16), (3, .int y3_16), (4, .int z0_59)] → W p l e_ rmX8_throwOut s m args below meth c H locs 0 0 Q (F0 m 72 ls [.int z0_72]) := by
            intro z0_72 H locs ls hF hP hD hS hl
            rw [hjd72] at hF
            refine lv_istore_n (lv' := [(2, .int z0_72), (0, .ref (Modela_self a)), (1, .int y1_16), (3, .int y3_16), (4, .int z0_59)]) hx hb dX8_throwOut_72 rfl hl (by decide) rfl (fun ls hl => ?_)
            refine lv_iload hx hb dX8_throwOut_73 (lv_at hl 4 rfl) ?_
            refine lv_iload_n hx hb dX8_throwOut_75 rfl (lv_at hl 2 rfl) ?_
            obtain ⟨j85, hjd85, hF⟩ := m_jp hF
            have hj85 : ∀ (z0_85 : Int32) (H : Heap) (locs : List Loc) (ls : Array Slot), j85 z0_85 = some t → va_P E.1 vwCl (Model_c E a wx_59) H → va_D A (Model_c E a wx_59) → va_S A s.heap H locs → lv_has ls 5 [(0, .ref (Modela_self a)), (2, .int z0_72), (3, .int y3_16)] → W p l e_ rmX8_throwOut s m args below meth c H locs 0 0 Q (F0 m 85 ls [.int z0_85]) := by
              intro z0_85 H locs ls hF hP hD hS hl
              rw [hjd85] at hF
              refine lv_istore_n (lv' := [(1, .int z0_85), (0, .ref (Modela_self a)), (2, .int z0_72), (3, .int y3_16)]) hx hb dX8_throwOut_85 rfl hl (by decide) rfl (fun ls hl => ?_)
              refine lv_iinc (v := (y3_16 + 1)) (lv' := [(3, .int (y3_16 + 1)), (1, .int z0_85), (0, .ref (Modela_self a)), (2, .int z0_72)]) hx hb dX8_throwOut_86 hl (k := 3) rfl rfl (by decide) rfl (fun ls hl => ?_)
              refine lv_goto (tgt := 16) hx hb dX8_throwOut_89 (by decide) ?_
              exact ih16 z0_85 z0_72 (y3_16 + 1) wx_59 H locs ls hF hP hD hS (lv_sub hl [2, 1, 3, 0] rfl)
            clear hjd85
            refine lv_icmp_le (tgt := 84) hx hb dX8_throwOut_76 (by decide) (fun c6 => ?_) (fun c6 => ?_)
            · have hF := m_pos c6 hF
              refine lv_iload_n hx hb dX8_throwOut_84 rfl (lv_at hl 2 rfl) ?_
              exact hj85 y1_16 H locs ls hF hP hD hS (lv_sub hl [1, 0, 3] rfl)
            · have hF := m_neg c6 hF
              refine lv_iload hx hb dX8_throwOut_79 (lv_at hl 4 rfl) ?_
              refine lv_goto (tgt := 85) hx hb dX8_throwOut_81 (by decide) ?_
              exact hj85 z0_59 H locs ls hF hP hD hS (lv_sub hl [1, 0, 3] rfl)
          clear hjd72
          refine lv_icmp_le (tgt := 71) hx hb dX8_throwOut_64 (by decide) (fun c7 => ?_) (fun c7 => ?_)
          · have hF := m_pos c7 hF
            refine lv_iload_n hx hb dX8_throwOut_71 rfl (lv_at hl 3 rfl) ?_
            exact hj72 y2_16 H locs ls hF hP hD hS (lv_sub hl [1, 2, 4, 0] rfl)
          · have hF := m_neg c7 hF
            refine lv_iload_n hx hb dX8_throwOut_67 rfl (lv_at hl 4 rfl) ?_
            refine lv_goto (tgt := 72) hx hb dX8_throwOut_68 (by decide) ?_
            exact hj72 y3_16 H locs ls hF hP hD hS (lv_sub hl [1, 2, 4, 0] rfl)
        clear hjd59
        refine lv_if_ne (tgt := 58) hx hb dX8_throwOut_36 (by decide) (fun c8 => ?_) (fun c8 => ?_)
        · have hF := m_pos c8 hF
          refine lv_iconst (v := (-1)) hx hb dX8_throwOut_58 (by decide) ?_
          exact hj59 (-1) wy_16 H locs ls hF hP hD hS (lv_sub hl [0, 1, 2, 3] rfl)
        · have hF := m_neg (fun n9 => n9 c8) hF
          refine lv_aload_n hx hb dX8_throwOut_39 rfl (lv_at hl 0 rfl) ?_
          refine lv_aload_n hx hb dX8_throwOut_40 rfl (lv_at hl 0 rfl) ?_
          obtain ⟨t9, ht9, hF⟩ := m_bnd hF
          refine mVP (ci := 8) (n := 0) (rest := [.ref (Modela_self a)]) (As := []) CC hKN hGl hS (c_X8_setIn l E a wy_16 t9 ht9) gX8_throwOut_X8_setIn rfl ⟨rfl, rfl⟩ (by decide +kernel) ⟨Nat.le_of_ble_eq_true rfl, Nat.le_of_ble_eq_true rfl⟩ hP rfl rfl rfl rfl hl.1 rfl (Nat.le_of_ble_eq_true rfl) ⟨Nat.zero_le _, Nat.zero_le _⟩ dX8_throwOut_41 ?_
          refine W.eq (g2 := F0 m 44 ls [.int t9, .ref (Modela_self a)]) rfl ?_
          refine lv_iconst (v := 1) hx hb dX8_throwOut_44 (by decide) ?_
          refine lv_iload_n hx hb dX8_throwOut_45 rfl (lv_at hl 3 rfl) ?_
          refine lv_ishl hx hb dX8_throwOut_46 ?_
          refine lv_iconst (v := (-1)) hx hb dX8_throwOut_47 (by decide) ?_
          refine lv_ixor hx hb dX8_throwOut_48 ?_
          refine lv_iand hx hb dX8_throwOut_49 ?_
          refine lv_bipush (v := 20) hx hb dX8_throwOut_50 (by decide) ?_
          obtain ⟨t10, ht10, hF⟩ := m_bnd hF
          have hPc := hP
          have hDc := hD
          have hFc := va_free (wc := (Model_c E a wy_16)) hD hS hA [0, 1, 2, 3, 4, 5, 6, 7] rfl
          refine mVM (ci := 8) (n := 2) (rest := []) (As := [.int (t9 &&& (((1 : Int32) <<< (y3_16 &&& 31)) ^^^ (-1))), .int 20]) CC hKN hGl (c_X8_workBy l E a wy_16 (t9 &&& (((1 : Int32) <<< (y3_16 &&& 31)) ^^^ (-1))) 20 t10 ht10 _) gX8_throwOut_X8_workBy rfl ⟨rfl, rfl⟩ (by decide +kernel) ⟨Nat.le_of_ble_eq_true rfl, Nat.le_of_ble_eq_true rfl⟩ hPc hDc m_nil m_nilA hS hFc rfl rfl rfl rfl hl.1 rfl (Nat.le_of_ble_eq_true rfl) ⟨Nat.zero_le _, Nat.zero_le _⟩ dX8_throwOut_52 (fun H1 locs hP1 hD1 hz1 hk1 hS => ?_)
          have hP : va_P E.1 vwCl (Model_c E a t10.2) H1 := hP1
          have hD : va_D A (Model_c E a t10.2) := m_back hD1 hFc
          generalize H1 = H at hP hS ⊢
          refine W.eq (g2 := F0 m 55 ls [.int t10.1]) rfl ?_
          refine lv_goto (tgt := 59) hx hb dX8_throwOut_55 (by decide) ?_
          exact hj59 t10.1 t10.2 H locs ls hF hP hD hS (lv_sub hl [0, 1, 2, 3] rfl)
  exact hL16 m_N t2.1 (-5) 0 t2.2 H locs ls hF hP hD hS (lv_sub hl [3, 2, 1, 0] rfl)

abbrev rmX8_alone : Room := { frames := 7, cells := 0, slots := 0, locals := 165 }
set_option maxRecDepth 100000 in
set_option maxHeartbeats 400000 in
theorem c_X8_alone (l : Launch) (E : mE) (a : ModelA) (v : ModelV) (x0 : Int32) (t : (Int32 × ModelV)) (hF : fn_X8_alone v x0 = some t) (sz : Nat) : Met l yX8_alone wsX8_alone rmX8_alone (mPm E [.ref (Modela_self a), .int x0] sz ((Model_c E a v)) (([] : va_W))) (mSm E (some (.int t.1)) ((Model_c E a t.2)) (va_A ((Model_c E a v)) sz)) 0 0 (va_A ((Model_c E a v)) sz) := by
  refine mOfM (cc := cX8_alone) (maxL := 2) (ret := (some .int)) (by decide) rfl (Nat.le_of_ble_eq_true rfl) ?_
  intro p e_ s m args below meth c Q A hQ CC hr hlocks hin hA hP hD hKN hGl hR0 hRA ls hl
  have hS : va_S A s.heap s.heap [] := va_S.rf
  have hK := hKN.1
  have hx := CC.1
  have hb := CC.2.1
  have hml := CC.2.2.1
  have hown : s.vm.findClass RX8 = some m.cls := CC.2.2.2.1
  have hts := CC.2.2.2.2
  have hl : lv_has ls 2 [(0, .ref (Modela_self a)), (1, .int x0)] := hl
  have hP : va_P E.1 vwCl (Model_c E a v) s.heap := hP
  obtain ⟨H, hH⟩ : ∃ H, H = s.heap := ⟨_, rfl⟩
  obtain ⟨locs, hlc⟩ : ∃ z : List Loc, z = [] := ⟨_, rfl⟩
  rw [← hH] at hP
  rw [← hlc] at hS
  have hS : va_S A s.heap H locs := by rw [hH]; exact hS
  rw [← hH, ← hlc]
  unfold fn_X8_alone at hF
  refine lv_aload_n hx hb dX8_alone_0 rfl (lv_at hl 0 rfl) ?_
  refine lv_iload_n hx hb dX8_alone_1 rfl (lv_at hl 1 rfl) ?_
  obtain ⟨t1, ht1, hF⟩ := m_bnd hF
  refine mVP (ci := 8) (n := 1) (rest := []) (As := [.int x0]) CC hKN hGl hS (c_X8_isPupil l E a v x0 t1 ht1) gX8_alone_X8_isPupil rfl ⟨rfl, rfl⟩ (by decide +kernel) ⟨Nat.le_of_ble_eq_true rfl, Nat.le_of_ble_eq_true rfl⟩ hP rfl rfl rfl rfl hl.1 rfl (Nat.le_of_ble_eq_true rfl) ⟨Nat.zero_le _, Nat.zero_le _⟩ dX8_alone_2 ?_
  refine W.eq (g2 := F0 m 5 ls [.int t1]) rfl ?_
  refine lv_if_eq (tgt := 20) hx hb dX8_alone_5 (by decide) (fun c2 => ?_) (fun c2 => ?_)
  · have hF := m_pos c2 hF
    refine lv_iconst (v := (-1)) hx hb dX8_alone_20 (by decide) ?_
    have hF := Option.some.inj hF
    subst hF
    rw [hQ]
    exact W.iret hx hb hr (fun t ht _ => ⟨⟨rfl, by rw [ht]; exact hP, hD⟩, hS.F ht⟩) hS.2.2 dX8_alone_21
  · have hF := m_neg c2 hF
    refine lv_aload_n hx hb dX8_alone_8 rfl (lv_at hl 0 rfl) ?_
    refine lv_iconst (v := 1) hx hb dX8_alone_9 (by decide) ?_
    refine lv_iload_n hx hb dX8_alone_10 rfl (lv_at hl 1 rfl) ?_
    refine lv_ishl hx hb dX8_alone_11 ?_
    refine lv_bipush (v := 20) hx hb dX8_alone_12 (by decide) ?_
    obtain ⟨t3, ht3, hF⟩ := m_bnd hF
    have hPc := hP
    have hDc := hD
    have hFc := va_free (wc := (Model_c E a v)) hD hS hA [0, 1, 2, 3, 4, 5, 6, 7] rfl
    refine mVM (ci := 8) (n := 2) (rest := []) (As := [.int ((1 : Int32) <<< (x0 &&& 31)), .int 20]) CC hKN hGl (c_X8_workBy l E a v ((1 : Int32) <<< (x0 &&& 31)) 20 t3 ht3 _) gX8_alone_X8_workBy rfl ⟨rfl, rfl⟩ (by decide +kernel) ⟨Nat.le_of_ble_eq_true rfl, Nat.le_of_ble_eq_true rfl⟩ hPc hDc m_nil m_nilA hS hFc rfl rfl rfl rfl hl.1 rfl (Nat.le_of_ble_eq_true rfl) ⟨Nat.zero_le _, Nat.zero_le _⟩ dX8_alone_14 (fun H1 locs hP1 hD1 hz1 hk1 hS => ?_)
    have hP : va_P E.1 vwCl (Model_c E a t3.2) H1 := hP1
    have hD : va_D A (Model_c E a t3.2) := m_back hD1 hFc
    generalize H1 = H at hP hS ⊢
    refine W.eq (g2 := F0 m 17 ls [.int t3.1]) rfl ?_
    refine lv_goto (tgt := 21) hx hb dX8_alone_17 (by decide) ?_
    have hF := Option.some.inj hF
    subst hF
    rw [hQ]
    exact W.iret hx hb hr (fun t ht _ => ⟨⟨rfl, by rw [ht]; exact hP, hD⟩, hS.F ht⟩) hS.2.2 dX8_alone_21

abbrev rmX8_countOf : Room := { frames := 0, cells := 0, slots := 0, locals := 0 }
set_option maxRecDepth 100000 in
set_option maxHeartbeats 400000 in
theorem c_X8_countOf (l : Launch) (E : mE) (x0 : Int32) (t : Int32) (hF : fn_X8_countOf x0 = some t) : Met l yX8_countOf wsX8_countOf rmX8_countOf (mPp E [.int x0] ([] : va_W)) (mSp (some (.int t))) 0 0 (fun _ => False) := by
  refine mOfP (cc := cX8_countOf) (maxL := 3) (ret := (some .int)) (by decide) rfl (Nat.le_of_ble_eq_true rfl) ?_
  intro p e_ s m args below meth c Q hQ CC hr hlocks hP hKN hGl ls hl
  have hS : va_S (fun _ => False) s.heap s.heap [] := va_S.rf
  have hK := hKN.1
  have hx := CC.1
  have hb := CC.2.1
  have hml := CC.2.2.1
  have hown : s.vm.findClass RX8 = some m.cls := CC.2.2.2.1
  have hts := CC.2.2.2.2
  have hl : lv_has ls 3 [(0, .int x0)] := hl
  unfold fn_X8_countOf at hF
  refine lv_iconst (v := 0) hx hb dX8_countOf_0 (by decide) ?_
  refine lv_istore_n (lv' := [(1, .int 0), (0, .int x0)]) hx hb dX8_countOf_1 rfl hl (by decide) rfl (fun ls hl => ?_)
  refine lv_iconst (v := 0) hx hb dX8_countOf_2 (by decide) ?_
  refine lv_istore_n (lv' := [(2, .int 0), (1, .int 0), (0, .int x0)]) hx hb dX8_countOf_3 rfl hl (by decide) rfl (fun ls hl => ?_)
  have hL4 : ∀ (n : Nat) (y1_4 : Int32) (y2_4 : Int32) (ls : Array Slot), lp_X8_countOf_4 x0 n y1_4 y2_4 = some t → lv_has ls 3 [(0, .int x0), (1, .int y1_4), (2, .int y2_4)] → W p l e_ rmX8_countOf s m args below meth c s.heap [] 0 0 Q (F0 m 4 ls []) := by
    intro n
    induction n with
    | zero =>
      intro y1_4 y2_4 ls hF
      exact nomatch (show (none : Option Int32) = some t from hF)
    | succ n ih4 =>
      intro y1_4 y2_4 ls hF hl
      have hF : st_X8_countOf_4 x0 (lp_X8_countOf_4 x0 n) y1_4 y2_4 = some t := hF
      unfold st_X8_countOf_4 at hF
      refine lv_iload_n hx hb dX8_countOf_4 rfl (lv_at hl 2 rfl) ?_
      refine lv_bipush (v := 6) hx hb dX8_countOf_5 (by decide) ?_
      refine lv_icmp_ge (tgt := 24) hx hb dX8_countOf_7 (by decide) (fun c1 => ?_) (fun c1 => ?_)
      · have hF := m_pos c1 hF
        refine lv_iload_n hx hb dX8_countOf_24 rfl (lv_at hl 1 rfl) ?_
        have hF := Option.some.inj hF
        subst hF
        rw [hQ]
        exact W.iret hx hb hr (fun t ht _ => ⟨rfl, ht⟩) (fun _ h => by cases h) dX8_countOf_25
      · have hF := m_neg c1 hF
        refine lv_iload_n hx hb dX8_countOf_10 rfl (lv_at hl 1 rfl) ?_
        refine lv_iload_n hx hb dX8_countOf_11 rfl (lv_at hl 0 rfl) ?_
        refine lv_iload_n hx hb dX8_countOf_12 rfl (lv_at hl 2 rfl) ?_
        refine lv_ishr hx hb dX8_countOf_13 ?_
        refine lv_iconst (v := 1) hx hb dX8_countOf_14 (by decide) ?_
        refine lv_iand hx hb dX8_countOf_15 ?_
        refine lv_iadd hx hb dX8_countOf_16 ?_
        refine lv_istore_n (lv' := [(1, .int (y1_4 + ((x0 >>> (y2_4 &&& 31)) &&& 1))), (0, .int x0), (2, .int y2_4)]) hx hb dX8_countOf_17 rfl hl (by decide) rfl (fun ls hl => ?_)
        refine lv_iinc (v := (y2_4 + 1)) (lv' := [(2, .int (y2_4 + 1)), (1, .int (y1_4 + ((x0 >>> (y2_4 &&& 31)) &&& 1))), (0, .int x0)]) hx hb dX8_countOf_18 hl (k := 2) rfl rfl (by decide) rfl (fun ls hl => ?_)
        refine lv_goto (tgt := 4) hx hb dX8_countOf_21 (by decide) ?_
        exact ih4 (y1_4 + ((x0 >>> (y2_4 &&& 31)) &&& 1)) (y2_4 + 1) ls hF (lv_sub hl [2, 1, 0] rfl)
  exact hL4 m_N 0 0 ls hF (lv_sub hl [2, 1, 0] rfl)

abbrev rmX8_everybody : Room := { frames := 0, cells := 0, slots := 0, locals := 0 }
set_option maxRecDepth 100000 in
set_option maxHeartbeats 400000 in
theorem c_X8_everybody (l : Launch) (E : mE) (a : ModelA) (v : ModelV) (t : Int32) (hF : fn_X8_everybody v = some t) : Met l yX8_everybody wsX8_everybody rmX8_everybody (mPp E [.ref (Modela_self a)] (Model_c E a v)) (mSp (some (.int t))) 0 0 (fun _ => False) := by
  refine mOfP (cc := cX8_everybody) (maxL := 1) (ret := (some .int)) (by decide) rfl (Nat.le_of_ble_eq_true rfl) ?_
  intro p e_ s m args below meth c Q hQ CC hr hlocks hP hKN hGl ls hl
  have hS : va_S (fun _ => False) s.heap s.heap [] := va_S.rf
  have hK := hKN.1
  have hx := CC.1
  have hb := CC.2.1
  have hml := CC.2.2.1
  have hown : s.vm.findClass RX8 = some m.cls := CC.2.2.2.1
  have hts := CC.2.2.2.2
  have hl : lv_has ls 1 [(0, .ref (Modela_self a))] := hl
  have k0 := hts (.fieldLink RX8 9 "OneDidAllModel" "s" "[I") (by decide +kernel)
  have k1 := (show ∀ w ∈ u_ws RX8 TX8 20, w ∈ wsX8_everybody by decide +kernel)
  unfold fn_X8_everybody at hF
  refine lv_iconst (v := 1) hx hb dX8_everybody_0 (by decide) ?_
  refine lv_aload_n hx hb dX8_everybody_1 rfl (lv_at hl 0 rfl) ?_
  refine va_get (D := E.1) (ci := 8) (v := .ref (Modela_s a)) (C := RX8) (T := TX8) (N := 20) hx hb hts k1 hown hK hP 0 rfl rfl 1 (by decide) k0 (fun _ h9 => h9) rfl dX8_everybody_2 ?_
  refine lv_bipush (v := 20) hx hb dX8_everybody_5 (by decide) ?_
  obtain ⟨h1, hF⟩ := m_chk hF
  refine va_iald (f := (Model_s v)) hx hb hK hP 1 1 rfl rfl (mIn_ok h1) dX8_everybody_7 ?_
  refine W.eq (g2 := F0 m 8 ls [.int ((Model_s v) (20 : Int32).toNatClampNeg), .int 1]) rfl ?_
  refine lv_ishl hx hb dX8_everybody_8 ?_
  refine lv_iconst (v := 1) hx hb dX8_everybody_9 (by decide) ?_
  refine lv_isub hx hb dX8_everybody_10 ?_
  have hF := Option.some.inj hF
  subst hF
  rw [hQ]
  exact W.iret hx hb hr (fun t ht _ => ⟨rfl, ht⟩) (fun _ h => by cases h) dX8_everybody_11

abbrev rmX8_team : Room := { frames := 7, cells := 0, slots := 0, locals := 165 }
set_option maxRecDepth 100000 in
set_option maxHeartbeats 400000 in
theorem c_X8_team (l : Launch) (E : mE) (a : ModelA) (v : ModelV) (x0 : Int32) (x1 : Int32) (t : (Int32 × ModelV)) (hF : fn_X8_team v x0 x1 = some t) (sz : Nat) : Met l yX8_team wsX8_team rmX8_team (mPm E [.ref (Modela_self a), .int x0, .int x1] sz ((Model_c E a v)) (([] : va_W))) (mSm E (some (.int t.1)) ((Model_c E a t.2)) (va_A ((Model_c E a v)) sz)) 0 0 (va_A ((Model_c E a v)) sz) := by
  refine mOfM (cc := cX8_team) (maxL := 7) (ret := (some .int)) (by decide) rfl (Nat.le_of_ble_eq_true rfl) ?_
  intro p e_ s m args below meth c Q A hQ CC hr hlocks hin hA hP hD hKN hGl hR0 hRA ls hl
  have hS : va_S A s.heap s.heap [] := va_S.rf
  have hK := hKN.1
  have hx := CC.1
  have hb := CC.2.1
  have hml := CC.2.2.1
  have hown : s.vm.findClass RX8 = some m.cls := CC.2.2.2.1
  have hts := CC.2.2.2.2
  have hl : lv_has ls 7 [(0, .ref (Modela_self a)), (1, .int x0), (2, .int x1)] := hl
  have hP : va_P E.1 vwCl (Model_c E a v) s.heap := hP
  obtain ⟨H, hH⟩ : ∃ H, H = s.heap := ⟨_, rfl⟩
  obtain ⟨locs, hlc⟩ : ∃ z : List Loc, z = [] := ⟨_, rfl⟩
  rw [← hH] at hP
  rw [← hlc] at hS
  have hS : va_S A s.heap H locs := by rw [hH]; exact hS
  rw [← hH, ← hlc]
  unfold fn_X8_team at hF
  refine lv_iload_n hx hb dX8_team_0 rfl (lv_at hl 2 rfl) ?_
  refine lv_iconst (v := 0) hx hb dX8_team_1 (by decide) ?_
  refine lv_iconst (v := 1) hx hb dX8_team_2 (by decide) ?_
  obtain ⟨t1, ht1, hF⟩ := m_bnd hF
  refine mSP (n := 3) (rest := []) (As := [.int x1, .int 0, .int 1]) CC hKN hGl hS (c_X8_in l E x1 0 1 t1 ht1) gX8_team_X8_in rfl ⟨rfl, rfl⟩ (by decide +kernel) ⟨Nat.le_of_ble_eq_true rfl, Nat.le_of_ble_eq_true rfl⟩ m_nil rfl hl.1 rfl (Nat.le_of_ble_eq_true rfl) ⟨Nat.zero_le _, Nat.zero_le _⟩ dX8_team_3 ?_
  refine W.eq (g2 := F0 m 6 ls [.int t1]) rfl ?_
  refine lv_if_ne (tgt := 11) hx hb dX8_team_6 (by decide) (fun c2 => ?_) (fun c2 => ?_)
  · have hF := m_pos c2 hF
    refine lv_iload_n hx hb dX8_team_11 rfl (lv_at hl 1 rfl) ?_
    refine lv_iconst (v := 1) hx hb dX8_team_12 (by decide) ?_
    refine lv_bipush (v := 6) hx hb dX8_team_13 (by decide) ?_
    obtain ⟨t3, ht3, hF⟩ := m_bnd hF
    refine mSP (n := 3) (rest := []) (As := [.int x0, .int 1, .int 6]) CC hKN hGl hS (c_X8_in l E x0 1 6 t3 ht3) gX8_team_X8_in rfl ⟨rfl, rfl⟩ (by decide +kernel) ⟨Nat.le_of_ble_eq_true rfl, Nat.le_of_ble_eq_true rfl⟩ m_nil rfl hl.1 rfl (Nat.le_of_ble_eq_true rfl) ⟨Nat.zero_le _, Nat.zero_le _⟩ dX8_team_15 ?_
    refine W.eq (g2 := F0 m 18 ls [.int t3]) rfl ?_
    refine lv_if_ne (tgt := 24) hx hb dX8_team_18 (by decide) (fun c4 => ?_) (fun c4 => ?_)
    · have hF := m_pos c4 hF
      refine lv_bipush (v := (-5)) hx hb dX8_team_24 (by decide) ?_
      refine lv_istore_n (lv' := [(3, .int (-5)), (0, .ref (Modela_self a)), (1, .int x0), (2, .int x1)]) hx hb dX8_team_26 rfl hl (by decide) rfl (fun ls hl => ?_)
      refine lv_bipush (v := (-5)) hx hb dX8_team_27 (by decide) ?_
      refine lv_istore (lv' := [(4, .int (-5)), (3, .int (-5)), (0, .ref (Modela_self a)), (1, .int x0), (2, .int x1)]) hx hb dX8_team_29 hl (by decide) rfl (fun ls hl => ?_)
      refine lv_iconst (v := 1) hx hb dX8_team_31 (by decide) ?_
      refine lv_istore (lv' := [(5, .int 1), (4, .int (-5)), (3, .int (-5)), (0, .ref (Modela_self a)), (1, .int x0), (2, .int x1)]) hx hb dX8_team_32 hl (by decide) rfl (fun ls hl => ?_)
      obtain ⟨j103, hjd103, hF⟩ := m_jp hF
      have hj103 : ∀ (x3_103 : Int32) (x4_103 : Int32) (wx_103 : ModelV) (H : Heap) (locs : List Loc) (ls : Array Slot), j103 x3_103 x4_103 wx_103 = some t → va_P E.1 vwCl (Model_c E a wx_103) H → va_D A (Model_c E a wx_103) → va_S A s.heap H locs → lv_has ls 7 [(2, .int x1), (3, .int x3_103), (4, .int x4_103)] → W p l e_ rmX8_team s m args below meth c H locs 0 0 Q (F0 m 103 ls []) := by
        intro x3_103 x4_103 wx_103 H locs ls hF hP hD hS hl
        rw [hjd103] at hF
        refine lv_iload_n hx hb dX8_team_103 rfl (lv_at hl 0 rfl) ?_
        refine lv_if_ne (tgt := 111) hx hb dX8_team_104 (by decide) (fun c5 => ?_) (fun c5 => ?_)
        · have hF := m_pos c5 hF
          refine lv_iload hx hb dX8_team_111 (lv_at hl 2 rfl) ?_
          have hF := Option.some.inj hF
          subst hF
          rw [hQ]
          exact W.iret hx hb hr (fun t ht _ => ⟨⟨rfl, by rw [ht]; exact hP, hD⟩, hS.F ht⟩) hS.2.2 dX8_team_113
        · have hF := m_neg (fun n9 => n9 c5) hF
          refine lv_iload_n hx hb dX8_team_107 rfl (lv_at hl 1 rfl) ?_
          refine lv_goto (tgt := 113) hx hb dX8_team_108 (by decide) ?_
          have hF := Option.some.inj hF
          subst hF
          rw [hQ]
          exact W.iret hx hb hr (fun t ht _ => ⟨⟨rfl, by rw [ht]; exact hP, hD⟩, hS.F ht⟩) hS.2.2 dX8_team_113
      clear hjd103
      have hL34 : ∀ (n : Nat) (y3_34 : Int32) (y4_34 : Int32) (y5_34 : Int32) (wy_34 : ModelV) (H : Heap) (locs : List Loc) (ls : Array Slot), lp_X8_team_34 x0 j103 n y3_34 y4_34 y5_34 wy_34 = some t → va_P E.1 vwCl (Model_c E a wy_34) H → va_D A (Model_c E a wy_34) → va_S A s.heap H locs → lv_has ls 7 [(0, .ref (Modela_self a)), (1, .int x0), (2, .int x1), (3, .int y3_34), (4, .int y4_34), (5, .int y5_34)] → W p l e_ rmX8_team s m args below meth c H locs 0 0 Q (F0 m 34 ls []) := by
        intro n
        induction n with
        | zero =>
          intro y3_34 y4_34 y5_34 wy_34 H locs ls hF
          exact nomatch (show (none : Option (Int32 × ModelV)) = some t from hF)
        | succ n ih34 =>
          intro y3_34 y4_34 y5_34 wy_34 H locs ls hF hP hD hS hl
          have hF : st_X8_team_34 x0 j103 (lp_X8_team_34 x0 j103 n) y3_34 y4_34 y5_34 wy_34 = some t := hF
          unfold st_X8_team_34 at hF
          refine lv_iload hx hb dX8_team_34 (lv_at hl 5 rfl) ?_
          refine lv_aload_n hx hb dX8_team_36 rfl (lv_at hl 0 rfl) ?_
          obtain ⟨t6, ht6, hF⟩ := m_bnd hF
          refine mVP (ci := 8) (n := 0) (rest := [.int y5_34]) (As := []) CC hKN hGl hS (c_X8_everybody l E a wy_34 t6 ht6) gX8_team_X8_everybody rfl ⟨rfl, rfl⟩ (by decide +kernel) ⟨Nat.le_of_ble_eq_true rfl, Nat.le_of_ble_eq_true rfl⟩ hP rfl rfl rfl rfl hl.1 rfl (Nat.le_of_ble_eq_true rfl) ⟨Nat.zero_le _, Nat.zero_le _⟩ dX8_team_37 ?_
          refine W.eq (g2 := F0 m 40 ls [.int t6, .int y5_34]) rfl ?_
          refine lv_icmp_gt (tgt := 103) hx hb dX8_team_40 (by decide) (fun c7 => ?_) (fun c7 => ?_)
          · have hF := m_pos c7 hF
            exact hj103 y3_34 y4_34 wy_34 H locs ls hF hP hD hS (lv_sub hl [2, 3, 4] rfl)
          · have hF := m_neg c7 hF
            refine lv_iload hx hb dX8_team_43 (lv_at hl 5 rfl) ?_
            obtain ⟨t8, ht8, hF⟩ := m_bnd hF
            refine mSP (n := 1) (rest := []) (As := [.int y5_34]) CC hKN hGl hS (c_X8_countOf l E y5_34 t8 ht8) gX8_team_X8_countOf rfl ⟨rfl, rfl⟩ (by decide +kernel) ⟨Nat.le_of_ble_eq_true rfl, Nat.le_of_ble_eq_true rfl⟩ m_nil rfl hl.1 rfl (Nat.le_of_ble_eq_true rfl) ⟨Nat.zero_le _, Nat.zero_le _⟩ dX8_team_45 ?_
            refine W.eq (g2 := F0 m 48 ls [.int t8]) rfl ?_
            refine lv_iload_n hx hb dX8_team_48 rfl (lv_at hl 1 rfl) ?_
            obtain ⟨j65, hjd65, hF⟩ := m_jp hF
            have hj65 : ∀ (z0_65 : Int32) (wx_65 : ModelV) (H : Heap) (locs : List Loc) (ls : Array Slot), j65 z0_65 wx_65 = some t → va_P E.1 vwCl (Model_c E a wx_65) H → va_D A (Model_c E a wx_65) → va_S A s.heap H locs → lv_has ls 7 [(0, .ref (Modela_self a)), (1, .int x0), (2, .int x1), (3, .int y3_34), (4, .int y4_34), (5, .int y5_34)] → W p l e_ rmX8_team s m args below meth c H locs 0 0 Q (F0 m 65 ls [.int z0_65]) := by
              intro z0_65 wx_65 H locs ls hF hP hD hS hl
              rw [hjd65] at hF
              refine lv_istore (lv' := [(6, .int z0_65), (0, .ref (Modela_self a)), (1, .int x0), (2, .int x1), (3, .int y3_34), (4, .int y4_34), (5, .int y5_34)]) hx hb dX8_team_65 hl (by decide) rfl (fun ls hl => ?_)
              refine lv_iload hx hb dX8_team_67 (lv_at hl 0 rfl) ?_
              refine lv_iload hx hb dX8_team_69 (lv_at hl 5 rfl) ?_
              obtain ⟨j80, hjd80, hF⟩ := m_jp hF
              have hj80 : ∀ (z0_80 : Int32) (H : Heap) (locs : List Loc) (ls : Array Slot), j80 z0_80 = some t → va_P E.1 vwCl (Model_c E a wx_65) H → va_D A (Model_c E a wx_65) → va_S A s.heap H locs → lv_has ls 7 [(0, .ref (Modela_self a)), (1, .int x0), (2, .int x1), (4, .int y4_34), (5, .int y5_34), (6, .int z0_65)] → W p l e_ rmX8_team s m args below meth c H locs 0 0 Q (F0 m 80 ls [.int z0_80]) := by
                intro z0_80 H locs ls hF hP hD hS hl
                rw [hjd80] at hF
                refine lv_istore_n (lv' := [(3, .int z0_80), (0, .ref (Modela_self a)), (1, .int x0), (2, .int x1), (4, .int y4_34), (5, .int y5_34), (6, .int z0_65)]) hx hb dX8_team_80 rfl hl (by decide) rfl (fun ls hl => ?_)
                refine lv_iload hx hb dX8_team_81 (lv_at hl 6 rfl) ?_
                refine lv_iload hx hb dX8_team_83 (lv_at hl 4 rfl) ?_
                obtain ⟨j95, hjd95, hF⟩ := m_jp hF
                have hj95 : ∀ (z0_95 : Int32) (H : Heap) (locs : List Loc) (ls : Array Slot), j95 z0_95 = some t → va_P E.1 vwCl (Model_c E a wx_65) H → va_D A (Model_c E a wx_65) → va_S A s.heap H locs → lv_has ls 7 [(0, .ref (Modela_self a)), (1, .int x0), (2, .int x1), (3, .int z0_80), (5, .int y5_34)] → W p l e_ rmX8_team s m args below meth c H locs 0 0 Q (F0 m 95 ls [.int z0_95]) := by
                  intro z0_95 H locs ls hF hP hD hS hl
                  rw [hjd95] at hF
                  refine lv_istore (lv' := [(4, .int z0_95), (0, .ref (Modela_self a)), (1, .int x0), (2, .int x1), (3, .int z0_80), (5, .int y5_34)]) hx hb dX8_team_95 hl (by decide) rfl (fun ls hl => ?_)
                  refine lv_iinc (v := (y5_34 + 1)) (lv' := [(5, .int (y5_34 + 1)), (4, .int z0_95), (0, .ref (Modela_self a)), (1, .int x0), (2, .int x1), (3, .int z0_80)]) hx hb dX8_team_97 hl (k := 5) rfl rfl (by decide) rfl (fun ls hl => ?_)
                  refine lv_goto (tgt := 34) hx hb dX8_team_100 (by decide) ?_
                  exact ih34 z0_80 z0_95 (y5_34 + 1) wx_65 H locs ls hF hP hD hS (lv_sub hl [2, 3, 4, 5, 1, 0] rfl)
                clear hjd95
                refine lv_icmp_le (tgt := 93) hx hb dX8_team_85 (by decide) (fun c9 => ?_) (fun c9 => ?_)
                · have hF := m_pos c9 hF
                  refine lv_iload hx hb dX8_team_93 (lv_at hl 4 rfl) ?_
                  exact hj95 y4_34 H locs ls hF hP hD hS (lv_sub hl [1, 2, 3, 0, 5] rfl)
                · have hF := m_neg c9 hF
                  refine lv_iload hx hb dX8_team_88 (lv_at hl 6 rfl) ?_
                  refine lv_goto (tgt := 95) hx hb dX8_team_90 (by decide) ?_
                  exact hj95 z0_65 H locs ls hF hP hD hS (lv_sub hl [1, 2, 3, 0, 5] rfl)
              clear hjd80
              refine lv_icmp_le (tgt := 79) hx hb dX8_team_71 (by decide) (fun c10 => ?_) (fun c10 => ?_)
              · have hF := m_pos c10 hF
                refine lv_iload_n hx hb dX8_team_79 rfl (lv_at hl 4 rfl) ?_
                exact hj80 y3_34 H locs ls hF hP hD hS (lv_sub hl [1, 2, 3, 5, 6, 0] rfl)
              · have hF := m_neg c10 hF
                refine lv_iload hx hb dX8_team_74 (lv_at hl 6 rfl) ?_
                refine lv_goto (tgt := 80) hx hb dX8_team_76 (by decide) ?_
                exact hj80 y5_34 H locs ls hF hP hD hS (lv_sub hl [1, 2, 3, 5, 6, 0] rfl)
            clear hjd65
            refine lv_icmp_ne (tgt := 63) hx hb dX8_team_49 (by decide) (fun c11 => ?_) (fun c11 => ?_)
            · have hF := m_pos c11 hF
              refine lv_bipush (v := (-5)) hx hb dX8_team_63 (by decide) ?_
              exact hj65 (-5) wy_34 H locs ls hF hP hD hS (lv_sub hl [0, 1, 2, 3, 4, 5] rfl)
            · have hF := m_neg (fun n9 => n9 c11) hF
              refine lv_aload_n hx hb dX8_team_52 rfl (lv_at hl 0 rfl) ?_
              refine lv_iload hx hb dX8_team_53 (lv_at hl 5 rfl) ?_
              refine lv_bipush (v := 10) hx hb dX8_team_55 (by decide) ?_
              obtain ⟨t12, ht12, hF⟩ := m_bnd hF
              have hPc := hP
              have hDc := hD
              have hFc := va_free (wc := (Model_c E a wy_34)) hD hS hA [0, 1, 2, 3, 4, 5, 6, 7] rfl
              refine mVM (ci := 8) (n := 2) (rest := []) (As := [.int y5_34, .int 10]) CC hKN hGl (c_X8_workBy l E a wy_34 y5_34 10 t12 ht12 _) gX8_team_X8_workBy rfl ⟨rfl, rfl⟩ (by decide +kernel) ⟨Nat.le_of_ble_eq_true rfl, Nat.le_of_ble_eq_true rfl⟩ hPc hDc m_nil m_nilA hS hFc rfl rfl rfl rfl hl.1 rfl (Nat.le_of_ble_eq_true rfl) ⟨Nat.zero_le _, Nat.zero_le _⟩ dX8_team_57 (fun H1 locs hP1 hD1 hz1 hk1 hS => ?_)
              have hP : va_P E.1 vwCl (Model_c E a t12.2) H1 := hP1
              have hD : va_D A (Model_c E a t12.2) := m_back hD1 hFc
              generalize H1 = H at hP hS ⊢
              refine W.eq (g2 := F0 m 60 ls [.int t12.1]) rfl ?_
              refine lv_goto (tgt := 65) hx hb dX8_team_60 (by decide) ?_
              exact hj65 t12.1 t12.2 H locs ls hF hP hD hS (lv_sub hl [0, 1, 2, 3, 4, 5] rfl)
      exact hL34 m_N (-5) (-5) 1 v H locs ls hF hP hD hS (lv_sub hl [3, 4, 5, 2, 1, 0] rfl)
    · have hF := m_neg (fun n9 => n9 c4) hF
      refine lv_bipush (v := (-2)) hx hb dX8_team_21 (by decide) ?_
      have hF := Option.some.inj hF
      subst hF
      rw [hQ]
      exact W.iret hx hb hr (fun t ht _ => ⟨⟨rfl, by rw [ht]; exact hP, hD⟩, hS.F ht⟩) hS.2.2 dX8_team_23
  · have hF := m_neg (fun n9 => n9 c2) hF
    refine lv_iconst (v := (-1)) hx hb dX8_team_9 (by decide) ?_
    have hF := Option.some.inj hF
    subst hF
    rw [hQ]
    exact W.iret hx hb hr (fun t ht _ => ⟨⟨rfl, by rw [ht]; exact hP, hD⟩, hS.F ht⟩) hS.2.2 dX8_team_10

abbrev rmX8_split : Room := { frames := 7, cells := 0, slots := 0, locals := 165 }
set_option maxRecDepth 100000 in
set_option maxHeartbeats 400000 in
theorem c_X8_split (l : Launch) (E : mE) (a : ModelA) (v : ModelV) (x0 : Int32) (t : (Int32 × ModelV)) (hF : fn_X8_split v x0 = some t) (sz : Nat) : Met l yX8_split wsX8_split rmX8_split (mPm E [.ref (Modela_self a), .int x0] sz ((Model_c E a v)) (([] : va_W))) (mSm E (some (.int t.1)) ((Model_c E a t.2)) (va_A ((Model_c E a v)) sz)) 0 0 (va_A ((Model_c E a v)) sz) := by
  refine mOfM (cc := cX8_split) (maxL := 6) (ret := (some .int)) (by decide) rfl (Nat.le_of_ble_eq_true rfl) ?_
  intro p e_ s m args below meth c Q A hQ CC hr hlocks hin hA hP hD hKN hGl hR0 hRA ls hl
  have hS : va_S A s.heap s.heap [] := va_S.rf
  have hK := hKN.1
  have hx := CC.1
  have hb := CC.2.1
  have hml := CC.2.2.1
  have hown : s.vm.findClass RX8 = some m.cls := CC.2.2.2.1
  have hts := CC.2.2.2.2
  have hl : lv_has ls 6 [(0, .ref (Modela_self a)), (1, .int x0)] := hl
  have k0 := hts (.constant RX8 203 (1000000000)) (by decide +kernel)
  have hP : va_P E.1 vwCl (Model_c E a v) s.heap := hP
  obtain ⟨H, hH⟩ : ∃ H, H = s.heap := ⟨_, rfl⟩
  obtain ⟨locs, hlc⟩ : ∃ z : List Loc, z = [] := ⟨_, rfl⟩
  rw [← hH] at hP
  rw [← hlc] at hS
  have hS : va_S A s.heap H locs := by rw [hH]; exact hS
  rw [← hH, ← hlc]
  unfold fn_X8_split at hF
  refine lv_iload_n hx hb dX8_split_0 rfl (lv_at hl 1 rfl) ?_
  refine lv_iconst (v := 0) hx hb dX8_split_1 (by decide) ?_
  refine lv_iconst (v := 1) hx hb dX8_split_2 (by decide) ?_
  obtain ⟨t1, ht1, hF⟩ := m_bnd hF
  refine mSP (n := 3) (rest := []) (As := [.int x0, .int 0, .int 1]) CC hKN hGl hS (c_X8_in l E x0 0 1 t1 ht1) gX8_split_X8_in rfl ⟨rfl, rfl⟩ (by decide +kernel) ⟨Nat.le_of_ble_eq_true rfl, Nat.le_of_ble_eq_true rfl⟩ m_nil rfl hl.1 rfl (Nat.le_of_ble_eq_true rfl) ⟨Nat.zero_le _, Nat.zero_le _⟩ dX8_split_3 ?_
  refine W.eq (g2 := F0 m 6 ls [.int t1]) rfl ?_
  refine lv_if_ne (tgt := 11) hx hb dX8_split_6 (by decide) (fun c2 => ?_) (fun c2 => ?_)
  · have hF := m_pos c2 hF
    refine lv_bipush (v := (-5)) hx hb dX8_split_11 (by decide) ?_
    refine lv_istore_n (lv' := [(2, .int (-5)), (0, .ref (Modela_self a)), (1, .int x0)]) hx hb dX8_split_13 rfl hl (by decide) rfl (fun ls hl => ?_)
    refine lv_ldc (v := 1000000000) hx hb hown k0 dX8_split_14 ?_
    refine lv_istore_n (lv' := [(3, .int 1000000000), (2, .int (-5)), (0, .ref (Modela_self a)), (1, .int x0)]) hx hb dX8_split_16 rfl hl (by decide) rfl (fun ls hl => ?_)
    refine lv_iconst (v := 1) hx hb dX8_split_17 (by decide) ?_
    refine lv_istore (lv' := [(4, .int 1), (3, .int 1000000000), (2, .int (-5)), (0, .ref (Modela_self a)), (1, .int x0)]) hx hb dX8_split_18 hl (by decide) rfl (fun ls hl => ?_)
    obtain ⟨j90, hjd90, hF⟩ := m_jp hF
    have hj90 : ∀ (x2_90 : Int32) (x3_90 : Int32) (wx_90 : ModelV) (H : Heap) (locs : List Loc) (ls : Array Slot), j90 x2_90 x3_90 wx_90 = some t → va_P E.1 vwCl (Model_c E a wx_90) H → va_D A (Model_c E a wx_90) → va_S A s.heap H locs → lv_has ls 6 [(1, .int x0), (2, .int x2_90), (3, .int x3_90)] → W p l e_ rmX8_split s m args below meth c H locs 0 0 Q (F0 m 90 ls []) := by
      intro x2_90 x3_90 wx_90 H locs ls hF hP hD hS hl
      rw [hjd90] at hF
      refine lv_iload_n hx hb dX8_split_90 rfl (lv_at hl 0 rfl) ?_
      obtain ⟨j100, hjd100, hF⟩ := m_jp hF
      have hj100 : ∀ (H : Heap) (locs : List Loc) (ls : Array Slot), j100 () = some t → va_P E.1 vwCl (Model_c E a wx_90) H → va_D A (Model_c E a wx_90) → va_S A s.heap H locs → lv_has ls 6 [(2, .int x2_90)] → W p l e_ rmX8_split s m args below meth c H locs 0 0 Q (F0 m 100 ls []) := by
        intro H locs ls hF hP hD hS hl
        rw [hjd100] at hF
        refine lv_iload_n hx hb dX8_split_100 rfl (lv_at hl 0 rfl) ?_
        refine lv_goto (tgt := 105) hx hb dX8_split_101 (by decide) ?_
        have hF := Option.some.inj hF
        subst hF
        rw [hQ]
        exact W.iret hx hb hr (fun t ht _ => ⟨⟨rfl, by rw [ht]; exact hP, hD⟩, hS.F ht⟩) hS.2.2 dX8_split_105
      clear hjd100
      refine lv_if_eq (tgt := 100) hx hb dX8_split_91 (by decide) (fun c3 => ?_) (fun c3 => ?_)
      · have hF := m_pos c3 hF
        exact hj100 H locs ls hF hP hD hS (lv_sub hl [1] rfl)
      · have hF := m_neg c3 hF
        refine lv_iload_n hx hb dX8_split_94 rfl (lv_at hl 1 rfl) ?_
        refine lv_bipush (v := (-5)) hx hb dX8_split_95 (by decide) ?_
        refine lv_icmp_ne (tgt := 104) hx hb dX8_split_97 (by decide) (fun c4 => ?_) (fun c4 => ?_)
        · have hF := m_pos c4 hF
          refine lv_iload_n hx hb dX8_split_104 rfl (lv_at hl 2 rfl) ?_
          have hF := Option.some.inj hF
          subst hF
          rw [hQ]
          exact W.iret hx hb hr (fun t ht _ => ⟨⟨rfl, by rw [ht]; exact hP, hD⟩, hS.F ht⟩) hS.2.2 dX8_split_105
        · have hF := m_neg (fun n9 => n9 c4) hF
          exact hj100 H locs ls hF hP hD hS (lv_sub hl [1] rfl)
    clear hjd90
    have hL20 : ∀ (n : Nat) (y2_20 : Int32) (y3_20 : Int32) (y4_20 : Int32) (wy_20 : ModelV) (H : Heap) (locs : List Loc) (ls : Array Slot), lp_X8_split_20 j90 n y2_20 y3_20 y4_20 wy_20 = some t → va_P E.1 vwCl (Model_c E a wy_20) H → va_D A (Model_c E a wy_20) → va_S A s.heap H locs → lv_has ls 6 [(0, .ref (Modela_self a)), (1, .int x0), (2, .int y2_20), (3, .int y3_20), (4, .int y4_20)] → W p l e_ rmX8_split s m args below meth c H locs 0 0 Q (F0 m 20 ls []) := by
      intro n
      induction n with
      | zero =>
        intro y2_20 y3_20 y4_20 wy_20 H locs ls hF
        exact nomatch (show (none : Option (Int32 × ModelV)) = some t from hF)
      | succ n ih20 =>
        intro y2_20 y3_20 y4_20 wy_20 H locs ls hF hP hD hS hl
        have hF : st_X8_split_20 j90 (lp_X8_split_20 j90 n) y2_20 y3_20 y4_20 wy_20 = some t := hF
        unfold st_X8_split_20 at hF
        refine lv_iload hx hb dX8_split_20 (lv_at hl 4 rfl) ?_
        refine lv_aload_n hx hb dX8_split_22 rfl (lv_at hl 0 rfl) ?_
        obtain ⟨t5, ht5, hF⟩ := m_bnd hF
        refine mVP (ci := 8) (n := 0) (rest := [.int y4_20]) (As := []) CC hKN hGl hS (c_X8_everybody l E a wy_20 t5 ht5) gX8_split_X8_everybody rfl ⟨rfl, rfl⟩ (by decide +kernel) ⟨Nat.le_of_ble_eq_true rfl, Nat.le_of_ble_eq_true rfl⟩ hP rfl rfl rfl rfl hl.1 rfl (Nat.le_of_ble_eq_true rfl) ⟨Nat.zero_le _, Nat.zero_le _⟩ dX8_split_23 ?_
        refine W.eq (g2 := F0 m 26 ls [.int t5, .int y4_20]) rfl ?_
        refine lv_icmp_ge (tgt := 90) hx hb dX8_split_26 (by decide) (fun c6 => ?_) (fun c6 => ?_)
        · have hF := m_pos c6 hF
          exact hj90 y2_20 y3_20 wy_20 H locs ls hF hP hD hS (lv_sub hl [1, 2, 3] rfl)
        · have hF := m_neg c6 hF
          refine lv_aload_n hx hb dX8_split_29 rfl (lv_at hl 0 rfl) ?_
          refine lv_iload hx hb dX8_split_30 (lv_at hl 4 rfl) ?_
          refine lv_bipush (v := 10) hx hb dX8_split_32 (by decide) ?_
          obtain ⟨t7, ht7, hF⟩ := m_bnd hF
          have hPc := hP
          have hDc := hD
          have hFc := va_free (wc := (Model_c E a wy_20)) hD hS hA [0, 1, 2, 3, 4, 5, 6, 7] rfl
          refine mVM (ci := 8) (n := 2) (rest := []) (As := [.int y4_20, .int 10]) CC hKN hGl (c_X8_workBy l E a wy_20 y4_20 10 t7 ht7 _) gX8_split_X8_workBy rfl ⟨rfl, rfl⟩ (by decide +kernel) ⟨Nat.le_of_ble_eq_true rfl, Nat.le_of_ble_eq_true rfl⟩ hPc hDc m_nil m_nilA hS hFc rfl rfl rfl rfl hl.1 rfl (Nat.le_of_ble_eq_true rfl) ⟨Nat.zero_le _, Nat.zero_le _⟩ dX8_split_34 (fun H1 locs hP1 hD1 hz1 hk1 hS => ?_)
          have hP : va_P E.1 vwCl (Model_c E a t7.2) H1 := hP1
          have hD : va_D A (Model_c E a t7.2) := m_back hD1 hFc
          generalize H1 = H at hP hS ⊢
          refine W.eq (g2 := F0 m 37 ls [.int t7.1]) rfl ?_
          refine lv_aload_n hx hb dX8_split_37 rfl (lv_at hl 0 rfl) ?_
          refine lv_aload_n hx hb dX8_split_38 rfl (lv_at hl 0 rfl) ?_
          obtain ⟨t8, ht8, hF⟩ := m_bnd hF
          refine mVP (ci := 8) (n := 0) (rest := [.ref (Modela_self a), .int t7.1]) (As := []) CC hKN hGl hS (c_X8_everybody l E a t7.2 t8 ht8) gX8_split_X8_everybody rfl ⟨rfl, rfl⟩ (by decide +kernel) ⟨Nat.le_of_ble_eq_true rfl, Nat.le_of_ble_eq_true rfl⟩ hP rfl rfl rfl rfl hl.1 rfl (Nat.le_of_ble_eq_true rfl) ⟨Nat.zero_le _, Nat.zero_le _⟩ dX8_split_39 ?_
          refine W.eq (g2 := F0 m 42 ls [.int t8, .ref (Modela_self a), .int t7.1]) rfl ?_
          refine lv_iload hx hb dX8_split_42 (lv_at hl 4 rfl) ?_
          refine lv_iconst (v := (-1)) hx hb dX8_split_44 (by decide) ?_
          refine lv_ixor hx hb dX8_split_45 ?_
          refine lv_iand hx hb dX8_split_46 ?_
          refine lv_bipush (v := 10) hx hb dX8_split_47 (by decide) ?_
          obtain ⟨t9, ht9, hF⟩ := m_bnd hF
          have hPc := hP
          have hDc := hD
          have hFc := va_free (wc := (Model_c E a t7.2)) hD hS hA [0, 1, 2, 3, 4, 5, 6, 7] rfl
          refine mVM (ci := 8) (n := 2) (rest := [.int t7.1]) (As := [.int (t8 &&& (y4_20 ^^^ (-1))), .int 10]) CC hKN hGl (c_X8_workBy l E a t7.2 (t8 &&& (y4_20 ^^^ (-1))) 10 t9 ht9 _) gX8_split_X8_workBy rfl ⟨rfl, rfl⟩ (by decide +kernel) ⟨Nat.le_of_ble_eq_true rfl, Nat.le_of_ble_eq_true rfl⟩ hPc hDc m_nil m_nilA hS hFc rfl rfl rfl rfl hl.1 rfl (Nat.le_of_ble_eq_true rfl) ⟨Nat.zero_le _, Nat.zero_le _⟩ dX8_split_49 (fun H1 locs hP1 hD1 hz1 hk1 hS => ?_)
          have hP : va_P E.1 vwCl (Model_c E a t9.2) H1 := hP1
          have hD : va_D A (Model_c E a t9.2) := m_back hD1 hFc
          generalize H1 = H at hP hS ⊢
          refine W.eq (g2 := F0 m 52 ls [.int t9.1, .int t7.1]) rfl ?_
          refine lv_isub hx hb dX8_split_52 ?_
          obtain ⟨t10, ht10, hF⟩ := m_bnd hF
          refine mSP (n := 1) (rest := []) (As := [.int (t7.1 - t9.1)]) CC hKN hGl hS (c_X8_size l E (t7.1 - t9.1) t10 ht10) gX8_split_X8_size rfl ⟨rfl, rfl⟩ (by decide +kernel) ⟨Nat.le_of_ble_eq_true rfl, Nat.le_of_ble_eq_true rfl⟩ m_nil rfl hl.1 rfl (Nat.le_of_ble_eq_true rfl) ⟨Nat.zero_le _, Nat.zero_le _⟩ dX8_split_53 ?_
          refine W.eq (g2 := F0 m 56 ls [.int t10]) rfl ?_
          refine lv_istore (lv' := [(5, .int t10), (0, .ref (Modela_self a)), (1, .int x0), (2, .int y2_20), (3, .int y3_20), (4, .int y4_20)]) hx hb dX8_split_56 hl (by decide) rfl (fun ls hl => ?_)
          refine lv_iload hx hb dX8_split_58 (lv_at hl 0 rfl) ?_
          refine lv_iload_n hx hb dX8_split_60 rfl (lv_at hl 4 rfl) ?_
          obtain ⟨j70, hjd70, hF⟩ := m_jp hF
          have hj70 : ∀ (z0_70 : Int32) (H : Heap) (locs : List Loc) (ls : Array Slot), j70 z0_70 = some t → va_P E.1 vwCl (Model_c E a t9.2) H → va_D A (Model_c E a t9.2) → va_S A s.heap H locs → lv_has ls 6 [(0, .ref (Modela_self a)), (1, .int x0), (3, .int y3_20), (4, .int y4_20), (5, .int t10)] → W p l e_ rmX8_split s m args below meth c H locs 0 0 Q (F0 m 70 ls [.int z0_70]) := by
            intro z0_70 H locs ls hF hP hD hS hl
            rw [hjd70] at hF
            refine lv_istore_n (lv' := [(2, .int z0_70), (0, .ref (Modela_self a)), (1, .int x0), (3, .int y3_20), (4, .int y4_20), (5, .int t10)]) hx hb dX8_split_70 rfl hl (by decide) rfl (fun ls hl => ?_)
            refine lv_iload hx hb dX8_split_71 (lv_at hl 5 rfl) ?_
            refine lv_iload_n hx hb dX8_split_73 rfl (lv_at hl 3 rfl) ?_
            obtain ⟨j83, hjd83, hF⟩ := m_jp hF
            have hj83 : ∀ (z0_83 : Int32) (H : Heap) (locs : List Loc) (ls : Array Slot), j83 z0_83 = some t → va_P E.1 vwCl (Model_c E a t9.2) H → va_D A (Model_c E a t9.2) → va_S A s.heap H locs → lv_has ls 6 [(0, .ref (Modela_self a)), (1, .int x0), (2, .int z0_70), (4, .int y4_20)] → W p l e_ rmX8_split s m args below meth c H locs 0 0 Q (F0 m 83 ls [.int z0_83]) := by
              intro z0_83 H locs ls hF hP hD hS hl
              rw [hjd83] at hF
              refine lv_istore_n (lv' := [(3, .int z0_83), (0, .ref (Modela_self a)), (1, .int x0), (2, .int z0_70), (4, .int y4_20)]) hx hb dX8_split_83 rfl hl (by decide) rfl (fun ls hl => ?_)
              refine lv_iinc (v := (y4_20 + 2)) (lv' := [(4, .int (y4_20 + 2)), (3, .int z0_83), (0, .ref (Modela_self a)), (1, .int x0), (2, .int z0_70)]) hx hb dX8_split_84 hl (k := 4) rfl rfl (by decide) rfl (fun ls hl => ?_)
              refine lv_goto (tgt := 20) hx hb dX8_split_87 (by decide) ?_
              exact ih20 z0_70 z0_83 (y4_20 + 2) t9.2 H locs ls hF hP hD hS (lv_sub hl [2, 3, 4, 1, 0] rfl)
            clear hjd83
            refine lv_icmp_ge (tgt := 82) hx hb dX8_split_74 (by decide) (fun c11 => ?_) (fun c11 => ?_)
            · have hF := m_pos c11 hF
              refine lv_iload_n hx hb dX8_split_82 rfl (lv_at hl 3 rfl) ?_
              exact hj83 y3_20 H locs ls hF hP hD hS (lv_sub hl [1, 2, 0, 4] rfl)
            · have hF := m_neg c11 hF
              refine lv_iload hx hb dX8_split_77 (lv_at hl 5 rfl) ?_
              refine lv_goto (tgt := 83) hx hb dX8_split_79 (by decide) ?_
              exact hj83 t10 H locs ls hF hP hD hS (lv_sub hl [1, 2, 0, 4] rfl)
          clear hjd70
          refine lv_icmp_ge (tgt := 69) hx hb dX8_split_61 (by decide) (fun c12 => ?_) (fun c12 => ?_)
          · have hF := m_pos c12 hF
            refine lv_iload_n hx hb dX8_split_69 rfl (lv_at hl 3 rfl) ?_
            exact hj70 y2_20 H locs ls hF hP hD hS (lv_sub hl [1, 2, 4, 5, 0] rfl)
          · have hF := m_neg c12 hF
            refine lv_iload hx hb dX8_split_64 (lv_at hl 5 rfl) ?_
            refine lv_goto (tgt := 70) hx hb dX8_split_66 (by decide) ?_
            exact hj70 y4_20 H locs ls hF hP hD hS (lv_sub hl [1, 2, 4, 5, 0] rfl)
    exact hL20 m_N (-5) 1000000000 1 v H locs ls hF hP hD hS (lv_sub hl [3, 4, 2, 1, 0] rfl)
  · have hF := m_neg (fun n9 => n9 c2) hF
    refine lv_iconst (v := (-1)) hx hb dX8_split_9 (by decide) ?_
    have hF := Option.some.inj hF
    subst hF
    rw [hQ]
    exact W.iret hx hb hr (fun t ht _ => ⟨⟨rfl, by rw [ht]; exact hP, hD⟩, hS.F ht⟩) hS.2.2 dX8_split_10

abbrev rmX8_factorial : Room := { frames := 0, cells := 0, slots := 0, locals := 0 }
set_option maxRecDepth 100000 in
set_option maxHeartbeats 400000 in
theorem c_X8_factorial (l : Launch) (E : mE) (x0 : Int32) (t : Int64) (hF : fn_X8_factorial x0 = some t) : Met l yX8_factorial wsX8_factorial rmX8_factorial (mPp E [.int x0] ([] : va_W)) (mSp (some (.long t))) 0 0 (fun _ => False) := by
  refine mOfP (cc := cX8_factorial) (maxL := 4) (ret := (some .long)) (by decide) rfl (Nat.le_of_ble_eq_true rfl) ?_
  intro p e_ s m args below meth c Q hQ CC hr hlocks hP hKN hGl ls hl
  have hS : va_S (fun _ => False) s.heap s.heap [] := va_S.rf
  have hK := hKN.1
  have hx := CC.1
  have hb := CC.2.1
  have hml := CC.2.2.1
  have hown : s.vm.findClass RX8 = some m.cls := CC.2.2.2.1
  have hts := CC.2.2.2.2
  have hl : lv_has ls 4 [(0, .int x0)] := hl
  unfold fn_X8_factorial at hF
  refine lv_lconst (v := 1) hx hb dX8_factorial_0 (by decide) ?_
  refine lv_lstore_n (lv' := [(1, .long (1 : Int64)), (0, .int x0)]) hx hb dX8_factorial_1 rfl hl (by decide) rfl (fun ls hl => ?_)
  refine lv_iconst (v := 2) hx hb dX8_factorial_2 (by decide) ?_
  refine lv_istore_n (lv' := [(3, .int 2), (1, .long (1 : Int64)), (0, .int x0)]) hx hb dX8_factorial_3 rfl hl (by decide) rfl (fun ls hl => ?_)
  have hL4 : ∀ (n : Nat) (y1_4 : Int64) (y3_4 : Int32) (ls : Array Slot), lp_X8_factorial_4 x0 n y1_4 y3_4 = some t → lv_has ls 4 [(0, .int x0), (1, .long y1_4), (3, .int y3_4)] → W p l e_ rmX8_factorial s m args below meth c s.heap [] 0 0 Q (F0 m 4 ls []) := by
    intro n
    induction n with
    | zero =>
      intro y1_4 y3_4 ls hF
      exact nomatch (show (none : Option Int64) = some t from hF)
    | succ n ih4 =>
      intro y1_4 y3_4 ls hF hl
      have hF : st_X8_factorial_4 x0 (lp_X8_factorial_4 x0 n) y1_4 y3_4 = some t := hF
      unfold st_X8_factorial_4 at hF
      refine lv_iload_n hx hb dX8_factorial_4 rfl (lv_at hl 2 rfl) ?_
      refine lv_iload_n hx hb dX8_factorial_5 rfl (lv_at hl 0 rfl) ?_
      refine lv_icmp_gt (tgt := 20) hx hb dX8_factorial_6 (by decide) (fun c1 => ?_) (fun c1 => ?_)
      · have hF := m_pos c1 hF
        refine lv_lload_n hx hb dX8_factorial_20 rfl (lv_at hl 1 rfl) ?_
        have hF := Option.some.inj hF
        subst hF
        rw [hQ]
        exact W.lret hx hb hr (fun t ht _ => ⟨rfl, ht⟩) (fun _ h => by cases h) dX8_factorial_21
      · have hF := m_neg c1 hF
        refine lv_lload_n hx hb dX8_factorial_9 rfl (lv_at hl 1 rfl) ?_
        refine lv_iload_n hx hb dX8_factorial_10 rfl (lv_at hl 2 rfl) ?_
        refine lv_i2l (v := (y3_4).toInt64) hx hb dX8_factorial_11 rfl ?_
        refine lv_lmul hx hb dX8_factorial_12 ?_
        refine lv_lstore_n (lv' := [(1, .long (y1_4 * (y3_4).toInt64)), (0, .int x0), (3, .int y3_4)]) hx hb dX8_factorial_13 rfl hl (by decide) rfl (fun ls hl => ?_)
        refine lv_iinc (v := (y3_4 + 1)) (lv' := [(3, .int (y3_4 + 1)), (1, .long (y1_4 * (y3_4).toInt64)), (0, .int x0)]) hx hb dX8_factorial_14 hl (k := 2) rfl rfl (by decide) rfl (fun ls hl => ?_)
        refine lv_goto (tgt := 4) hx hb dX8_factorial_17 (by decide) ?_
        exact ih4 (y1_4 * (y3_4).toInt64) (y3_4 + 1) ls hF (lv_sub hl [2, 1, 0] rfl)
  exact hL4 m_N (1 : Int64) 2 ls hF (lv_sub hl [2, 1, 0] rfl)

abbrev rmX8_lowest : Room := { frames := 0, cells := 0, slots := 0, locals := 0 }
set_option maxRecDepth 100000 in
set_option maxHeartbeats 400000 in
theorem c_X8_lowest (l : Launch) (E : mE) (x0 : Int64) (x1 : Int64) (x2 : Int32) (t : Int64) (hF : fn_X8_lowest x0 x1 x2 = some t) : Met l yX8_lowest wsX8_lowest rmX8_lowest (mPp E [.long x0, .long x1, .int x2] ([] : va_W)) (mSp (some (.long t))) 0 0 (fun _ => False) := by
  refine mOfP (cc := cX8_lowest) (maxL := 11) (ret := (some .long)) (by decide) rfl (Nat.le_of_ble_eq_true rfl) ?_
  intro p e_ s m args below meth c Q hQ CC hr hlocks hP hKN hGl ls hl
  have hS : va_S (fun _ => False) s.heap s.heap [] := va_S.rf
  have hK := hKN.1
  have hx := CC.1
  have hb := CC.2.1
  have hml := CC.2.2.1
  have hown : s.vm.findClass RX8 = some m.cls := CC.2.2.2.1
  have hts := CC.2.2.2.2
  have hl : lv_has ls 11 [(0, .long x0), (2, .long x1), (4, .int x2)] := hl
  unfold fn_X8_lowest at hF
  refine lv_lload_n hx hb dX8_lowest_0 rfl (lv_at hl 0 rfl) ?_
  refine lv_lconst (v := 0) hx hb dX8_lowest_1 (by decide) ?_
  refine W.lcmp hx hb dX8_lowest_2 ?_
  obtain ⟨j12, hjd12, hF⟩ := m_jp hF
  have hj12 : ∀ (z0_12 : Int64) (ls : Array Slot), j12 z0_12 = some t → lv_has ls 11 [(0, .long x0), (2, .long x1), (4, .int x2)] → W p l e_ rmX8_lowest s m args below meth c s.heap [] 0 0 Q (F0 m 12 ls [.long z0_12]) := by
    intro z0_12 ls hF hl
    rw [hjd12] at hF
    refine lv_lstore (lv' := [(5, .long z0_12), (0, .long x0), (2, .long x1), (4, .int x2)]) hx hb dX8_lowest_12 hl (by decide) rfl (fun ls hl => ?_)
    refine lv_lload_n hx hb dX8_lowest_14 rfl (lv_at hl 2 rfl) ?_
    refine lv_lstore (lv' := [(7, .long x1), (5, .long z0_12), (0, .long x0), (2, .long x1), (4, .int x2)]) hx hb dX8_lowest_15 hl (by decide) rfl (fun ls hl => ?_)
    obtain ⟨j42, hjd42, hF⟩ := m_jp hF
    have hj42 : ∀ (x5_42 : Int64) (ls : Array Slot), j42 x5_42 = some t → lv_has ls 11 [(0, .long x0), (2, .long x1), (4, .int x2), (5, .long x5_42)] → W p l e_ rmX8_lowest s m args below meth c s.heap [] 0 0 Q (F0 m 42 ls []) := by
      intro x5_42 ls hF hl
      rw [hjd42] at hF
      refine lv_iload hx hb dX8_lowest_42 (lv_at hl 2 rfl) ?_
      obtain ⟨j52, hjd52, hF⟩ := m_jp hF
      have hj52 : ∀ (z0_52 : Int64) (ls : Array Slot), j52 z0_52 = some t → lv_has ls 11 [(5, .long x5_42)] → W p l e_ rmX8_lowest s m args below meth c s.heap [] 0 0 Q (F0 m 52 ls [.long z0_52]) := by
        intro z0_52 ls hF hl
        rw [hjd52] at hF
        refine lv_lload hx hb dX8_lowest_52 (lv_at hl 0 rfl) ?_
        obtain ⟨h1, hF⟩ := m_chk hF
        refine lv_ldiv hx hb dX8_lowest_54 h1 ?_
        have hF := Option.some.inj hF
        subst hF
        rw [hQ]
        exact W.lret hx hb hr (fun t ht _ => ⟨rfl, ht⟩) (fun _ h => by cases h) dX8_lowest_55
      clear hjd52
      refine lv_if_ne (tgt := 51) hx hb dX8_lowest_44 (by decide) (fun c2 => ?_) (fun c2 => ?_)
      · have hF := m_pos c2 hF
        refine lv_lload_n hx hb dX8_lowest_51 rfl (lv_at hl 1 rfl) ?_
        exact hj52 x1 ls hF (lv_sub hl [3] rfl)
      · have hF := m_neg (fun n9 => n9 c2) hF
        refine lv_lload_n hx hb dX8_lowest_47 rfl (lv_at hl 0 rfl) ?_
        refine lv_goto (tgt := 52) hx hb dX8_lowest_48 (by decide) ?_
        exact hj52 x0 ls hF (lv_sub hl [3] rfl)
    clear hjd42
    have hL17 : ∀ (n : Nat) (y5_17 : Int64) (y7_17 : Int64) (ls : Array Slot), lp_X8_lowest_17 j42 n y5_17 y7_17 = some t → lv_has ls 11 [(0, .long x0), (2, .long x1), (4, .int x2), (5, .long y5_17), (7, .long y7_17)] → W p l e_ rmX8_lowest s m args below meth c s.heap [] 0 0 Q (F0 m 17 ls []) := by
      intro n
      induction n with
      | zero =>
        intro y5_17 y7_17 ls hF
        exact nomatch (show (none : Option Int64) = some t from hF)
      | succ n ih17 =>
        intro y5_17 y7_17 ls hF hl
        have hF : st_X8_lowest_17 j42 (lp_X8_lowest_17 j42 n) y5_17 y7_17 = some t := hF
        unfold st_X8_lowest_17 at hF
        refine lv_lload hx hb dX8_lowest_17 (lv_at hl 4 rfl) ?_
        refine lv_lconst (v := 0) hx hb dX8_lowest_19 (by decide) ?_
        refine W.lcmp hx hb dX8_lowest_20 ?_
        refine lv_if_eq (tgt := 42) hx hb dX8_lowest_21 (by decide) (fun c3 => ?_) (fun c3 => ?_)
        · have hF := m_pos c3 hF
          exact hj42 y5_17 ls hF (lv_sub hl [0, 1, 2, 3] rfl)
        · have hF := m_neg c3 hF
          refine lv_lload hx hb dX8_lowest_24 (lv_at hl 3 rfl) ?_
          refine lv_lload hx hb dX8_lowest_26 (lv_at hl 4 rfl) ?_
          obtain ⟨h4, hF⟩ := m_chk hF
          refine lv_lrem hx hb dX8_lowest_28 h4 ?_
          refine W.eq (g2 := F0 m 29 ls [.long (mRemL y5_17 y7_17)]) rfl ?_
          refine lv_lstore (lv' := [(9, .long (mRemL y5_17 y7_17)), (0, .long x0), (2, .long x1), (4, .int x2), (5, .long y5_17), (7, .long y7_17)]) hx hb dX8_lowest_29 hl (by decide) rfl (fun ls hl => ?_)
          refine lv_lload hx hb dX8_lowest_31 (lv_at hl 5 rfl) ?_
          refine lv_lstore (lv' := [(5, .long y7_17), (9, .long (mRemL y5_17 y7_17)), (0, .long x0), (2, .long x1), (4, .int x2), (7, .long y7_17)]) hx hb dX8_lowest_33 hl (by decide) rfl (fun ls hl => ?_)
          refine lv_lload hx hb dX8_lowest_35 (lv_at hl 1 rfl) ?_
          refine lv_lstore (lv' := [(7, .long (mRemL y5_17 y7_17)), (5, .long y7_17), (9, .long (mRemL y5_17 y7_17)), (0, .long x0), (2, .long x1), (4, .int x2)]) hx hb dX8_lowest_37 hl (by decide) rfl (fun ls hl => ?_)
          refine lv_goto (tgt := 17) hx hb dX8_lowest_39 (by decide) ?_
          exact ih17 y7_17 (mRemL y5_17 y7_17) ls hF (lv_sub hl [3, 4, 5, 1, 0] rfl)
    exact hL17 m_N z0_12 x1 ls hF (lv_sub hl [2, 3, 4, 1, 0] rfl)
  clear hjd12
  refine lv_if_ge (tgt := 11) hx hb dX8_lowest_3 (by decide) (fun c5 => ?_) (fun c5 => ?_)
  · have hF := m_pos c5 hF
    refine lv_lload_n hx hb dX8_lowest_11 rfl (lv_at hl 0 rfl) ?_
    exact hj12 x0 ls hF (lv_sub hl [0, 1, 2] rfl)
  · have hF := m_neg c5 hF
    refine lv_lload_n hx hb dX8_lowest_6 rfl (lv_at hl 0 rfl) ?_
    refine lv_lneg hx hb dX8_lowest_7 ?_
    refine lv_goto (tgt := 12) hx hb dX8_lowest_8 (by decide) ?_
    exact hj12 (-x0) ls hF (lv_sub hl [0, 1, 2] rfl)

abbrev rmX8_see : Room := { frames := 1, cells := 0, slots := 0, locals := 22 }
set_option maxRecDepth 100000 in
set_option maxHeartbeats 400000 in
theorem c_X8_see (l : Launch) (E : mE) (a : ModelA) (v : ModelV) (x0 : Int32) (x1 : Int32) (t : (Int32 × ModelV)) (hF : fn_X8_see v x0 x1 = some t) (sz : Nat) : Met l yX8_see wsX8_see rmX8_see (mPm E [.ref (Modela_self a), .int x0, .int x1] sz ((Model_c E a v)) (([] : va_W))) (mSm E (some (.int t.1)) ((Model_c E a t.2)) (va_A ((Model_c E a v)) sz)) 0 0 (va_A ((Model_c E a v)) sz) := by
  refine mOfM (cc := cX8_see) (maxL := 3) (ret := (some .int)) (by decide) rfl (Nat.le_of_ble_eq_true rfl) ?_
  intro p e_ s m args below meth c Q A hQ CC hr hlocks hin hA hP hD hKN hGl hR0 hRA ls hl
  have hS : va_S A s.heap s.heap [] := va_S.rf
  have hK := hKN.1
  have hx := CC.1
  have hb := CC.2.1
  have hml := CC.2.2.1
  have hown : s.vm.findClass RX8 = some m.cls := CC.2.2.2.1
  have hts := CC.2.2.2.2
  have hl : lv_has ls 3 [(0, .ref (Modela_self a)), (1, .int x0), (2, .int x1)] := hl
  have k0 := hts (.constant RX8 184 (99999)) (by decide +kernel)
  have k1 := hts (.fieldLink RX8 9 "OneDidAllModel" "s" "[I") (by decide +kernel)
  have k2 := (show ∀ w ∈ u_ws RX8 TX8 20, w ∈ wsX8_see by decide +kernel)
  have hP : va_P E.1 vwCl (Model_c E a v) s.heap := hP
  obtain ⟨H, hH⟩ : ∃ H, H = s.heap := ⟨_, rfl⟩
  obtain ⟨locs, hlc⟩ : ∃ z : List Loc, z = [] := ⟨_, rfl⟩
  rw [← hH] at hP
  rw [← hlc] at hS
  have hS : va_S A s.heap H locs := by rw [hH]; exact hS
  rw [← hH, ← hlc]
  unfold fn_X8_see at hF
  refine lv_iload_n hx hb dX8_see_0 rfl (lv_at hl 1 rfl) ?_
  refine lv_iconst (v := (-1)) hx hb dX8_see_1 (by decide) ?_
  refine lv_icmp_ne (tgt := 15) hx hb dX8_see_2 (by decide) (fun c1 => ?_) (fun c1 => ?_)
  · have hF := m_pos c1 hF
    refine lv_iload_n hx hb dX8_see_15 rfl (lv_at hl 1 rfl) ?_
    refine lv_iconst (v := 0) hx hb dX8_see_16 (by decide) ?_
    refine lv_ldc (v := 99999) hx hb hown k0 dX8_see_17 ?_
    obtain ⟨t2, ht2, hF⟩ := m_bnd hF
    refine mSP (n := 3) (rest := []) (As := [.int x0, .int 0, .int 99999]) CC hKN hGl hS (c_X8_in l E x0 0 99999 t2 ht2) gX8_see_X8_in rfl ⟨rfl, rfl⟩ (by decide +kernel) ⟨Nat.le_of_ble_eq_true rfl, Nat.le_of_ble_eq_true rfl⟩ m_nil rfl hl.1 rfl (Nat.le_of_ble_eq_true rfl) ⟨Nat.zero_le _, Nat.zero_le _⟩ dX8_see_19 ?_
    refine W.eq (g2 := F0 m 22 ls [.int t2]) rfl ?_
    refine lv_if_eq (tgt := 35) hx hb dX8_see_22 (by decide) (fun c3 => ?_) (fun c3 => ?_)
    · have hF := m_pos c3 hF
      refine lv_bipush (v := (-2)) hx hb dX8_see_35 (by decide) ?_
      have hF := Option.some.inj hF
      subst hF
      rw [hQ]
      exact W.iret hx hb hr (fun t ht _ => ⟨⟨rfl, by rw [ht]; exact hP, hD⟩, hS.F ht⟩) hS.2.2 dX8_see_37
    · have hF := m_neg c3 hF
      refine lv_iload_n hx hb dX8_see_25 rfl (lv_at hl 2 rfl) ?_
      refine lv_iconst (v := 0) hx hb dX8_see_26 (by decide) ?_
      refine lv_bipush (v := 20) hx hb dX8_see_27 (by decide) ?_
      obtain ⟨t4, ht4, hF⟩ := m_bnd hF
      refine mSP (n := 3) (rest := []) (As := [.int x1, .int 0, .int 20]) CC hKN hGl hS (c_X8_in l E x1 0 20 t4 ht4) gX8_see_X8_in rfl ⟨rfl, rfl⟩ (by decide +kernel) ⟨Nat.le_of_ble_eq_true rfl, Nat.le_of_ble_eq_true rfl⟩ m_nil rfl hl.1 rfl (Nat.le_of_ble_eq_true rfl) ⟨Nat.zero_le _, Nat.zero_le _⟩ dX8_see_29 ?_
      refine W.eq (g2 := F0 m 32 ls [.int t4]) rfl ?_
      refine lv_if_ne (tgt := 38) hx hb dX8_see_32 (by decide) (fun c5 => ?_) (fun c5 => ?_)
      · have hF := m_pos c5 hF
        refine lv_aload_n hx hb dX8_see_38 rfl (lv_at hl 0 rfl) ?_
        refine va_get (D := E.1) (ci := 8) (v := .ref (Modela_s a)) (C := RX8) (T := TX8) (N := 20) hx hb hts k2 hown hK hP 0 rfl rfl 1 (by decide) k1 (fun _ h9 => h9) rfl dX8_see_39 ?_
        refine lv_bipush (v := 22) hx hb dX8_see_42 (by decide) ?_
        obtain ⟨h6, hF⟩ := m_chk hF
        refine va_iald (f := (Model_s v)) hx hb hK hP 1 1 rfl rfl (mIn_ok h6) dX8_see_44 ?_
        refine W.eq (g2 := F0 m 45 ls [.int ((Model_s v) (22 : Int32).toNatClampNeg)]) rfl ?_
        refine lv_iconst (v := 5) hx hb dX8_see_45 (by decide) ?_
        refine lv_icmp_ne (tgt := 52) hx hb dX8_see_46 (by decide) (fun c7 => ?_) (fun c7 => ?_)
        · have hF := m_pos c7 hF
          refine lv_aload_n hx hb dX8_see_52 rfl (lv_at hl 0 rfl) ?_
          refine va_get (D := E.1) (ci := 8) (v := .ref (Modela_s a)) (C := RX8) (T := TX8) (N := 20) hx hb hts k2 hown hK hP 0 rfl rfl 1 (by decide) k1 (fun _ h9 => h9) rfl dX8_see_53 ?_
          refine lv_bipush (v := 69) hx hb dX8_see_56 (by decide) ?_
          refine lv_aload_n hx hb dX8_see_58 rfl (lv_at hl 0 rfl) ?_
          refine va_get (D := E.1) (ci := 8) (v := .ref (Modela_s a)) (C := RX8) (T := TX8) (N := 20) hx hb hts k2 hown hK hP 0 rfl rfl 1 (by decide) k1 (fun _ h9 => h9) rfl dX8_see_59 ?_
          refine lv_bipush (v := 22) hx hb dX8_see_62 (by decide) ?_
          obtain ⟨h8, hF⟩ := m_chk hF
          refine va_iald (f := (Model_s v)) hx hb hK hP 1 1 rfl rfl (mIn_ok h8) dX8_see_64 ?_
          refine W.eq (g2 := F0 m 65 ls [.int ((Model_s v) (22 : Int32).toNatClampNeg), .int 69, .ref (Modela_s a)]) rfl ?_
          refine lv_iadd hx hb dX8_see_65 ?_
          refine lv_iload_n hx hb dX8_see_66 rfl (lv_at hl 1 rfl) ?_
          obtain ⟨h9, hF⟩ := m_chk hF
          refine va_iast (f := (Model_s v)) hx hb hK hP hD hS 1 1 rfl rfl (mIn_ok h9) dX8_see_67 (fun H locs hP hD hS => ?_)
          have hP : va_P E.1 vwCl (Model_c E a (Model_s_s v (upd (Model_s v) ((69 + ((Model_s v) (22 : Int32).toNatClampNeg))).toNatClampNeg x0))) H := hP
          have hD : va_D A (Model_c E a (Model_s_s v (upd (Model_s v) ((69 + ((Model_s v) (22 : Int32).toNatClampNeg))).toNatClampNeg x0))) := hD
          refine lv_aload_n hx hb dX8_see_68 rfl (lv_at hl 0 rfl) ?_
          refine va_get (D := E.1) (ci := 8) (v := .ref (Modela_s a)) (C := RX8) (T := TX8) (N := 20) hx hb hts k2 hown hK hP 0 rfl rfl 1 (by decide) k1 (fun _ h9 => h9) rfl dX8_see_69 ?_
          refine lv_bipush (v := 74) hx hb dX8_see_72 (by decide) ?_
          refine lv_aload_n hx hb dX8_see_74 rfl (lv_at hl 0 rfl) ?_
          refine va_get (D := E.1) (ci := 8) (v := .ref (Modela_s a)) (C := RX8) (T := TX8) (N := 20) hx hb hts k2 hown hK hP 0 rfl rfl 1 (by decide) k1 (fun _ h9 => h9) rfl dX8_see_75 ?_
          refine lv_bipush (v := 22) hx hb dX8_see_78 (by decide) ?_
          obtain ⟨h10, hF⟩ := m_chk hF
          refine va_iald (f := (upd (Model_s v) ((69 + ((Model_s v) (22 : Int32).toNatClampNeg))).toNatClampNeg x0)) hx hb hK hP 1 1 rfl rfl (mIn_ok h10) dX8_see_80 ?_
          refine W.eq (g2 := F0 m 81 ls [.int ((upd (Model_s v) ((69 + ((Model_s v) (22 : Int32).toNatClampNeg))).toNatClampNeg x0) (22 : Int32).toNatClampNeg), .int 74, .ref (Modela_s a)]) rfl ?_
          refine lv_iadd hx hb dX8_see_81 ?_
          refine lv_iload_n hx hb dX8_see_82 rfl (lv_at hl 2 rfl) ?_
          obtain ⟨h11, hF⟩ := m_chk hF
          refine va_iast (f := (upd (Model_s v) ((69 + ((Model_s v) (22 : Int32).toNatClampNeg))).toNatClampNeg x0)) hx hb hK hP hD hS 1 1 rfl rfl (mIn_ok h11) dX8_see_83 (fun H locs hP hD hS => ?_)
          have hP : va_P E.1 vwCl (Model_c E a (Model_s_s v (upd (upd (Model_s v) ((69 + ((Model_s v) (22 : Int32).toNatClampNeg))).toNatClampNeg x0) ((74 + ((upd (Model_s v) ((69 + ((Model_s v) (22 : Int32).toNatClampNeg))).toNatClampNeg x0) (22 : Int32).toNatClampNeg))).toNatClampNeg x1))) H := hP
          have hD : va_D A (Model_c E a (Model_s_s v (upd (upd (Model_s v) ((69 + ((Model_s v) (22 : Int32).toNatClampNeg))).toNatClampNeg x0) ((74 + ((upd (Model_s v) ((69 + ((Model_s v) (22 : Int32).toNatClampNeg))).toNatClampNeg x0) (22 : Int32).toNatClampNeg))).toNatClampNeg x1))) := hD
          refine lv_aload_n hx hb dX8_see_84 rfl (lv_at hl 0 rfl) ?_
          refine va_get (D := E.1) (ci := 8) (v := .ref (Modela_s a)) (C := RX8) (T := TX8) (N := 20) hx hb hts k2 hown hK hP 0 rfl rfl 1 (by decide) k1 (fun _ h9 => h9) rfl dX8_see_85 ?_
          refine lv_bipush (v := 22) hx hb dX8_see_88 (by decide) ?_
          refine lv_dup2_11 hx hb dX8_see_90 rfl rfl ?_
          obtain ⟨h12, hF⟩ := m_chk hF
          refine va_iald (f := (upd (upd (Model_s v) ((69 + ((Model_s v) (22 : Int32).toNatClampNeg))).toNatClampNeg x0) ((74 + ((upd (Model_s v) ((69 + ((Model_s v) (22 : Int32).toNatClampNeg))).toNatClampNeg x0) (22 : Int32).toNatClampNeg))).toNatClampNeg x1)) hx hb hK hP 1 1 rfl rfl (mIn_ok h12) dX8_see_91 ?_
          refine W.eq (g2 := F0 m 92 ls [.int ((upd (upd (Model_s v) ((69 + ((Model_s v) (22 : Int32).toNatClampNeg))).toNatClampNeg x0) ((74 + ((upd (Model_s v) ((69 + ((Model_s v) (22 : Int32).toNatClampNeg))).toNatClampNeg x0) (22 : Int32).toNatClampNeg))).toNatClampNeg x1) (22 : Int32).toNatClampNeg), .int 22, .ref (Modela_s a)]) rfl ?_
          refine lv_iconst (v := 1) hx hb dX8_see_92 (by decide) ?_
          refine lv_iadd hx hb dX8_see_93 ?_
          obtain ⟨h13, hF⟩ := m_chk hF
          refine va_iast (f := (upd (upd (Model_s v) ((69 + ((Model_s v) (22 : Int32).toNatClampNeg))).toNatClampNeg x0) ((74 + ((upd (Model_s v) ((69 + ((Model_s v) (22 : Int32).toNatClampNeg))).toNatClampNeg x0) (22 : Int32).toNatClampNeg))).toNatClampNeg x1)) hx hb hK hP hD hS 1 1 rfl rfl (mIn_ok h13) dX8_see_94 (fun H locs hP hD hS => ?_)
          have hP : va_P E.1 vwCl (Model_c E a (Model_s_s v (upd (upd (upd (Model_s v) ((69 + ((Model_s v) (22 : Int32).toNatClampNeg))).toNatClampNeg x0) ((74 + ((upd (Model_s v) ((69 + ((Model_s v) (22 : Int32).toNatClampNeg))).toNatClampNeg x0) (22 : Int32).toNatClampNeg))).toNatClampNeg x1) (22 : Int32).toNatClampNeg (((upd (upd (Model_s v) ((69 + ((Model_s v) (22 : Int32).toNatClampNeg))).toNatClampNeg x0) ((74 + ((upd (Model_s v) ((69 + ((Model_s v) (22 : Int32).toNatClampNeg))).toNatClampNeg x0) (22 : Int32).toNatClampNeg))).toNatClampNeg x1) (22 : Int32).toNatClampNeg) + 1)))) H := hP
          have hD : va_D A (Model_c E a (Model_s_s v (upd (upd (upd (Model_s v) ((69 + ((Model_s v) (22 : Int32).toNatClampNeg))).toNatClampNeg x0) ((74 + ((upd (Model_s v) ((69 + ((Model_s v) (22 : Int32).toNatClampNeg))).toNatClampNeg x0) (22 : Int32).toNatClampNeg))).toNatClampNeg x1) (22 : Int32).toNatClampNeg (((upd (upd (Model_s v) ((69 + ((Model_s v) (22 : Int32).toNatClampNeg))).toNatClampNeg x0) ((74 + ((upd (Model_s v) ((69 + ((Model_s v) (22 : Int32).toNatClampNeg))).toNatClampNeg x0) (22 : Int32).toNatClampNeg))).toNatClampNeg x1) (22 : Int32).toNatClampNeg) + 1)))) := hD
          refine lv_aload_n hx hb dX8_see_95 rfl (lv_at hl 0 rfl) ?_
          refine va_get (D := E.1) (ci := 8) (v := .ref (Modela_s a)) (C := RX8) (T := TX8) (N := 20) hx hb hts k2 hown hK hP 0 rfl rfl 1 (by decide) k1 (fun _ h9 => h9) rfl dX8_see_96 ?_
          refine lv_bipush (v := 22) hx hb dX8_see_99 (by decide) ?_
          obtain ⟨h14, hF⟩ := m_chk hF
          refine va_iald (f := (upd (upd (upd (Model_s v) ((69 + ((Model_s v) (22 : Int32).toNatClampNeg))).toNatClampNeg x0) ((74 + ((upd (Model_s v) ((69 + ((Model_s v) (22 : Int32).toNatClampNeg))).toNatClampNeg x0) (22 : Int32).toNatClampNeg))).toNatClampNeg x1) (22 : Int32).toNatClampNeg (((upd (upd (Model_s v) ((69 + ((Model_s v) (22 : Int32).toNatClampNeg))).toNatClampNeg x0) ((74 + ((upd (Model_s v) ((69 + ((Model_s v) (22 : Int32).toNatClampNeg))).toNatClampNeg x0) (22 : Int32).toNatClampNeg))).toNatClampNeg x1) (22 : Int32).toNatClampNeg) + 1))) hx hb hK hP 1 1 rfl rfl (mIn_ok h14) dX8_see_101 ?_
          refine W.eq (g2 := F0 m 102 ls [.int ((upd (upd (upd (Model_s v) ((69 + ((Model_s v) (22 : Int32).toNatClampNeg))).toNatClampNeg x0) ((74 + ((upd (Model_s v) ((69 + ((Model_s v) (22 : Int32).toNatClampNeg))).toNatClampNeg x0) (22 : Int32).toNatClampNeg))).toNatClampNeg x1) (22 : Int32).toNatClampNeg (((upd (upd (Model_s v) ((69 + ((Model_s v) (22 : Int32).toNatClampNeg))).toNatClampNeg x0) ((74 + ((upd (Model_s v) ((69 + ((Model_s v) (22 : Int32).toNatClampNeg))).toNatClampNeg x0) (22 : Int32).toNatClampNeg))).toNatClampNeg x1) (22 : Int32).toNatClampNeg) + 1)) (22 : Int32).toNatClampNeg)]) rfl ?_
          have hF := Option.some.inj hF
          subst hF
          rw [hQ]
          exact W.iret hx hb hr (fun t ht _ => ⟨⟨rfl, by rw [ht]; exact hP, hD⟩, hS.F ht⟩) hS.2.2 dX8_see_102
        · have hF := m_neg (fun n9 => n9 c7) hF
          refine lv_bipush (v := (-4)) hx hb dX8_see_49 (by decide) ?_
          have hF := Option.some.inj hF
          subst hF
          rw [hQ]
          exact W.iret hx hb hr (fun t ht _ => ⟨⟨rfl, by rw [ht]; exact hP, hD⟩, hS.F ht⟩) hS.2.2 dX8_see_51
      · have hF := m_neg (fun n9 => n9 c5) hF
        refine lv_bipush (v := (-2)) hx hb dX8_see_35 (by decide) ?_
        have hF := Option.some.inj hF
        subst hF
        rw [hQ]
        exact W.iret hx hb hr (fun t ht _ => ⟨⟨rfl, by rw [ht]; exact hP, hD⟩, hS.F ht⟩) hS.2.2 dX8_see_37
  · have hF := m_neg (fun n9 => n9 c1) hF
    refine lv_aload_n hx hb dX8_see_5 rfl (lv_at hl 0 rfl) ?_
    refine va_get (D := E.1) (ci := 8) (v := .ref (Modela_s a)) (C := RX8) (T := TX8) (N := 20) hx hb hts k2 hown hK hP 0 rfl rfl 1 (by decide) k1 (fun _ h9 => h9) rfl dX8_see_6 ?_
    refine lv_bipush (v := 22) hx hb dX8_see_9 (by decide) ?_
    refine lv_iconst (v := 0) hx hb dX8_see_11 (by decide) ?_
    obtain ⟨h15, hF⟩ := m_chk hF
    refine va_iast (f := (Model_s v)) hx hb hK hP hD hS 1 1 rfl rfl (mIn_ok h15) dX8_see_12 (fun H locs hP hD hS => ?_)
    have hP : va_P E.1 vwCl (Model_c E a (Model_s_s v (upd (Model_s v) (22 : Int32).toNatClampNeg 0))) H := hP
    have hD : va_D A (Model_c E a (Model_s_s v (upd (Model_s v) (22 : Int32).toNatClampNeg 0))) := hD
    refine lv_iconst (v := 0) hx hb dX8_see_13 (by decide) ?_
    have hF := Option.some.inj hF
    subst hF
    rw [hQ]
    exact W.iret hx hb hr (fun t ht _ => ⟨⟨rfl, by rw [ht]; exact hP, hD⟩, hS.F ht⟩) hS.2.2 dX8_see_14

abbrev rmX8_isAsSeen : Room := { frames := 1, cells := 0, slots := 0, locals := 20 }
set_option maxRecDepth 100000 in
set_option maxHeartbeats 400000 in
theorem c_X8_isAsSeen (l : Launch) (E : mE) (a : ModelA) (v : ModelV) (x0 : Int32) (t : Int32) (hF : fn_X8_isAsSeen v x0 = some t) : Met l yX8_isAsSeen wsX8_isAsSeen rmX8_isAsSeen (mPp E [.ref (Modela_self a), .int x0] (Model_c E a v)) (mSp (some (.int t))) 0 0 (fun _ => False) := by
  refine mOfP (cc := cX8_isAsSeen) (maxL := 4) (ret := (some .boolean)) (by decide) rfl (Nat.le_of_ble_eq_true rfl) ?_
  intro p e_ s m args below meth c Q hQ CC hr hlocks hP hKN hGl ls hl
  have hS : va_S (fun _ => False) s.heap s.heap [] := va_S.rf
  have hK := hKN.1
  have hx := CC.1
  have hb := CC.2.1
  have hml := CC.2.2.1
  have hown : s.vm.findClass RX8 = some m.cls := CC.2.2.2.1
  have hts := CC.2.2.2.2
  have hl : lv_has ls 4 [(0, .ref (Modela_self a)), (1, .int x0)] := hl
  have k0 := hts (.fieldLink RX8 9 "OneDidAllModel" "s" "[I") (by decide +kernel)
  have k1 := (show ∀ w ∈ u_ws RX8 TX8 20, w ∈ wsX8_isAsSeen by decide +kernel)
  unfold fn_X8_isAsSeen at hF
  refine lv_iconst (v := 1) hx hb dX8_isAsSeen_0 (by decide) ?_
  refine lv_istore_n (lv' := [(2, .int 1), (0, .ref (Modela_self a)), (1, .int x0)]) hx hb dX8_isAsSeen_1 rfl hl (by decide) rfl (fun ls hl => ?_)
  refine lv_iconst (v := 0) hx hb dX8_isAsSeen_2 (by decide) ?_
  refine lv_istore_n (lv' := [(3, .int 0), (2, .int 1), (0, .ref (Modela_self a)), (1, .int x0)]) hx hb dX8_isAsSeen_3 rfl hl (by decide) rfl (fun ls hl => ?_)
  have hL4 : ∀ (n : Nat) (y2_4 : Int32) (y3_4 : Int32) (ls : Array Slot), lp_X8_isAsSeen_4 v x0 n y2_4 y3_4 = some t → lv_has ls 4 [(0, .ref (Modela_self a)), (1, .int x0), (2, .int y2_4), (3, .int y3_4)] → W p l e_ rmX8_isAsSeen s m args below meth c s.heap [] 0 0 Q (F0 m 4 ls []) := by
    intro n
    induction n with
    | zero =>
      intro y2_4 y3_4 ls hF
      exact nomatch (show (none : Option Int32) = some t from hF)
    | succ n ih4 =>
      intro y2_4 y3_4 ls hF hl
      have hF : st_X8_isAsSeen_4 v x0 (lp_X8_isAsSeen_4 v x0 n) y2_4 y3_4 = some t := hF
      unfold st_X8_isAsSeen_4 at hF
      refine lv_iload_n hx hb dX8_isAsSeen_4 rfl (lv_at hl 3 rfl) ?_
      refine lv_aload_n hx hb dX8_isAsSeen_5 rfl (lv_at hl 0 rfl) ?_
      refine va_get (D := E.1) (ci := 8) (v := .ref (Modela_s a)) (C := RX8) (T := TX8) (N := 20) hx hb hts k1 hown hK hP 0 rfl rfl 1 (by decide) k0 (fun _ h9 => h9) rfl dX8_isAsSeen_6 ?_
      refine lv_bipush (v := 22) hx hb dX8_isAsSeen_9 (by decide) ?_
      obtain ⟨h1, hF⟩ := m_chk hF
      refine va_iald (f := (Model_s v)) hx hb hK hP 1 1 rfl rfl (mIn_ok h1) dX8_isAsSeen_11 ?_
      refine W.eq (g2 := F0 m 12 ls [.int ((Model_s v) (22 : Int32).toNatClampNeg), .int y3_4]) rfl ?_
      refine lv_icmp_ge (tgt := 60) hx hb dX8_isAsSeen_12 (by decide) (fun c2 => ?_) (fun c2 => ?_)
      · have hF := m_pos c2 hF
        refine lv_iload_n hx hb dX8_isAsSeen_60 rfl (lv_at hl 2 rfl) ?_
        obtain ⟨h3, hF⟩ := m_chk hF
        have hF := Option.some.inj hF
        subst hF
        rw [hQ]
        exact W.zret hx hb hr (mBit_nar h3) (fun t ht _ => ⟨rfl, ht⟩) (fun _ h => by cases h) dX8_isAsSeen_61
      · have hF := m_neg c2 hF
        refine lv_iload_n hx hb dX8_isAsSeen_15 rfl (lv_at hl 2 rfl) ?_
        obtain ⟨j53, hjd53, hF⟩ := m_jp hF
        have hj53 : ∀ (z0_53 : Int32) (ls : Array Slot), j53 z0_53 = some t → lv_has ls 4 [(0, .ref (Modela_self a)), (1, .int x0), (3, .int y3_4)] → W p l e_ rmX8_isAsSeen s m args below meth c s.heap [] 0 0 Q (F0 m 53 ls [.int z0_53]) := by
          intro z0_53 ls hF hl
          rw [hjd53] at hF
          refine lv_istore_n (lv' := [(2, .int z0_53), (0, .ref (Modela_self a)), (1, .int x0), (3, .int y3_4)]) hx hb dX8_isAsSeen_53 rfl hl (by decide) rfl (fun ls hl => ?_)
          refine lv_iinc (v := (y3_4 + 1)) (lv' := [(3, .int (y3_4 + 1)), (2, .int z0_53), (0, .ref (Modela_self a)), (1, .int x0)]) hx hb dX8_isAsSeen_54 hl (k := 3) rfl rfl (by decide) rfl (fun ls hl => ?_)
          refine lv_goto (tgt := 4) hx hb dX8_isAsSeen_57 (by decide) ?_
          exact ih4 z0_53 (y3_4 + 1) ls hF (lv_sub hl [2, 3, 1, 0] rfl)
        clear hjd53
        obtain ⟨j52, hjd52, hF⟩ := m_jp hF
        have hj52 : ∀ (ls : Array Slot), j52 () = some t → lv_has ls 4 [(0, .ref (Modela_self a)), (1, .int x0), (3, .int y3_4)] → W p l e_ rmX8_isAsSeen s m args below meth c s.heap [] 0 0 Q (F0 m 52 ls []) := by
          intro ls hF hl
          rw [hjd52] at hF
          refine lv_iconst (v := 0) hx hb dX8_isAsSeen_52 (by decide) ?_
          exact hj53 0 ls hF (lv_sub hl [0, 1, 2] rfl)
        clear hjd52
        refine lv_if_eq (tgt := 52) hx hb dX8_isAsSeen_16 (by decide) (fun c4 => ?_) (fun c4 => ?_)
        · have hF := m_pos c4 hF
          exact hj52 ls hF (lv_sub hl [0, 1, 3] rfl)
        · have hF := m_neg c4 hF
          refine lv_aload_n hx hb dX8_isAsSeen_19 rfl (lv_at hl 0 rfl) ?_
          refine va_get (D := E.1) (ci := 8) (v := .ref (Modela_s a)) (C := RX8) (T := TX8) (N := 20) hx hb hts k1 hown hK hP 0 rfl rfl 1 (by decide) k0 (fun _ h9 => h9) rfl dX8_isAsSeen_20 ?_
          refine lv_bipush (v := 74) hx hb dX8_isAsSeen_23 (by decide) ?_
          refine lv_iload_n hx hb dX8_isAsSeen_25 rfl (lv_at hl 3 rfl) ?_
          refine lv_iadd hx hb dX8_isAsSeen_26 ?_
          obtain ⟨h5, hF⟩ := m_chk hF
          refine va_iald (f := (Model_s v)) hx hb hK hP 1 1 rfl rfl (mIn_ok h5) dX8_isAsSeen_27 ?_
          refine W.eq (g2 := F0 m 28 ls [.int ((Model_s v) ((74 + y3_4)).toNatClampNeg)]) rfl ?_
          refine lv_iload_n hx hb dX8_isAsSeen_28 rfl (lv_at hl 1 rfl) ?_
          obtain ⟨j48, hjd48, hF⟩ := m_jp hF
          have hj48 : ∀ (ls : Array Slot), j48 () = some t → lv_has ls 4 [(0, .ref (Modela_self a)), (1, .int x0), (3, .int y3_4)] → W p l e_ rmX8_isAsSeen s m args below meth c s.heap [] 0 0 Q (F0 m 48 ls []) := by
            intro ls hF hl
            rw [hjd48] at hF
            refine lv_iconst (v := 1) hx hb dX8_isAsSeen_48 (by decide) ?_
            refine lv_goto (tgt := 53) hx hb dX8_isAsSeen_49 (by decide) ?_
            exact hj53 1 ls hF (lv_sub hl [0, 1, 2] rfl)
          clear hjd48
          refine lv_icmp_ne (tgt := 48) hx hb dX8_isAsSeen_29 (by decide) (fun c6 => ?_) (fun c6 => ?_)
          · have hF := m_pos c6 hF
            exact hj48 ls hF (lv_sub hl [0, 1, 3] rfl)
          · have hF := m_neg (fun n9 => n9 c6) hF
            refine lv_aload_n hx hb dX8_isAsSeen_32 rfl (lv_at hl 0 rfl) ?_
            obtain ⟨t7, ht7, hF⟩ := m_bnd hF
            refine mVP (ci := 8) (n := 0) (rest := []) (As := []) CC hKN hGl hS (c_X8_workMore l E a v t7 ht7) gX8_isAsSeen_X8_workMore rfl ⟨rfl, rfl⟩ (by decide +kernel) ⟨Nat.le_of_ble_eq_true rfl, Nat.le_of_ble_eq_true rfl⟩ hP rfl rfl rfl rfl hl.1 rfl (Nat.le_of_ble_eq_true rfl) ⟨Nat.zero_le _, Nat.zero_le _⟩ dX8_isAsSeen_33 ?_
            refine W.eq (g2 := F0 m 36 ls [.int t7]) rfl ?_
            refine lv_aload_n hx hb dX8_isAsSeen_36 rfl (lv_at hl 0 rfl) ?_
            refine va_get (D := E.1) (ci := 8) (v := .ref (Modela_s a)) (C := RX8) (T := TX8) (N := 20) hx hb hts k1 hown hK hP 0 rfl rfl 1 (by decide) k0 (fun _ h9 => h9) rfl dX8_isAsSeen_37 ?_
            refine lv_bipush (v := 69) hx hb dX8_isAsSeen_40 (by decide) ?_
            refine lv_iload_n hx hb dX8_isAsSeen_42 rfl (lv_at hl 3 rfl) ?_
            refine lv_iadd hx hb dX8_isAsSeen_43 ?_
            obtain ⟨h8, hF⟩ := m_chk hF
            refine va_iald (f := (Model_s v)) hx hb hK hP 1 1 rfl rfl (mIn_ok h8) dX8_isAsSeen_44 ?_
            refine W.eq (g2 := F0 m 45 ls [.int ((Model_s v) ((69 + y3_4)).toNatClampNeg), .int t7]) rfl ?_
            refine lv_icmp_ne (tgt := 52) hx hb dX8_isAsSeen_45 (by decide) (fun c9 => ?_) (fun c9 => ?_)
            · have hF := m_pos c9 hF
              exact hj52 ls hF (lv_sub hl [0, 1, 3] rfl)
            · have hF := m_neg (fun n9 => n9 c9) hF
              exact hj48 ls hF (lv_sub hl [0, 1, 3] rfl)
  exact hL4 m_N 1 0 ls hF (lv_sub hl [2, 3, 1, 0] rfl)

abbrev rmX8_areAsSeen : Room := { frames := 5, cells := 0, slots := 0, locals := 120 }
set_option maxRecDepth 100000 in
set_option maxHeartbeats 400000 in
theorem c_X8_areAsSeen (l : Launch) (E : mE) (a : ModelA) (v : ModelV) (t : (Int32 × ModelV)) (hF : fn_X8_areAsSeen v = some t) (sz : Nat) : Met l yX8_areAsSeen wsX8_areAsSeen rmX8_areAsSeen (mPm E [.ref (Modela_self a)] sz ((Model_c E a v)) (([] : va_W))) (mSm E (some (.int t.1)) ((Model_c E a t.2)) (va_A ((Model_c E a v)) sz)) 0 0 (va_A ((Model_c E a v)) sz) := by
  refine mOfM (cc := cX8_areAsSeen) (maxL := 3) (ret := (some .boolean)) (by decide) rfl (Nat.le_of_ble_eq_true rfl) ?_
  intro p e_ s m args below meth c Q A hQ CC hr hlocks hin hA hP hD hKN hGl hR0 hRA ls hl
  have hS : va_S A s.heap s.heap [] := va_S.rf
  have hK := hKN.1
  have hx := CC.1
  have hb := CC.2.1
  have hml := CC.2.2.1
  have hown : s.vm.findClass RX8 = some m.cls := CC.2.2.2.1
  have hts := CC.2.2.2.2
  have hl : lv_has ls 3 [(0, .ref (Modela_self a))] := hl
  have hP : va_P E.1 vwCl (Model_c E a v) s.heap := hP
  obtain ⟨H, hH⟩ : ∃ H, H = s.heap := ⟨_, rfl⟩
  obtain ⟨locs, hlc⟩ : ∃ z : List Loc, z = [] := ⟨_, rfl⟩
  rw [← hH] at hP
  rw [← hlc] at hS
  have hS : va_S A s.heap H locs := by rw [hH]; exact hS
  rw [← hH, ← hlc]
  unfold fn_X8_areAsSeen at hF
  refine lv_aload_n hx hb dX8_areAsSeen_0 rfl (lv_at hl 0 rfl) ?_
  obtain ⟨t1, ht1, hF⟩ := m_bnd hF
  have hPc := hP
  have hDc := hD
  have hFc := va_free (wc := (Model_c E a v)) hD hS hA [0, 1, 2, 3, 4, 5, 6, 7] rfl
  refine mVM (ci := 8) (n := 0) (rest := []) (As := []) CC hKN hGl (c_X8_keeps l E a v t1 ht1 _) gX8_areAsSeen_X8_keeps rfl ⟨rfl, rfl⟩ (by decide +kernel) ⟨Nat.le_of_ble_eq_true rfl, Nat.le_of_ble_eq_true rfl⟩ hPc hDc m_nil m_nilA hS hFc rfl rfl rfl rfl hl.1 rfl (Nat.le_of_ble_eq_true rfl) ⟨Nat.zero_le _, Nat.zero_le _⟩ dX8_areAsSeen_1 (fun H1 locs hP1 hD1 hz1 hk1 hS => ?_)
  have hP : va_P E.1 vwCl (Model_c E a t1) H1 := hP1
  have hD : va_D A (Model_c E a t1) := m_back hD1 hFc
  generalize H1 = H at hP hS ⊢
  refine W.eq (g2 := F0 m 4 ls []) rfl ?_
  refine lv_iconst (v := 1) hx hb dX8_areAsSeen_4 (by decide) ?_
  refine lv_istore_n (lv' := [(1, .int 1), (0, .ref (Modela_self a))]) hx hb dX8_areAsSeen_5 rfl hl (by decide) rfl (fun ls hl => ?_)
  refine lv_iconst (v := 0) hx hb dX8_areAsSeen_6 (by decide) ?_
  refine lv_istore_n (lv' := [(2, .int 0), (1, .int 1), (0, .ref (Modela_self a))]) hx hb dX8_areAsSeen_7 rfl hl (by decide) rfl (fun ls hl => ?_)
  obtain ⟨j34, hjd34, hF⟩ := m_jp hF
  have hj34 : ∀ (x1_34 : Int32) (wx_34 : ModelV) (H : Heap) (locs : List Loc) (ls : Array Slot), j34 x1_34 wx_34 = some t → va_P E.1 vwCl (Model_c E a wx_34) H → va_D A (Model_c E a wx_34) → va_S A s.heap H locs → lv_has ls 3 [(0, .ref (Modela_self a)), (1, .int x1_34)] → W p l e_ rmX8_areAsSeen s m args below meth c H locs 0 0 Q (F0 m 34 ls []) := by
    intro x1_34 wx_34 H locs ls hF hP hD hS hl
    rw [hjd34] at hF
    refine lv_aload_n hx hb dX8_areAsSeen_34 rfl (lv_at hl 0 rfl) ?_
    obtain ⟨t2, ht2, hF⟩ := m_bnd hF
    have hPc := hP
    have hDc := hD
    have hFc := va_free (wc := (Model_c E a wx_34)) hD hS hA [0, 1, 2, 3, 4, 5, 6, 7] rfl
    refine mVM (ci := 8) (n := 0) (rest := []) (As := []) CC hKN hGl (c_X8_goesBack l E a wx_34 t2 ht2 _) gX8_areAsSeen_X8_goesBack rfl ⟨rfl, rfl⟩ (by decide +kernel) ⟨Nat.le_of_ble_eq_true rfl, Nat.le_of_ble_eq_true rfl⟩ hPc hDc m_nil m_nilA hS hFc rfl rfl rfl rfl hl.1 rfl (Nat.le_of_ble_eq_true rfl) ⟨Nat.zero_le _, Nat.zero_le _⟩ dX8_areAsSeen_35 (fun H1 locs hP1 hD1 hz1 hk1 hS => ?_)
    have hP : va_P E.1 vwCl (Model_c E a t2) H1 := hP1
    have hD : va_D A (Model_c E a t2) := m_back hD1 hFc
    generalize H1 = H at hP hS ⊢
    refine W.eq (g2 := F0 m 38 ls []) rfl ?_
    refine lv_iload_n hx hb dX8_areAsSeen_38 rfl (lv_at hl 1 rfl) ?_
    obtain ⟨h3, hF⟩ := m_chk hF
    have hF := Option.some.inj hF
    subst hF
    rw [hQ]
    exact W.zret hx hb hr (mBit_nar h3) (fun t ht _ => ⟨⟨rfl, by rw [ht]; exact hP, hD⟩, hS.F ht⟩) hS.2.2 dX8_areAsSeen_39
  clear hjd34
  have hL8 : ∀ (n : Nat) (y1_8 : Int32) (y2_8 : Int32) (wy_8 : ModelV) (H : Heap) (locs : List Loc) (ls : Array Slot), lp_X8_areAsSeen_8 j34 n y1_8 y2_8 wy_8 = some t → va_P E.1 vwCl (Model_c E a wy_8) H → va_D A (Model_c E a wy_8) → va_S A s.heap H locs → lv_has ls 3 [(0, .ref (Modela_self a)), (1, .int y1_8), (2, .int y2_8)] → W p l e_ rmX8_areAsSeen s m args below meth c H locs 0 0 Q (F0 m 8 ls []) := by
    intro n
    induction n with
    | zero =>
      intro y1_8 y2_8 wy_8 H locs ls hF
      exact nomatch (show (none : Option (Int32 × ModelV)) = some t from hF)
    | succ n ih8 =>
      intro y1_8 y2_8 wy_8 H locs ls hF hP hD hS hl
      have hF : st_X8_areAsSeen_8 j34 (lp_X8_areAsSeen_8 j34 n) y1_8 y2_8 wy_8 = some t := hF
      unfold st_X8_areAsSeen_8 at hF
      refine lv_iload_n hx hb dX8_areAsSeen_8 rfl (lv_at hl 2 rfl) ?_
      refine lv_bipush (v := 20) hx hb dX8_areAsSeen_9 (by decide) ?_
      refine lv_icmp_gt (tgt := 34) hx hb dX8_areAsSeen_11 (by decide) (fun c4 => ?_) (fun c4 => ?_)
      · have hF := m_pos c4 hF
        exact hj34 y1_8 wy_8 H locs ls hF hP hD hS (lv_sub hl [0, 1] rfl)
      · have hF := m_neg c4 hF
        refine lv_iload_n hx hb dX8_areAsSeen_14 rfl (lv_at hl 1 rfl) ?_
        refine lv_if_eq (tgt := 34) hx hb dX8_areAsSeen_15 (by decide) (fun c5 => ?_) (fun c5 => ?_)
        · have hF := m_pos c5 hF
          exact hj34 y1_8 wy_8 H locs ls hF hP hD hS (lv_sub hl [0, 1] rfl)
        · have hF := m_neg c5 hF
          refine lv_aload_n hx hb dX8_areAsSeen_18 rfl (lv_at hl 0 rfl) ?_
          refine lv_iload_n hx hb dX8_areAsSeen_19 rfl (lv_at hl 2 rfl) ?_
          obtain ⟨t6, ht6, hF⟩ := m_bnd hF
          refine mVP (ci := 8) (n := 1) (rest := []) (As := [.int y2_8]) CC hKN hGl hS (c_X8_isAsSeen l E a wy_8 y2_8 t6 ht6) gX8_areAsSeen_X8_isAsSeen rfl ⟨rfl, rfl⟩ (by decide +kernel) ⟨Nat.le_of_ble_eq_true rfl, Nat.le_of_ble_eq_true rfl⟩ hP rfl rfl rfl rfl hl.1 rfl (Nat.le_of_ble_eq_true rfl) ⟨Nat.zero_le _, Nat.zero_le _⟩ dX8_areAsSeen_20 ?_
          refine W.eq (g2 := F0 m 23 ls [.int t6]) rfl ?_
          refine lv_istore_n (lv' := [(1, .int t6), (0, .ref (Modela_self a)), (2, .int y2_8)]) hx hb dX8_areAsSeen_23 rfl hl (by decide) rfl (fun ls hl => ?_)
          refine lv_aload_n hx hb dX8_areAsSeen_24 rfl (lv_at hl 1 rfl) ?_
          obtain ⟨t7, ht7, hF⟩ := m_bnd hF
          have hPc := hP
          have hDc := hD
          have hFc := va_free (wc := (Model_c E a wy_8)) hD hS hA [0, 1, 2, 3, 4, 5, 6, 7] rfl
          refine mVM (ci := 8) (n := 0) (rest := []) (As := []) CC hKN hGl (c_X8_goes l E a wy_8 t7 ht7 _) gX8_areAsSeen_X8_goes rfl ⟨rfl, rfl⟩ (by decide +kernel) ⟨Nat.le_of_ble_eq_true rfl, Nat.le_of_ble_eq_true rfl⟩ hPc hDc m_nil m_nilA hS hFc rfl rfl rfl rfl hl.1 rfl (Nat.le_of_ble_eq_true rfl) ⟨Nat.zero_le _, Nat.zero_le _⟩ dX8_areAsSeen_25 (fun H1 locs hP1 hD1 hz1 hk1 hS => ?_)
          have hP : va_P E.1 vwCl (Model_c E a t7) H1 := hP1
          have hD : va_D A (Model_c E a t7) := m_back hD1 hFc
          generalize H1 = H at hP hS ⊢
          refine W.eq (g2 := F0 m 28 ls []) rfl ?_
          refine lv_iinc (v := (y2_8 + 1)) (lv' := [(2, .int (y2_8 + 1)), (1, .int t6), (0, .ref (Modela_self a))]) hx hb dX8_areAsSeen_28 hl (k := 2) rfl rfl (by decide) rfl (fun ls hl => ?_)
          refine lv_goto (tgt := 8) hx hb dX8_areAsSeen_31 (by decide) ?_
          exact ih8 t6 (y2_8 + 1) t7 H locs ls hF hP hD hS (lv_sub hl [2, 1, 0] rfl)
  exact hL8 m_N 1 0 t1 H locs ls hF hP hD hS (lv_sub hl [2, 1, 0] rfl)

abbrev rmX8_looksForFitting : Room := { frames := 6, cells := 0, slots := 0, locals := 142 }
set_option maxRecDepth 100000 in
set_option maxHeartbeats 400000 in
theorem c_X8_looksForFitting (l : Launch) (E : mE) (a : ModelA) (v : ModelV) (x0 : Int32) (x1 : Int32) (x2 : Int32) (t : ModelV) (hF : fn_X8_looksForFitting v x0 x1 x2 = some t) (sz : Nat) : Met l yX8_looksForFitting wsX8_looksForFitting rmX8_looksForFitting (mPm E [.ref (Modela_self a), .int x0, .int x1, .int x2] sz ((Model_c E a v)) (([] : va_W))) (mSm E (none) ((Model_c E a t)) (va_A ((Model_c E a v)) sz)) 0 0 (va_A ((Model_c E a v)) sz) := by
  refine mOfM (cc := cX8_looksForFitting) (maxL := 7) (ret := none) (by decide) rfl (Nat.le_of_ble_eq_true rfl) ?_
  intro p e_ s m args below meth c Q A hQ CC hr hlocks hin hA hP hD hKN hGl hR0 hRA ls hl
  have hS : va_S A s.heap s.heap [] := va_S.rf
  have hK := hKN.1
  have hx := CC.1
  have hb := CC.2.1
  have hml := CC.2.2.1
  have hown : s.vm.findClass RX8 = some m.cls := CC.2.2.2.1
  have hts := CC.2.2.2.2
  have hl : lv_has ls 7 [(0, .ref (Modela_self a)), (1, .int x0), (2, .int x1), (3, .int x2)] := hl
  have k0 := hts (.fieldLink RX8 9 "OneDidAllModel" "s" "[I") (by decide +kernel)
  have k1 := (show ∀ w ∈ u_ws RX8 TX8 20, w ∈ wsX8_looksForFitting by decide +kernel)
  have k2 := hts (.fieldLink RX8 235 "OneDidAllModel" "fitting" "I") (by decide +kernel)
  have k3 := hts (.fieldLink RX8 238 "OneDidAllModel" "firstFitting" "I") (by decide +kernel)
  have hP : va_P E.1 vwCl (Model_c E a v) s.heap := hP
  obtain ⟨H, hH⟩ : ∃ H, H = s.heap := ⟨_, rfl⟩
  obtain ⟨locs, hlc⟩ : ∃ z : List Loc, z = [] := ⟨_, rfl⟩
  rw [← hH] at hP
  rw [← hlc] at hS
  have hS : va_S A s.heap H locs := by rw [hH]; exact hS
  rw [← hH, ← hlc]
  unfold fn_X8_looksForFitting at hF
  refine lv_aload_n hx hb dX8_looksForFitting_0 rfl (lv_at hl 0 rfl) ?_
  refine va_get (D := E.1) (ci := 8) (v := .ref (Modela_s a)) (C := RX8) (T := TX8) (N := 20) hx hb hts k1 hown hK hP 0 rfl rfl 1 (by decide) k0 (fun _ h9 => h9) rfl dX8_looksForFitting_1 ?_
  refine lv_iload_n hx hb dX8_looksForFitting_4 rfl (lv_at hl 1 rfl) ?_
  obtain ⟨h1, hF⟩ := m_chk hF
  refine va_iald (f := (Model_s v)) hx hb hK hP 1 1 rfl rfl (mIn_ok h1) dX8_looksForFitting_5 ?_
  refine W.eq (g2 := F0 m 6 ls [.int ((Model_s v) (x0).toNatClampNeg)]) rfl ?_
  refine lv_istore (lv' := [(4, .int ((Model_s v) (x0).toNatClampNeg)), (0, .ref (Modela_self a)), (1, .int x0), (2, .int x1), (3, .int x2)]) hx hb dX8_looksForFitting_6 hl (by decide) rfl (fun ls hl => ?_)
  refine lv_aload_n hx hb dX8_looksForFitting_8 rfl (lv_at hl 1 rfl) ?_
  refine lv_iconst (v := 0) hx hb dX8_looksForFitting_9 (by decide) ?_
  refine va_put (D := E.1) (ci := 8) (v := .int 0) (ty := .int) (C := RX8) (T := TX8) (N := 20) hx hb hts k1 tyX8 tyX8_ok nmX8 hown hK hP hD hS 0 rfl rfl 13 (by decide) k2 (fun _ h9 => h9) rfl (by decide +kernel) rfl rfl (Nat.le_of_ble_eq_true rfl) dX8_looksForFitting_10 (fun H locs hP hD hS => ?_)
  have hP : va_P E.1 vwCl (Model_c E a (Model_fitting_s v 0)) H := hP
  have hD : va_D A (Model_c E a (Model_fitting_s v 0)) := hD
  refine lv_aload_n hx hb dX8_looksForFitting_13 rfl (lv_at hl 1 rfl) ?_
  refine lv_bipush (v := (-5)) hx hb dX8_looksForFitting_14 (by decide) ?_
  refine va_put (D := E.1) (ci := 8) (v := .int (-5)) (ty := .int) (C := RX8) (T := TX8) (N := 20) hx hb hts k1 tyX8 tyX8_ok nmX8 hown hK hP hD hS 0 rfl rfl 14 (by decide) k3 (fun _ h9 => h9) rfl (by decide +kernel) rfl rfl (Nat.le_of_ble_eq_true rfl) dX8_looksForFitting_16 (fun H locs hP hD hS => ?_)
  have hP : va_P E.1 vwCl (Model_c E a (Model_firstFitting_s (Model_fitting_s v 0) (-5))) H := hP
  have hD : va_D A (Model_c E a (Model_firstFitting_s (Model_fitting_s v 0) (-5))) := hD
  refine lv_iload_n hx hb dX8_looksForFitting_19 rfl (lv_at hl 4 rfl) ?_
  refine lv_istore (lv' := [(5, .int x2), (4, .int ((Model_s v) (x0).toNatClampNeg)), (0, .ref (Modela_self a)), (1, .int x0), (2, .int x1), (3, .int x2)]) hx hb dX8_looksForFitting_20 hl (by decide) rfl (fun ls hl => ?_)
  obtain ⟨j85, hjd85, hF⟩ := m_jp hF
  have hj85 : ∀ (wx_85 : ModelV) (H : Heap) (locs : List Loc) (ls : Array Slot), j85 wx_85 = some t → va_P E.1 vwCl (Model_c E a wx_85) H → va_D A (Model_c E a wx_85) → va_S A s.heap H locs → lv_has ls 7 [(0, .ref (Modela_self a)), (1, .int x0), (4, .int ((Model_s v) (x0).toNatClampNeg))] → W p l e_ rmX8_looksForFitting s m args below meth c H locs 0 0 Q (F0 m 85 ls []) := by
    intro wx_85 H locs ls hF hP hD hS hl
    rw [hjd85] at hF
    refine lv_aload_n hx hb dX8_looksForFitting_85 rfl (lv_at hl 0 rfl) ?_
    refine va_get (D := E.1) (ci := 8) (v := .ref (Modela_s a)) (C := RX8) (T := TX8) (N := 20) hx hb hts k1 hown hK hP 0 rfl rfl 1 (by decide) k0 (fun _ h9 => h9) rfl dX8_looksForFitting_86 ?_
    refine lv_iload_n hx hb dX8_looksForFitting_89 rfl (lv_at hl 1 rfl) ?_
    refine lv_iload hx hb dX8_looksForFitting_90 (lv_at hl 2 rfl) ?_
    obtain ⟨h2, hF⟩ := m_chk hF
    refine va_iast (f := (Model_s wx_85)) hx hb hK hP hD hS 1 1 rfl rfl (mIn_ok h2) dX8_looksForFitting_92 (fun H locs hP hD hS => ?_)
    have hP : va_P E.1 vwCl (Model_c E a (Model_s_s wx_85 (upd (Model_s wx_85) (x0).toNatClampNeg ((Model_s v) (x0).toNatClampNeg)))) H := hP
    have hD : va_D A (Model_c E a (Model_s_s wx_85 (upd (Model_s wx_85) (x0).toNatClampNeg ((Model_s v) (x0).toNatClampNeg)))) := hD
    have hF := Option.some.inj hF
    subst hF
    rw [hQ]
    exact W.vret hx hb hr (fun t ht _ => ⟨⟨rfl, by rw [ht]; exact hP, hD⟩, hS.F ht⟩) hS.2.2 dX8_looksForFitting_93
  clear hjd85
  have hL22 : ∀ (n : Nat) (y5_22 : Int32) (wy_22 : ModelV) (H : Heap) (locs : List Loc) (ls : Array Slot), lp_X8_looksForFitting_22 x0 x1 j85 n y5_22 wy_22 = some t → va_P E.1 vwCl (Model_c E a wy_22) H → va_D A (Model_c E a wy_22) → va_S A s.heap H locs → lv_has ls 7 [(0, .ref (Modela_self a)), (1, .int x0), (2, .int x1), (4, .int ((Model_s v) (x0).toNatClampNeg)), (5, .int y5_22)] → W p l e_ rmX8_looksForFitting s m args below meth c H locs 0 0 Q (F0 m 22 ls []) := by
    intro n
    induction n with
    | zero =>
      intro y5_22 wy_22 H locs ls hF
      exact nomatch (show (none : Option ModelV) = some t from hF)
    | succ n ih22 =>
      intro y5_22 wy_22 H locs ls hF hP hD hS hl
      have hF : st_X8_looksForFitting_22 x0 x1 j85 (lp_X8_looksForFitting_22 x0 x1 j85 n) y5_22 wy_22 = some t := hF
      unfold st_X8_looksForFitting_22 at hF
      refine lv_iload hx hb dX8_looksForFitting_22 (lv_at hl 4 rfl) ?_
      refine lv_iload_n hx hb dX8_looksForFitting_24 rfl (lv_at hl 2 rfl) ?_
      refine lv_icmp_lt (tgt := 85) hx hb dX8_looksForFitting_25 (by decide) (fun c3 => ?_) (fun c3 => ?_)
      · have hF := m_pos c3 hF
        exact hj85 wy_22 H locs ls hF hP hD hS (lv_sub hl [0, 1, 3] rfl)
      · have hF := m_neg c3 hF
        refine lv_aload_n hx hb dX8_looksForFitting_28 rfl (lv_at hl 0 rfl) ?_
        refine va_get (D := E.1) (ci := 8) (v := .ref (Modela_s a)) (C := RX8) (T := TX8) (N := 20) hx hb hts k1 hown hK hP 0 rfl rfl 1 (by decide) k0 (fun _ h9 => h9) rfl dX8_looksForFitting_29 ?_
        refine lv_iload_n hx hb dX8_looksForFitting_32 rfl (lv_at hl 1 rfl) ?_
        refine lv_iload hx hb dX8_looksForFitting_33 (lv_at hl 4 rfl) ?_
        obtain ⟨h4, hF⟩ := m_chk hF
        refine va_iast (f := (Model_s wy_22)) hx hb hK hP hD hS 1 1 rfl rfl (mIn_ok h4) dX8_looksForFitting_35 (fun H locs hP hD hS => ?_)
        have hP : va_P E.1 vwCl (Model_c E a (Model_s_s wy_22 (upd (Model_s wy_22) (x0).toNatClampNeg y5_22))) H := hP
        have hD : va_D A (Model_c E a (Model_s_s wy_22 (upd (Model_s wy_22) (x0).toNatClampNeg y5_22))) := hD
        refine lv_aload_n hx hb dX8_looksForFitting_36 rfl (lv_at hl 0 rfl) ?_
        obtain ⟨t5, ht5, hF⟩ := m_bnd hF
        have hPc := hP
        have hDc := hD
        have hFc := va_free (wc := (Model_c E a (Model_s_s wy_22 (upd (Model_s wy_22) (x0).toNatClampNeg y5_22)))) hD hS hA [0, 1, 2, 3, 4, 5, 6, 7] rfl
        refine mVM (ci := 8) (n := 0) (rest := []) (As := []) CC hKN hGl (c_X8_areAsSeen l E a (Model_s_s wy_22 (upd (Model_s wy_22) (x0).toNatClampNeg y5_22)) t5 ht5 _) gX8_looksForFitting_X8_areAsSeen rfl ⟨rfl, rfl⟩ (by decide +kernel) ⟨Nat.le_of_ble_eq_true rfl, Nat.le_of_ble_eq_true rfl⟩ hPc hDc m_nil m_nilA hS hFc rfl rfl rfl rfl hl.1 rfl (Nat.le_of_ble_eq_true rfl) ⟨Nat.zero_le _, Nat.zero_le _⟩ dX8_looksForFitting_37 (fun H1 locs hP1 hD1 hz1 hk1 hS => ?_)
        have hP : va_P E.1 vwCl (Model_c E a t5.2) H1 := hP1
        have hD : va_D A (Model_c E a t5.2) := m_back hD1 hFc
        generalize H1 = H at hP hS ⊢
        refine W.eq (g2 := F0 m 40 ls [.int t5.1]) rfl ?_
        refine lv_istore (lv' := [(6, .int t5.1), (0, .ref (Modela_self a)), (1, .int x0), (2, .int x1), (4, .int ((Model_s v) (x0).toNatClampNeg)), (5, .int y5_22)]) hx hb dX8_looksForFitting_40 hl (by decide) rfl (fun ls hl => ?_)
        refine lv_aload_n hx hb dX8_looksForFitting_42 rfl (lv_at hl 1 rfl) ?_
        refine lv_dup hx hb dX8_looksForFitting_43 rfl ?_
        refine va_get (D := E.1) (ci := 8) (v := .int (Model_fitting t5.2)) (C := RX8) (T := TX8) (N := 20) hx hb hts k1 hown hK hP 0 rfl rfl 13 (by decide) k2 (fun _ h9 => h9) rfl dX8_looksForFitting_44 ?_
        refine lv_iload hx hb dX8_looksForFitting_47 (lv_at hl 0 rfl) ?_
        obtain ⟨j57, hjd57, hF⟩ := m_jp hF
        have hj57 : ∀ (z0_57 : Int32) (H : Heap) (locs : List Loc) (ls : Array Slot), j57 z0_57 = some t → va_P E.1 vwCl (Model_c E a t5.2) H → va_D A (Model_c E a t5.2) → va_S A s.heap H locs → lv_has ls 7 [(0, .ref (Modela_self a)), (1, .int x0), (2, .int x1), (4, .int ((Model_s v) (x0).toNatClampNeg)), (5, .int y5_22), (6, .int t5.1)] → W p l e_ rmX8_looksForFitting s m args below meth c H locs 0 0 Q (F0 m 57 ls [.int z0_57, .int (Model_fitting t5.2), .ref (Modela_self a)]) := by
          intro z0_57 H locs ls hF hP hD hS hl
          rw [hjd57] at hF
          refine lv_iadd hx hb dX8_looksForFitting_57 ?_
          refine va_put (D := E.1) (ci := 8) (v := .int ((Model_fitting t5.2) + z0_57)) (ty := .int) (C := RX8) (T := TX8) (N := 20) hx hb hts k1 tyX8 tyX8_ok nmX8 hown hK hP hD hS 0 rfl rfl 13 (by decide) k2 (fun _ h9 => h9) rfl (by decide +kernel) rfl rfl (Nat.le_of_ble_eq_true rfl) dX8_looksForFitting_58 (fun H locs hP hD hS => ?_)
          have hP : va_P E.1 vwCl (Model_c E a (Model_fitting_s t5.2 ((Model_fitting t5.2) + z0_57))) H := hP
          have hD : va_D A (Model_c E a (Model_fitting_s t5.2 ((Model_fitting t5.2) + z0_57))) := hD
          refine lv_aload_n hx hb dX8_looksForFitting_61 rfl (lv_at hl 0 rfl) ?_
          refine lv_iload hx hb dX8_looksForFitting_62 (lv_at hl 5 rfl) ?_
          obtain ⟨j76, hjd76, hF⟩ := m_jp hF
          have hj76 : ∀ (z0_76 : Int32) (H : Heap) (locs : List Loc) (ls : Array Slot), j76 z0_76 = some t → va_P E.1 vwCl (Model_c E a (Model_fitting_s t5.2 ((Model_fitting t5.2) + z0_57))) H → va_D A (Model_c E a (Model_fitting_s t5.2 ((Model_fitting t5.2) + z0_57))) → va_S A s.heap H locs → lv_has ls 7 [(0, .ref (Modela_self a)), (1, .int x0), (2, .int x1), (4, .int ((Model_s v) (x0).toNatClampNeg)), (5, .int y5_22)] → W p l e_ rmX8_looksForFitting s m args below meth c H locs 0 0 Q (F0 m 76 ls [.int z0_76, .ref (Modela_self a)]) := by
            intro z0_76 H locs ls hF hP hD hS hl
            rw [hjd76] at hF
            refine va_put (D := E.1) (ci := 8) (v := .int z0_76) (ty := .int) (C := RX8) (T := TX8) (N := 20) hx hb hts k1 tyX8 tyX8_ok nmX8 hown hK hP hD hS 0 rfl rfl 14 (by decide) k3 (fun _ h9 => h9) rfl (by decide +kernel) rfl rfl (Nat.le_of_ble_eq_true rfl) dX8_looksForFitting_76 (fun H locs hP hD hS => ?_)
            have hP : va_P E.1 vwCl (Model_c E a (Model_firstFitting_s (Model_fitting_s t5.2 ((Model_fitting t5.2) + z0_57)) z0_76)) H := hP
            have hD : va_D A (Model_c E a (Model_firstFitting_s (Model_fitting_s t5.2 ((Model_fitting t5.2) + z0_57)) z0_76)) := hD
            refine lv_iinc (v := (y5_22 + (-1))) (lv' := [(5, .int (y5_22 + (-1))), (0, .ref (Modela_self a)), (1, .int x0), (2, .int x1), (4, .int ((Model_s v) (x0).toNatClampNeg))]) hx hb dX8_looksForFitting_79 hl (k := 4) rfl rfl (by decide) rfl (fun ls hl => ?_)
            refine lv_goto (tgt := 22) hx hb dX8_looksForFitting_82 (by decide) ?_
            exact ih22 (y5_22 + (-1)) (Model_firstFitting_s (Model_fitting_s t5.2 ((Model_fitting t5.2) + z0_57)) z0_76) H locs ls hF hP hD hS (lv_sub hl [1, 2, 3, 4, 0] rfl)
          clear hjd76
          refine lv_if_eq (tgt := 72) hx hb dX8_looksForFitting_64 (by decide) (fun c6 => ?_) (fun c6 => ?_)
          · have hF := m_pos c6 hF
            refine lv_aload_n hx hb dX8_looksForFitting_72 rfl (lv_at hl 0 rfl) ?_
            refine va_get (D := E.1) (ci := 8) (v := .int (Model_firstFitting t5.2)) (C := RX8) (T := TX8) (N := 20) hx hb hts k1 hown hK hP 0 rfl rfl 14 (by decide) k3 (fun _ h9 => h9) rfl dX8_looksForFitting_73 ?_
            exact hj76 (Model_firstFitting t5.2) H locs ls hF hP hD hS (lv_sub hl [0, 1, 2, 3, 4] rfl)
          · have hF := m_neg c6 hF
            refine lv_iload hx hb dX8_looksForFitting_67 (lv_at hl 4 rfl) ?_
            refine lv_goto (tgt := 76) hx hb dX8_looksForFitting_69 (by decide) ?_
            exact hj76 y5_22 H locs ls hF hP hD hS (lv_sub hl [0, 1, 2, 3, 4] rfl)
        clear hjd57
        refine lv_if_eq (tgt := 56) hx hb dX8_looksForFitting_49 (by decide) (fun c7 => ?_) (fun c7 => ?_)
        · have hF := m_pos c7 hF
          refine lv_iconst (v := 0) hx hb dX8_looksForFitting_56 (by decide) ?_
          exact hj57 0 H locs ls hF hP hD hS (lv_sub hl [1, 2, 3, 4, 5, 0] rfl)
        · have hF := m_neg c7 hF
          refine lv_iconst (v := 1) hx hb dX8_looksForFitting_52 (by decide) ?_
          refine lv_goto (tgt := 57) hx hb dX8_looksForFitting_53 (by decide) ?_
          exact hj57 1 H locs ls hF hP hD hS (lv_sub hl [1, 2, 3, 4, 5, 0] rfl)
  exact hL22 m_N x2 (Model_firstFitting_s (Model_fitting_s v 0) (-5)) H locs ls hF hP hD hS (lv_sub hl [2, 3, 4, 1, 0] rfl)

