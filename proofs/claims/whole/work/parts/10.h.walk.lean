abbrev rmX2_markOf : Room := { frames := 4, cells := 0, slots := 0, locals := 88 }
set_option maxRecDepth 100000 in
set_option maxHeartbeats 400000 in
theorem c_X2_markOf (l : Launch) (E : mE) (a : GroupA) (v : GroupV) (x0 : Int32) (x1 : Int32) (x2 : Int32) (t : Int32) (hF : fn_X2_markOf v x0 x1 x2 = some t) : Met l yX2_markOf wsX2_markOf rmX2_markOf (mPp E [.ref (Groupa_self a), .int x0, .int x1, .int x2] (Group_c E a v)) (mSp (some (.int t))) 0 0 (fun _ => False) := by
  refine mOfP (cc := cX2_markOf) (maxL := 7) (ret := (some .int)) (by decide) rfl (Nat.le_of_ble_eq_true rfl) ?_
  intro p e_ s m args below meth c Q hQ CC hr hlocks hP hKN hGl ls hl
  have hS : va_S (fun _ => False) s.heap s.heap [] := va_S.rf
  have hK := hKN.1
  have hx := CC.1
  have hb := CC.2.1
  have hml := CC.2.2.1
  have hown : s.vm.findClass RX2 = some m.cls := CC.2.2.2.1
  have hts := CC.2.2.2.2
  have hl : lv_has ls 7 [(0, .ref (Groupa_self a)), (1, .int x0), (2, .int x1), (3, .int x2)] := hl
  have k0 := hts (.fieldLink RX2 37 "OneDidAll$Group" "outs" "[Z") (by decide +kernel)
  have k1 := (show ∀ w ∈ u_ws RX2 TX2 11, w ∈ wsX2_markOf by decide +kernel)
  have k2 := hts (.methodLink RX2 70 Lib.Math.min.name) (by decide +kernel)
  have k3 := hts (.static Lib.Math.min.name) (by decide +kernel)
  have k4 := hts (.initialized "java/lang/Math") (by decide +kernel)
  have k5 := hts (.code Lib.Math.min.name Lib.Math.min.code 2 (some .int)) (by decide +kernel)
  have k6 := hts (.fieldLink RX2 9 "OneDidAll$Group" "size" "I") (by decide +kernel)
  unfold fn_X2_markOf at hF
  refine lv_aload_n hx hb dX2_markOf_0 rfl (lv_at hl 0 rfl) ?_
  refine va_get (D := E.1) (ci := 2) (v := .ref (Groupa_outs a)) (C := RX2) (T := TX2) (N := 11) hx hb hts k1 hown hK hP 0 rfl rfl 8 (by decide) k0 (fun _ h9 => h9) rfl dX2_markOf_1 ?_
  refine lv_iload_n hx hb dX2_markOf_4 rfl (lv_at hl 1 rfl) ?_
  obtain ⟨h1, hF⟩ := m_chk hF
  refine va_zald (f := (Group_outs v)) hx hb hK hP 6 2 rfl rfl (mIn_ok h1) dX2_markOf_5 ?_
  refine W.eq (g2 := F0 m 6 ls [.int ((Group_outs v) (x0).toNatClampNeg)]) rfl ?_
  refine lv_if_eq (tgt := 11) hx hb dX2_markOf_6 (by decide) (fun c2 => ?_) (fun c2 => ?_)
  · have hF := m_pos c2 hF
    refine lv_aload_n hx hb dX2_markOf_11 rfl (lv_at hl 0 rfl) ?_
    refine lv_iload_n hx hb dX2_markOf_12 rfl (lv_at hl 3 rfl) ?_
    obtain ⟨t3, ht3, hF⟩ := m_bnd hF
    refine mVP (ci := 2) (n := 1) (rest := []) (As := [.int x2]) CC hKN hGl hS (c_X2_base l E a v x2 t3 ht3) gX2_markOf_X2_base rfl ⟨rfl, rfl⟩ (by decide +kernel) ⟨Nat.le_of_ble_eq_true rfl, Nat.le_of_ble_eq_true rfl⟩ hP rfl rfl rfl rfl hl.1 rfl (Nat.le_of_ble_eq_true rfl) ⟨Nat.zero_le _, Nat.zero_le _⟩ dX2_markOf_13 ?_
    refine W.eq (g2 := F0 m 16 ls [.int t3]) rfl ?_
    refine lv_istore (lv' := [(4, .int t3), (0, .ref (Groupa_self a)), (1, .int x0), (2, .int x1), (3, .int x2)]) hx hb dX2_markOf_16 hl (by decide) rfl (fun ls hl => ?_)
    refine lv_iload_n hx hb dX2_markOf_18 rfl (lv_at hl 3 rfl) ?_
    refine lv_if_ne (tgt := 25) hx hb dX2_markOf_19 (by decide) (fun c4 => ?_) (fun c4 => ?_)
    · have hF := m_pos c4 hF
      refine lv_iload_n hx hb dX2_markOf_25 rfl (lv_at hl 3 rfl) ?_
      refine lv_iconst (v := 3) hx hb dX2_markOf_26 (by decide) ?_
      refine lv_icmp_ne (tgt := 41) hx hb dX2_markOf_27 (by decide) (fun c5 => ?_) (fun c5 => ?_)
      · have hF := m_pos c5 hF
        refine lv_iconst (v := 0) hx hb dX2_markOf_41 (by decide) ?_
        refine lv_istore (lv' := [(5, .int 0), (4, .int t3), (0, .ref (Groupa_self a)), (1, .int x0), (2, .int x1), (3, .int x2)]) hx hb dX2_markOf_42 hl (by decide) rfl (fun ls hl => ?_)
        refine lv_iconst (v := 0) hx hb dX2_markOf_44 (by decide) ?_
        refine lv_istore (lv' := [(6, .int 0), (5, .int 0), (4, .int t3), (0, .ref (Groupa_self a)), (1, .int x0), (2, .int x1), (3, .int x2)]) hx hb dX2_markOf_45 hl (by decide) rfl (fun ls hl => ?_)
        obtain ⟨j84, hjd84, hF⟩ := m_jp hF
        have hj84 : ∀ (x5_84 : Int32) (ls : Array Slot), j84 x5_84 = some t → lv_has ls 7 [(0, .ref (Groupa_self a)), (1, .int x0), (2, .int x1), (4, .int t3), (5, .int x5_84)] → W p l e_ rmX2_markOf s m args below meth c s.heap [] 0 0 Q (F0 m 84 ls []) := by
          intro x5_84 ls hF hl
          rw [hjd84] at hF
          refine lv_iload hx hb dX2_markOf_84 (lv_at hl 4 rfl) ?_
          refine lv_if_ne (tgt := 92) hx hb dX2_markOf_86 (by decide) (fun c6 => ?_) (fun c6 => ?_)
          · have hF := m_pos c6 hF
            refine lv_bipush (v := 100) hx hb dX2_markOf_92 (by decide) ?_
            refine lv_iload hx hb dX2_markOf_94 (lv_at hl 3 rfl) ?_
            refine lv_aload_n hx hb dX2_markOf_96 rfl (lv_at hl 0 rfl) ?_
            refine lv_iload_n hx hb dX2_markOf_97 rfl (lv_at hl 1 rfl) ?_
            refine lv_iload_n hx hb dX2_markOf_98 rfl (lv_at hl 2 rfl) ?_
            obtain ⟨t7, ht7, hF⟩ := m_bnd hF
            refine mVP (ci := 2) (n := 2) (rest := [.int t3, .int 100]) (As := [.int x0, .int x1]) CC hKN hGl hS (c_X2_stakeOf l E a v x0 x1 t7 ht7) gX2_markOf_X2_stakeOf rfl ⟨rfl, rfl⟩ (by decide +kernel) ⟨Nat.le_of_ble_eq_true rfl, Nat.le_of_ble_eq_true rfl⟩ hP rfl rfl rfl rfl hl.1 rfl (Nat.le_of_ble_eq_true rfl) ⟨Nat.zero_le _, Nat.zero_le _⟩ dX2_markOf_99 ?_
            refine W.eq (g2 := F0 m 102 ls [.int t7, .int t3, .int 100]) rfl ?_
            refine lv_imul hx hb dX2_markOf_102 ?_
            refine lv_aload_n hx hb dX2_markOf_103 rfl (lv_at hl 0 rfl) ?_
            obtain ⟨t8, ht8, hF⟩ := m_bnd hF
            refine mVP (ci := 2) (n := 0) (rest := [.int (t3 * t7), .int 100]) (As := []) CC hKN hGl hS (c_X2_countIn l E a v t8 ht8) gX2_markOf_X2_countIn rfl ⟨rfl, rfl⟩ (by decide +kernel) ⟨Nat.le_of_ble_eq_true rfl, Nat.le_of_ble_eq_true rfl⟩ hP rfl rfl rfl rfl hl.1 rfl (Nat.le_of_ble_eq_true rfl) ⟨Nat.zero_le _, Nat.zero_le _⟩ dX2_markOf_104 ?_
            refine W.eq (g2 := F0 m 107 ls [.int t8, .int (t3 * t7), .int 100]) rfl ?_
            refine lv_imul hx hb dX2_markOf_107 ?_
            refine lv_iload hx hb dX2_markOf_108 (lv_at hl 4 rfl) ?_
            obtain ⟨h9, hF⟩ := m_chk hF
            refine lv_idiv hx hb dX2_markOf_110 h9 ?_
            refine va_mmin hx hb (hml.trans hl.1.symm) hown k2 k3 k4 k5 (Nat.le_of_ble_eq_true rfl) (Nat.le_of_ble_eq_true rfl) (Nat.zero_le _) (Nat.zero_le _) dX2_markOf_111 ?_
            refine W.eq (g2 := F0 m 114 ls [.int (mMin 100 (((t3 * t7) * t8) / x5_84))]) rfl ?_
            have hF := Option.some.inj hF
            subst hF
            rw [hQ]
            exact W.iret hx hb hr (fun t ht _ => ⟨rfl, ht⟩) (fun _ h => by cases h) dX2_markOf_114
          · have hF := m_neg (fun n9 => n9 c6) hF
            refine lv_iload hx hb dX2_markOf_89 (lv_at hl 3 rfl) ?_
            have hF := Option.some.inj hF
            subst hF
            rw [hQ]
            exact W.iret hx hb hr (fun t ht _ => ⟨rfl, ht⟩) (fun _ h => by cases h) dX2_markOf_91
        clear hjd84
        have hL47 : ∀ (n : Nat) (y5_47 : Int32) (y6_47 : Int32) (ls : Array Slot), lp_X2_markOf_47 v x1 j84 n y5_47 y6_47 = some t → lv_has ls 7 [(0, .ref (Groupa_self a)), (1, .int x0), (2, .int x1), (4, .int t3), (5, .int y5_47), (6, .int y6_47)] → W p l e_ rmX2_markOf s m args below meth c s.heap [] 0 0 Q (F0 m 47 ls []) := by
          intro n
          induction n with
          | zero =>
            intro y5_47 y6_47 ls hF
            exact nomatch (show (none : Option Int32) = some t from hF)
          | succ n ih47 =>
            intro y5_47 y6_47 ls hF hl
            have hF : st_X2_markOf_47 v x1 j84 (lp_X2_markOf_47 v x1 j84 n) y5_47 y6_47 = some t := hF
            unfold st_X2_markOf_47 at hF
            refine lv_iload hx hb dX2_markOf_47 (lv_at hl 5 rfl) ?_
            refine lv_aload_n hx hb dX2_markOf_49 rfl (lv_at hl 0 rfl) ?_
            refine va_get (D := E.1) (ci := 2) (v := .int (Group_size v)) (C := RX2) (T := TX2) (N := 11) hx hb hts k1 hown hK hP 0 rfl rfl 0 (by decide) k6 (fun _ h9 => h9) rfl dX2_markOf_50 ?_
            refine lv_icmp_ge (tgt := 84) hx hb dX2_markOf_53 (by decide) (fun c10 => ?_) (fun c10 => ?_)
            · have hF := m_pos c10 hF
              exact hj84 y5_47 ls hF (lv_sub hl [0, 1, 2, 3, 4] rfl)
            · have hF := m_neg c10 hF
              refine lv_aload_n hx hb dX2_markOf_56 rfl (lv_at hl 0 rfl) ?_
              refine va_get (D := E.1) (ci := 2) (v := .ref (Groupa_outs a)) (C := RX2) (T := TX2) (N := 11) hx hb hts k1 hown hK hP 0 rfl rfl 8 (by decide) k0 (fun _ h9 => h9) rfl dX2_markOf_57 ?_
              refine lv_iload hx hb dX2_markOf_60 (lv_at hl 5 rfl) ?_
              obtain ⟨h11, hF⟩ := m_chk hF
              refine va_zald (f := (Group_outs v)) hx hb hK hP 6 2 rfl rfl (mIn_ok h11) dX2_markOf_62 ?_
              refine W.eq (g2 := F0 m 63 ls [.int ((Group_outs v) (y6_47).toNatClampNeg)]) rfl ?_
              obtain ⟨j78, hjd78, hF⟩ := m_jp hF
              have hj78 : ∀ (x5_78 : Int32) (ls : Array Slot), j78 x5_78 = some t → lv_has ls 7 [(0, .ref (Groupa_self a)), (1, .int x0), (2, .int x1), (4, .int t3), (5, .int x5_78), (6, .int y6_47)] → W p l e_ rmX2_markOf s m args below meth c s.heap [] 0 0 Q (F0 m 78 ls []) := by
                intro x5_78 ls hF hl
                rw [hjd78] at hF
                refine lv_iinc (v := (y6_47 + 1)) (lv' := [(6, .int (y6_47 + 1)), (0, .ref (Groupa_self a)), (1, .int x0), (2, .int x1), (4, .int t3), (5, .int x5_78)]) hx hb dX2_markOf_78 hl (k := 5) rfl rfl (by decide) rfl (fun ls hl => ?_)
                refine lv_goto (tgt := 47) hx hb dX2_markOf_81 (by decide) ?_
                exact ih47 x5_78 (y6_47 + 1) ls hF (lv_sub hl [1, 2, 3, 4, 5, 0] rfl)
              clear hjd78
              refine lv_if_ne (tgt := 78) hx hb dX2_markOf_63 (by decide) (fun c12 => ?_) (fun c12 => ?_)
              · have hF := m_pos c12 hF
                exact hj78 y5_47 ls hF (lv_sub hl [0, 1, 2, 3, 4, 5] rfl)
              · have hF := m_neg (fun n9 => n9 c12) hF
                refine lv_iload hx hb dX2_markOf_66 (lv_at hl 4 rfl) ?_
                refine lv_aload_n hx hb dX2_markOf_68 rfl (lv_at hl 0 rfl) ?_
                refine lv_iload hx hb dX2_markOf_69 (lv_at hl 5 rfl) ?_
                refine lv_iload_n hx hb dX2_markOf_71 rfl (lv_at hl 2 rfl) ?_
                obtain ⟨t13, ht13, hF⟩ := m_bnd hF
                refine mVP (ci := 2) (n := 2) (rest := [.int y5_47]) (As := [.int y6_47, .int x1]) CC hKN hGl hS (c_X2_stakeOf l E a v y6_47 x1 t13 ht13) gX2_markOf_X2_stakeOf rfl ⟨rfl, rfl⟩ (by decide +kernel) ⟨Nat.le_of_ble_eq_true rfl, Nat.le_of_ble_eq_true rfl⟩ hP rfl rfl rfl rfl hl.1 rfl (Nat.le_of_ble_eq_true rfl) ⟨Nat.zero_le _, Nat.zero_le _⟩ dX2_markOf_72 ?_
                refine W.eq (g2 := F0 m 75 ls [.int t13, .int y5_47]) rfl ?_
                refine lv_iadd hx hb dX2_markOf_75 ?_
                refine lv_istore (lv' := [(5, .int (y5_47 + t13)), (0, .ref (Groupa_self a)), (1, .int x0), (2, .int x1), (4, .int t3), (6, .int y6_47)]) hx hb dX2_markOf_76 hl (by decide) rfl (fun ls hl => ?_)
                exact hj78 (y5_47 + t13) ls hF (lv_sub hl [1, 2, 3, 4, 0, 5] rfl)
        exact hL47 m_N 0 0 ls hF (lv_sub hl [3, 4, 5, 2, 1, 0] rfl)
      · have hF := m_neg (fun n9 => n9 c5) hF
        refine lv_iload hx hb dX2_markOf_30 (lv_at hl 0 rfl) ?_
        refine lv_aload_n hx hb dX2_markOf_32 rfl (lv_at hl 1 rfl) ?_
        obtain ⟨t14, ht14, hF⟩ := m_bnd hF
        refine mVP (ci := 2) (n := 0) (rest := [.int t3]) (As := []) CC hKN hGl hS (c_X2_leastSkillIn l E a v t14 ht14) gX2_markOf_X2_leastSkillIn rfl ⟨rfl, rfl⟩ (by decide +kernel) ⟨Nat.le_of_ble_eq_true rfl, Nat.le_of_ble_eq_true rfl⟩ hP rfl rfl rfl rfl hl.1 rfl (Nat.le_of_ble_eq_true rfl) ⟨Nat.zero_le _, Nat.zero_le _⟩ dX2_markOf_33 ?_
        refine W.eq (g2 := F0 m 36 ls [.int t14, .int t3]) rfl ?_
        refine lv_imul hx hb dX2_markOf_36 ?_
        refine lv_bipush (v := 9) hx hb dX2_markOf_37 (by decide) ?_
        refine lv_idiv hx hb dX2_markOf_39 (by decide) ?_
        have hF := Option.some.inj hF
        subst hF
        rw [hQ]
        exact W.iret hx hb hr (fun t ht _ => ⟨rfl, ht⟩) (fun _ h => by cases h) dX2_markOf_40
    · have hF := m_neg (fun n9 => n9 c4) hF
      refine lv_iload hx hb dX2_markOf_22 (lv_at hl 0 rfl) ?_
      have hF := Option.some.inj hF
      subst hF
      rw [hQ]
      exact W.iret hx hb hr (fun t ht _ => ⟨rfl, ht⟩) (fun _ h => by cases h) dX2_markOf_24
  · have hF := m_neg c2 hF
    refine lv_iconst (v := 0) hx hb dX2_markOf_9 (by decide) ?_
    have hF := Option.some.inj hF
    subst hF
    rw [hQ]
    exact W.iret hx hb hr (fun t ht _ => ⟨rfl, ht⟩) (fun _ h => by cases h) dX2_markOf_10

abbrev rmX2_spreadOf : Room := { frames := 5, cells := 0, slots := 0, locals := 114 }
set_option maxRecDepth 100000 in
set_option maxHeartbeats 400000 in
theorem c_X2_spreadOf (l : Launch) (E : mE) (a : GroupA) (v : GroupV) (x0 : Int32) (x1 : Int32) (t : Int32) (hF : fn_X2_spreadOf v x0 x1 = some t) : Met l yX2_spreadOf wsX2_spreadOf rmX2_spreadOf (mPp E [.ref (Groupa_self a), .int x0, .int x1] (Group_c E a v)) (mSp (some (.int t))) 0 0 (fun _ => False) := by
  refine mOfP (cc := cX2_spreadOf) (maxL := 7) (ret := (some .int)) (by decide) rfl (Nat.le_of_ble_eq_true rfl) ?_
  intro p e_ s m args below meth c Q hQ CC hr hlocks hP hKN hGl ls hl
  have hS : va_S (fun _ => False) s.heap s.heap [] := va_S.rf
  have hK := hKN.1
  have hx := CC.1
  have hb := CC.2.1
  have hml := CC.2.2.1
  have hown : s.vm.findClass RX2 = some m.cls := CC.2.2.2.1
  have hts := CC.2.2.2.2
  have hl : lv_has ls 7 [(0, .ref (Groupa_self a)), (1, .int x0), (2, .int x1)] := hl
  have k0 := hts (.methodLink RX2 76 Lib.Math.max.name) (by decide +kernel)
  have k1 := hts (.static Lib.Math.max.name) (by decide +kernel)
  have k2 := hts (.initialized "java/lang/Math") (by decide +kernel)
  have k3 := hts (.code Lib.Math.max.name Lib.Math.max.code 2 (some .int)) (by decide +kernel)
  have k4 := hts (.fieldLink RX2 9 "OneDidAll$Group" "size" "I") (by decide +kernel)
  have k5 := (show ∀ w ∈ u_ws RX2 TX2 11, w ∈ wsX2_spreadOf by decide +kernel)
  have k6 := hts (.fieldLink RX2 37 "OneDidAll$Group" "outs" "[Z") (by decide +kernel)
  have k7 := hts (.methodLink RX2 70 Lib.Math.min.name) (by decide +kernel)
  have k8 := hts (.static Lib.Math.min.name) (by decide +kernel)
  have k9 := hts (.code Lib.Math.min.name Lib.Math.min.code 2 (some .int)) (by decide +kernel)
  unfold fn_X2_spreadOf at hF
  refine lv_iconst (v := 0) hx hb dX2_spreadOf_0 (by decide) ?_
  refine lv_istore_n (lv' := [(3, .int 0), (0, .ref (Groupa_self a)), (1, .int x0), (2, .int x1)]) hx hb dX2_spreadOf_1 rfl hl (by decide) rfl (fun ls hl => ?_)
  refine lv_bipush (v := 100) hx hb dX2_spreadOf_2 (by decide) ?_
  refine lv_istore (lv' := [(4, .int 100), (3, .int 0), (0, .ref (Groupa_self a)), (1, .int x0), (2, .int x1)]) hx hb dX2_spreadOf_4 hl (by decide) rfl (fun ls hl => ?_)
  refine lv_iconst (v := 0) hx hb dX2_spreadOf_6 (by decide) ?_
  refine lv_istore (lv' := [(5, .int 0), (4, .int 100), (3, .int 0), (0, .ref (Groupa_self a)), (1, .int x0), (2, .int x1)]) hx hb dX2_spreadOf_7 hl (by decide) rfl (fun ls hl => ?_)
  obtain ⟨j63, hjd63, hF⟩ := m_jp hF
  have hj63 : ∀ (x3_63 : Int32) (x4_63 : Int32) (ls : Array Slot), j63 x3_63 x4_63 = some t → lv_has ls 7 [(3, .int x3_63), (4, .int x4_63)] → W p l e_ rmX2_spreadOf s m args below meth c s.heap [] 0 0 Q (F0 m 63 ls []) := by
    intro x3_63 x4_63 ls hF hl
    rw [hjd63] at hF
    refine lv_iconst (v := 0) hx hb dX2_spreadOf_63 (by decide) ?_
    refine lv_iload_n hx hb dX2_spreadOf_64 rfl (lv_at hl 0 rfl) ?_
    refine lv_iload hx hb dX2_spreadOf_65 (lv_at hl 1 rfl) ?_
    refine lv_isub hx hb dX2_spreadOf_67 ?_
    refine va_mmax hx hb (hml.trans hl.1.symm) hown k0 k1 k2 k3 (Nat.le_of_ble_eq_true rfl) (Nat.le_of_ble_eq_true rfl) (Nat.zero_le _) (Nat.zero_le _) dX2_spreadOf_68 ?_
    refine W.eq (g2 := F0 m 71 ls [.int (mMax 0 (x3_63 - x4_63))]) rfl ?_
    have hF := Option.some.inj hF
    subst hF
    rw [hQ]
    exact W.iret hx hb hr (fun t ht _ => ⟨rfl, ht⟩) (fun _ h => by cases h) dX2_spreadOf_71
  clear hjd63
  have hL9 : ∀ (n : Nat) (y3_9 : Int32) (y4_9 : Int32) (y5_9 : Int32) (ls : Array Slot), lp_X2_spreadOf_9 v x0 x1 j63 n y3_9 y4_9 y5_9 = some t → lv_has ls 7 [(0, .ref (Groupa_self a)), (1, .int x0), (2, .int x1), (3, .int y3_9), (4, .int y4_9), (5, .int y5_9)] → W p l e_ rmX2_spreadOf s m args below meth c s.heap [] 0 0 Q (F0 m 9 ls []) := by
    intro n
    induction n with
    | zero =>
      intro y3_9 y4_9 y5_9 ls hF
      exact nomatch (show (none : Option Int32) = some t from hF)
    | succ n ih9 =>
      intro y3_9 y4_9 y5_9 ls hF hl
      have hF : st_X2_spreadOf_9 v x0 x1 j63 (lp_X2_spreadOf_9 v x0 x1 j63 n) y3_9 y4_9 y5_9 = some t := hF
      unfold st_X2_spreadOf_9 at hF
      refine lv_iload hx hb dX2_spreadOf_9 (lv_at hl 5 rfl) ?_
      refine lv_aload_n hx hb dX2_spreadOf_11 rfl (lv_at hl 0 rfl) ?_
      refine va_get (D := E.1) (ci := 2) (v := .int (Group_size v)) (C := RX2) (T := TX2) (N := 11) hx hb hts k5 hown hK hP 0 rfl rfl 0 (by decide) k4 (fun _ h9 => h9) rfl dX2_spreadOf_12 ?_
      refine lv_icmp_ge (tgt := 63) hx hb dX2_spreadOf_15 (by decide) (fun c1 => ?_) (fun c1 => ?_)
      · have hF := m_pos c1 hF
        exact hj63 y3_9 y4_9 ls hF (lv_sub hl [3, 4] rfl)
      · have hF := m_neg c1 hF
        refine lv_aload_n hx hb dX2_spreadOf_18 rfl (lv_at hl 0 rfl) ?_
        refine va_get (D := E.1) (ci := 2) (v := .ref (Groupa_outs a)) (C := RX2) (T := TX2) (N := 11) hx hb hts k5 hown hK hP 0 rfl rfl 8 (by decide) k6 (fun _ h9 => h9) rfl dX2_spreadOf_19 ?_
        refine lv_iload hx hb dX2_spreadOf_22 (lv_at hl 5 rfl) ?_
        obtain ⟨h2, hF⟩ := m_chk hF
        refine va_zald (f := (Group_outs v)) hx hb hK hP 6 2 rfl rfl (mIn_ok h2) dX2_spreadOf_24 ?_
        refine W.eq (g2 := F0 m 25 ls [.int ((Group_outs v) (y5_9).toNatClampNeg)]) rfl ?_
        obtain ⟨j57, hjd57, hF⟩ := m_jp hF
        have hj57 : ∀ (x3_57 : Int32) (x4_57 : Int32) (ls : Array Slot), j57 x3_57 x4_57 = some t → lv_has ls 7 [(0, .ref (Groupa_self a)), (1, .int x0), (2, .int x1), (3, .int x3_57), (4, .int x4_57), (5, .int y5_9)] → W p l e_ rmX2_spreadOf s m args below meth c s.heap [] 0 0 Q (F0 m 57 ls []) := by
          intro x3_57 x4_57 ls hF hl
          rw [hjd57] at hF
          refine lv_iinc (v := (y5_9 + 1)) (lv' := [(5, .int (y5_9 + 1)), (0, .ref (Groupa_self a)), (1, .int x0), (2, .int x1), (3, .int x3_57), (4, .int x4_57)]) hx hb dX2_spreadOf_57 hl (k := 5) rfl rfl (by decide) rfl (fun ls hl => ?_)
          refine lv_goto (tgt := 9) hx hb dX2_spreadOf_60 (by decide) ?_
          exact ih9 x3_57 x4_57 (y5_9 + 1) ls hF (lv_sub hl [1, 2, 3, 4, 5, 0] rfl)
        clear hjd57
        refine lv_if_eq (tgt := 31) hx hb dX2_spreadOf_25 (by decide) (fun c3 => ?_) (fun c3 => ?_)
        · have hF := m_pos c3 hF
          refine lv_aload_n hx hb dX2_spreadOf_31 rfl (lv_at hl 0 rfl) ?_
          refine lv_iload hx hb dX2_spreadOf_32 (lv_at hl 5 rfl) ?_
          refine lv_iload_n hx hb dX2_spreadOf_34 rfl (lv_at hl 1 rfl) ?_
          refine lv_iload_n hx hb dX2_spreadOf_35 rfl (lv_at hl 2 rfl) ?_
          obtain ⟨t4, ht4, hF⟩ := m_bnd hF
          refine mVP (ci := 2) (n := 3) (rest := []) (As := [.int y5_9, .int x0, .int x1]) CC hKN hGl hS (c_X2_markOf l E a v y5_9 x0 x1 t4 ht4) gX2_spreadOf_X2_markOf rfl ⟨rfl, rfl⟩ (by decide +kernel) ⟨Nat.le_of_ble_eq_true rfl, Nat.le_of_ble_eq_true rfl⟩ hP rfl rfl rfl rfl hl.1 rfl (Nat.le_of_ble_eq_true rfl) ⟨Nat.zero_le _, Nat.zero_le _⟩ dX2_spreadOf_36 ?_
          refine W.eq (g2 := F0 m 39 ls [.int t4]) rfl ?_
          refine lv_istore (lv' := [(6, .int t4), (0, .ref (Groupa_self a)), (1, .int x0), (2, .int x1), (3, .int y3_9), (4, .int y4_9), (5, .int y5_9)]) hx hb dX2_spreadOf_39 hl (by decide) rfl (fun ls hl => ?_)
          refine lv_iload_n hx hb dX2_spreadOf_41 rfl (lv_at hl 4 rfl) ?_
          refine lv_iload hx hb dX2_spreadOf_42 (lv_at hl 0 rfl) ?_
          refine va_mmax hx hb (hml.trans hl.1.symm) hown k0 k1 k2 k3 (Nat.le_of_ble_eq_true rfl) (Nat.le_of_ble_eq_true rfl) (Nat.zero_le _) (Nat.zero_le _) dX2_spreadOf_44 ?_
          refine W.eq (g2 := F0 m 47 ls [.int (mMax y3_9 t4)]) rfl ?_
          refine lv_istore_n (lv' := [(3, .int (mMax y3_9 t4)), (6, .int t4), (0, .ref (Groupa_self a)), (1, .int x0), (2, .int x1), (4, .int y4_9), (5, .int y5_9)]) hx hb dX2_spreadOf_47 rfl hl (by decide) rfl (fun ls hl => ?_)
          refine lv_iload hx hb dX2_spreadOf_48 (lv_at hl 5 rfl) ?_
          refine lv_iload hx hb dX2_spreadOf_50 (lv_at hl 1 rfl) ?_
          refine va_mmin hx hb (hml.trans hl.1.symm) hown k7 k8 k2 k9 (Nat.le_of_ble_eq_true rfl) (Nat.le_of_ble_eq_true rfl) (Nat.zero_le _) (Nat.zero_le _) dX2_spreadOf_52 ?_
          refine W.eq (g2 := F0 m 55 ls [.int (mMin y4_9 t4)]) rfl ?_
          refine lv_istore (lv' := [(4, .int (mMin y4_9 t4)), (3, .int (mMax y3_9 t4)), (6, .int t4), (0, .ref (Groupa_self a)), (1, .int x0), (2, .int x1), (5, .int y5_9)]) hx hb dX2_spreadOf_55 hl (by decide) rfl (fun ls hl => ?_)
          exact hj57 (mMax y3_9 t4) (mMin y4_9 t4) ls hF (lv_sub hl [3, 4, 5, 1, 0, 6] rfl)
        · have hF := m_neg c3 hF
          refine lv_goto (tgt := 57) hx hb dX2_spreadOf_28 (by decide) ?_
          exact hj57 y3_9 y4_9 ls hF (lv_sub hl [0, 1, 2, 3, 4, 5] rfl)
  exact hL9 m_N 0 100 0 ls hF (lv_sub hl [3, 4, 5, 2, 1, 0] rfl)

abbrev rmX2_awayFromHours : Room := { frames := 5, cells := 0, slots := 0, locals := 114 }
set_option maxRecDepth 100000 in
set_option maxHeartbeats 400000 in
theorem c_X2_awayFromHours (l : Launch) (E : mE) (a : GroupA) (v : GroupV) (x0 : Int32) (x1 : Int32) (t : Int32) (hF : fn_X2_awayFromHours v x0 x1 = some t) : Met l yX2_awayFromHours wsX2_awayFromHours rmX2_awayFromHours (mPp E [.ref (Groupa_self a), .int x0, .int x1] (Group_c E a v)) (mSp (some (.int t))) 0 0 (fun _ => False) := by
  refine mOfP (cc := cX2_awayFromHours) (maxL := 5) (ret := (some .int)) (by decide) rfl (Nat.le_of_ble_eq_true rfl) ?_
  intro p e_ s m args below meth c Q hQ CC hr hlocks hP hKN hGl ls hl
  have hS : va_S (fun _ => False) s.heap s.heap [] := va_S.rf
  have hK := hKN.1
  have hx := CC.1
  have hb := CC.2.1
  have hml := CC.2.2.1
  have hown : s.vm.findClass RX2 = some m.cls := CC.2.2.2.1
  have hts := CC.2.2.2.2
  have hl : lv_has ls 5 [(0, .ref (Groupa_self a)), (1, .int x0), (2, .int x1)] := hl
  have k0 := hts (.fieldLink RX2 9 "OneDidAll$Group" "size" "I") (by decide +kernel)
  have k1 := (show ∀ w ∈ u_ws RX2 TX2 11, w ∈ wsX2_awayFromHours by decide +kernel)
  have k2 := hts (.methodLink RX2 116 Lib.Math.abs.name) (by decide +kernel)
  have k3 := hts (.static Lib.Math.abs.name) (by decide +kernel)
  have k4 := hts (.initialized "java/lang/Math") (by decide +kernel)
  have k5 := hts (.code Lib.Math.abs.name Lib.Math.abs.code 1 (some .int)) (by decide +kernel)
  unfold fn_X2_awayFromHours at hF
  refine lv_iconst (v := 0) hx hb dX2_awayFromHours_0 (by decide) ?_
  refine lv_istore_n (lv' := [(3, .int 0), (0, .ref (Groupa_self a)), (1, .int x0), (2, .int x1)]) hx hb dX2_awayFromHours_1 rfl hl (by decide) rfl (fun ls hl => ?_)
  refine lv_iconst (v := 0) hx hb dX2_awayFromHours_2 (by decide) ?_
  refine lv_istore (lv' := [(4, .int 0), (3, .int 0), (0, .ref (Groupa_self a)), (1, .int x0), (2, .int x1)]) hx hb dX2_awayFromHours_3 hl (by decide) rfl (fun ls hl => ?_)
  have hL5 : ∀ (n : Nat) (y3_5 : Int32) (y4_5 : Int32) (ls : Array Slot), lp_X2_awayFromHours_5 v x0 x1 n y3_5 y4_5 = some t → lv_has ls 5 [(0, .ref (Groupa_self a)), (1, .int x0), (2, .int x1), (3, .int y3_5), (4, .int y4_5)] → W p l e_ rmX2_awayFromHours s m args below meth c s.heap [] 0 0 Q (F0 m 5 ls []) := by
    intro n
    induction n with
    | zero =>
      intro y3_5 y4_5 ls hF
      exact nomatch (show (none : Option Int32) = some t from hF)
    | succ n ih5 =>
      intro y3_5 y4_5 ls hF hl
      have hF : st_X2_awayFromHours_5 v x0 x1 (lp_X2_awayFromHours_5 v x0 x1 n) y3_5 y4_5 = some t := hF
      unfold st_X2_awayFromHours_5 at hF
      refine lv_iload hx hb dX2_awayFromHours_5 (lv_at hl 4 rfl) ?_
      refine lv_aload_n hx hb dX2_awayFromHours_7 rfl (lv_at hl 0 rfl) ?_
      refine va_get (D := E.1) (ci := 2) (v := .int (Group_size v)) (C := RX2) (T := TX2) (N := 11) hx hb hts k1 hown hK hP 0 rfl rfl 0 (by decide) k0 (fun _ h9 => h9) rfl dX2_awayFromHours_8 ?_
      refine lv_icmp_ge (tgt := 43) hx hb dX2_awayFromHours_11 (by decide) (fun c1 => ?_) (fun c1 => ?_)
      · have hF := m_pos c1 hF
        refine lv_iload_n hx hb dX2_awayFromHours_43 rfl (lv_at hl 3 rfl) ?_
        have hF := Option.some.inj hF
        subst hF
        rw [hQ]
        exact W.iret hx hb hr (fun t ht _ => ⟨rfl, ht⟩) (fun _ h => by cases h) dX2_awayFromHours_44
      · have hF := m_neg c1 hF
        refine lv_iload_n hx hb dX2_awayFromHours_14 rfl (lv_at hl 3 rfl) ?_
        refine lv_aload_n hx hb dX2_awayFromHours_15 rfl (lv_at hl 0 rfl) ?_
        refine lv_iload hx hb dX2_awayFromHours_16 (lv_at hl 4 rfl) ?_
        refine lv_iload_n hx hb dX2_awayFromHours_18 rfl (lv_at hl 1 rfl) ?_
        refine lv_iload_n hx hb dX2_awayFromHours_19 rfl (lv_at hl 2 rfl) ?_
        obtain ⟨t2, ht2, hF⟩ := m_bnd hF
        refine mVP (ci := 2) (n := 3) (rest := [.int y3_5]) (As := [.int y4_5, .int x0, .int x1]) CC hKN hGl hS (c_X2_markOf l E a v y4_5 x0 x1 t2 ht2) gX2_awayFromHours_X2_markOf rfl ⟨rfl, rfl⟩ (by decide +kernel) ⟨Nat.le_of_ble_eq_true rfl, Nat.le_of_ble_eq_true rfl⟩ hP rfl rfl rfl rfl hl.1 rfl (Nat.le_of_ble_eq_true rfl) ⟨Nat.zero_le _, Nat.zero_le _⟩ dX2_awayFromHours_20 ?_
        refine W.eq (g2 := F0 m 23 ls [.int t2, .int y3_5]) rfl ?_
        refine lv_aload_n hx hb dX2_awayFromHours_23 rfl (lv_at hl 0 rfl) ?_
        refine lv_iload hx hb dX2_awayFromHours_24 (lv_at hl 4 rfl) ?_
        refine lv_iconst (v := 1) hx hb dX2_awayFromHours_26 (by decide) ?_
        refine lv_iload_n hx hb dX2_awayFromHours_27 rfl (lv_at hl 2 rfl) ?_
        obtain ⟨t3, ht3, hF⟩ := m_bnd hF
        refine mVP (ci := 2) (n := 3) (rest := [.int t2, .int y3_5]) (As := [.int y4_5, .int 1, .int x1]) CC hKN hGl hS (c_X2_markOf l E a v y4_5 1 x1 t3 ht3) gX2_awayFromHours_X2_markOf rfl ⟨rfl, rfl⟩ (by decide +kernel) ⟨Nat.le_of_ble_eq_true rfl, Nat.le_of_ble_eq_true rfl⟩ hP rfl rfl rfl rfl hl.1 rfl (Nat.le_of_ble_eq_true rfl) ⟨Nat.zero_le _, Nat.zero_le _⟩ dX2_awayFromHours_28 ?_
        refine W.eq (g2 := F0 m 31 ls [.int t3, .int t2, .int y3_5]) rfl ?_
        refine lv_isub hx hb dX2_awayFromHours_31 ?_
        refine va_mabs hx hb (hml.trans hl.1.symm) hown k2 k3 k4 k5 (Nat.le_of_ble_eq_true rfl) (Nat.le_of_ble_eq_true rfl) (Nat.zero_le _) (Nat.zero_le _) dX2_awayFromHours_32 ?_
        refine W.eq (g2 := F0 m 35 ls [.int (mAbs (t2 - t3)), .int y3_5]) rfl ?_
        refine lv_iadd hx hb dX2_awayFromHours_35 ?_
        refine lv_istore_n (lv' := [(3, .int (y3_5 + (mAbs (t2 - t3)))), (0, .ref (Groupa_self a)), (1, .int x0), (2, .int x1), (4, .int y4_5)]) hx hb dX2_awayFromHours_36 rfl hl (by decide) rfl (fun ls hl => ?_)
        refine lv_iinc (v := (y4_5 + 1)) (lv' := [(4, .int (y4_5 + 1)), (3, .int (y3_5 + (mAbs (t2 - t3)))), (0, .ref (Groupa_self a)), (1, .int x0), (2, .int x1)]) hx hb dX2_awayFromHours_37 hl (k := 4) rfl rfl (by decide) rfl (fun ls hl => ?_)
        refine lv_goto (tgt := 5) hx hb dX2_awayFromHours_40 (by decide) ?_
        exact ih5 (y3_5 + (mAbs (t2 - t3))) (y4_5 + 1) ls hF (lv_sub hl [2, 3, 4, 1, 0] rfl)
  exact hL5 m_N 0 0 ls hF (lv_sub hl [2, 3, 4, 1, 0] rfl)

abbrev rmX4_readClause : Room := { frames := 31, cells := 0, slots := 0, locals := 709 }
set_option maxRecDepth 100000 in
set_option maxHeartbeats 400000 in
theorem c_X4_readClause (l : Launch) (E : mE) (a : ReaderA) (v : ReaderV) (t : (Int32 × ReaderV)) (hF : fn_X4_readClause v = some t) (sz : Nat) : Met l yX4_readClause wsX4_readClause rmX4_readClause (mPm E [.ref (Readera_self a)] sz ((Reader_c E a v)) (([] : va_W))) (mSm E (some (.int t.1)) ((Reader_c E a t.2)) (va_A ((Reader_c E a v)) sz)) 0 0 (va_A ((Reader_c E a v)) sz) := by
  refine mOfM (cc := cX4_readClause) (maxL := 3) (ret := (some .boolean)) (by decide) rfl (Nat.le_of_ble_eq_true rfl) ?_
  intro p e_ s m args below meth c Q A hQ CC hr hlocks hin hA hP hD hKN hGl hR0 hRA ls hl
  have hS : va_S A s.heap s.heap [] := va_S.rf
  have hK := hKN.1
  have hx := CC.1
  have hb := CC.2.1
  have hml := CC.2.2.1
  have hown : s.vm.findClass RX4 = some m.cls := CC.2.2.2.1
  have hts := CC.2.2.2.2
  have hl : lv_has ls 3 [(0, .ref (Readera_self a))] := hl
  have k0 := hts (.fieldLink RX4 21 "OneDidAll$Reader" "lesson" "LOneDidAll$Lesson;") (by decide +kernel)
  have k1 := (show ∀ w ∈ u_ws RX4 TX4 5, w ∈ wsX4_readClause by decide +kernel)
  have k2 := hts (.fieldLink RX4 15 "OneDidAll$Reader" "number" "I") (by decide +kernel)
  have k3 := (hKN.2.2.2.1 ("OneDidAll$Reader", 65, "hirk ", 3) (by decide +kernel))
  have k4 := (hKN.2.2.2.1 ("OneDidAll$Reader", 63, "ur ", 8) (by decide +kernel))
  have k5 := (hKN.2.2.2.1 ("OneDidAll$Reader", 58, "air ", 7) (by decide +kernel))
  have k6 := (va_Nw.use rfl (hKN.2.1 ("OneDidAll$Reader", 60, "OneDidAll$Lesson", "fair", "I", "OneDidAll") (by decide +kernel)) : (Cond.fieldLinkNest "OneDidAll$Reader" 60 "OneDidAll$Lesson" "fair" "I" "OneDidAll").before args s = true)
  have k7 := (show ∀ w ∈ u_ws RX3 TX3 7, w ∈ wsX4_readClause by decide +kernel)
  have k8 := (hKN.2.2.2.1 ("OneDidAll$Reader", 46, "oal ", 6) (by decide +kernel))
  have k9 := (va_Nw.use rfl (hKN.2.1 ("OneDidAll$Reader", 55, "OneDidAll$Lesson", "toldGoal", "I", "OneDidAll") (by decide +kernel)) : (Cond.fieldLinkNest "OneDidAll$Reader" 55 "OneDidAll$Lesson" "toldGoal" "I" "OneDidAll").before args s = true)
  have hP : va_P E.1 vwCl (Reader_c E a v) s.heap := hP
  obtain ⟨H, hH⟩ : ∃ H, H = s.heap := ⟨_, rfl⟩
  obtain ⟨locs, hlc⟩ : ∃ z : List Loc, z = [] := ⟨_, rfl⟩
  rw [← hH] at hP
  rw [← hlc] at hS
  have hS : va_S A s.heap H locs := by rw [hH]; exact hS
  rw [← hH, ← hlc]
  unfold fn_X4_readClause at hF
  refine lv_aload_n hx hb dX4_readClause_0 rfl (lv_at hl 0 rfl) ?_
  refine lv_bipush (v := 103) hx hb dX4_readClause_1 (by decide) ?_
  obtain ⟨t1, ht1, hF⟩ := m_bnd hF
  have hPc := hP
  have hDc := hD
  have hFc := va_free (wc := (Reader_c E a v)) hD hS hA [0, 1, 2, 3, 4, 5] rfl
  refine mVM (ci := 4) (n := 1) (rest := []) (As := [.int 103]) CC hKN hGl (c_X4_take l E a v 103 t1 ht1 _) gX4_readClause_X4_take rfl ⟨rfl, rfl⟩ (by decide +kernel) ⟨Nat.le_of_ble_eq_true rfl, Nat.le_of_ble_eq_true rfl⟩ hPc hDc m_nil m_nilA hS hFc rfl rfl rfl rfl hl.1 rfl (Nat.le_of_ble_eq_true rfl) ⟨Nat.zero_le _, Nat.zero_le _⟩ dX4_readClause_3 (fun H1 locs hP1 hD1 hz1 hk1 hS => ?_)
  have hP : va_P E.1 vwCl (Reader_c E a t1.2) H1 := hP1
  have hD : va_D A (Reader_c E a t1.2) := m_back hD1 hFc
  generalize H1 = H at hP hS ⊢
  refine W.eq (g2 := F0 m 6 ls [.int t1.1]) rfl ?_
  refine lv_if_eq (tgt := 40) hx hb dX4_readClause_6 (by decide) (fun c2 => ?_) (fun c2 => ?_)
  · have hF := m_pos c2 hF
    refine lv_aload_n hx hb dX4_readClause_40 rfl (lv_at hl 0 rfl) ?_
    refine lv_bipush (v := 102) hx hb dX4_readClause_41 (by decide) ?_
    obtain ⟨t3, ht3, hF⟩ := m_bnd hF
    have hPc := hP
    have hDc := hD
    have hFc := va_free (wc := (Reader_c E a t1.2)) hD hS hA [0, 1, 2, 3, 4, 5] rfl
    refine mVM (ci := 4) (n := 1) (rest := []) (As := [.int 102]) CC hKN hGl (c_X4_take l E a t1.2 102 t3 ht3 _) gX4_readClause_X4_take rfl ⟨rfl, rfl⟩ (by decide +kernel) ⟨Nat.le_of_ble_eq_true rfl, Nat.le_of_ble_eq_true rfl⟩ hPc hDc m_nil m_nilA hS hFc rfl rfl rfl rfl hl.1 rfl (Nat.le_of_ble_eq_true rfl) ⟨Nat.zero_le _, Nat.zero_le _⟩ dX4_readClause_43 (fun H1 locs hP1 hD1 hz1 hk1 hS => ?_)
    have hP : va_P E.1 vwCl (Reader_c E a t3.2) H1 := hP1
    have hD : va_D A (Reader_c E a t3.2) := m_back hD1 hFc
    generalize H1 = H at hP hS ⊢
    refine W.eq (g2 := F0 m 46 ls [.int t3.1]) rfl ?_
    refine lv_if_eq (tgt := 80) hx hb dX4_readClause_46 (by decide) (fun c4 => ?_) (fun c4 => ?_)
    · have hF := m_pos c4 hF
      refine lv_aload_n hx hb dX4_readClause_80 rfl (lv_at hl 0 rfl) ?_
      refine lv_bipush (v := 115) hx hb dX4_readClause_81 (by decide) ?_
      obtain ⟨t5, ht5, hF⟩ := m_bnd hF
      have hPc := hP
      have hDc := hD
      have hFc := va_free (wc := (Reader_c E a t3.2)) hD hS hA [0, 1, 2, 3, 4, 5] rfl
      refine mVM (ci := 4) (n := 1) (rest := []) (As := [.int 115]) CC hKN hGl (c_X4_take l E a t3.2 115 t5 ht5 _) gX4_readClause_X4_take rfl ⟨rfl, rfl⟩ (by decide +kernel) ⟨Nat.le_of_ble_eq_true rfl, Nat.le_of_ble_eq_true rfl⟩ hPc hDc m_nil m_nilA hS hFc rfl rfl rfl rfl hl.1 rfl (Nat.le_of_ble_eq_true rfl) ⟨Nat.zero_le _, Nat.zero_le _⟩ dX4_readClause_83 (fun H1 locs hP1 hD1 hz1 hk1 hS => ?_)
      have hP : va_P E.1 vwCl (Reader_c E a t5.2) H1 := hP1
      have hD : va_D A (Reader_c E a t5.2) := m_back hD1 hFc
      generalize H1 = H at hP hS ⊢
      refine W.eq (g2 := F0 m 86 ls [.int t5.1]) rfl ?_
      refine lv_if_ne (tgt := 91) hx hb dX4_readClause_86 (by decide) (fun c6 => ?_) (fun c6 => ?_)
      · have hF := m_pos c6 hF
        refine lv_aload_n hx hb dX4_readClause_91 rfl (lv_at hl 0 rfl) ?_
        refine lv_bipush (v := 112) hx hb dX4_readClause_92 (by decide) ?_
        obtain ⟨t7, ht7, hF⟩ := m_bnd hF
        have hPc := hP
        have hDc := hD
        have hFc := va_free (wc := (Reader_c E a t5.2)) hD hS hA [0, 1, 2, 3, 4, 5] rfl
        refine mVM (ci := 4) (n := 1) (rest := []) (As := [.int 112]) CC hKN hGl (c_X4_take l E a t5.2 112 t7 ht7 _) gX4_readClause_X4_take rfl ⟨rfl, rfl⟩ (by decide +kernel) ⟨Nat.le_of_ble_eq_true rfl, Nat.le_of_ble_eq_true rfl⟩ hPc hDc m_nil m_nilA hS hFc rfl rfl rfl rfl hl.1 rfl (Nat.le_of_ble_eq_true rfl) ⟨Nat.zero_le _, Nat.zero_le _⟩ dX4_readClause_94 (fun H1 locs hP1 hD1 hz1 hk1 hS => ?_)
        have hP : va_P E.1 vwCl (Reader_c E a t7.2) H1 := hP1
        have hD : va_D A (Reader_c E a t7.2) := m_back hD1 hFc
        generalize H1 = H at hP hS ⊢
        refine W.eq (g2 := F0 m 97 ls [.int t7.1]) rfl ?_
        refine lv_istore_n (lv' := [(1, .int t7.1), (0, .ref (Readera_self a))]) hx hb dX4_readClause_97 rfl hl (by decide) rfl (fun ls hl => ?_)
        refine lv_aload_n hx hb dX4_readClause_98 rfl (lv_at hl 1 rfl) ?_
        refine lv_iload_n hx hb dX4_readClause_99 rfl (lv_at hl 0 rfl) ?_
        obtain ⟨j110, hjd110, hF⟩ := m_jp hF
        have hj110 : ∀ (z0_110 : Nat) (H : Heap) (locs : List Loc) (ls : Array Slot), j110 z0_110 = some t → va_P E.1 vwCl (Reader_c E a t7.2) H → va_D A (Reader_c E a t7.2) → va_S A s.heap H locs → lv_has ls 3 [(0, .ref (Readera_self a)), (1, .int t7.1)] → W p l e_ rmX4_readClause s m args below meth c H locs 0 0 Q (F0 m 110 ls [.ref (m_adK E z0_110), .ref (Readera_self a)]) := by
          intro z0_110 H locs ls hF hP hD hS hl
          rw [hjd110] at hF
          obtain ⟨t8, ht8, hF⟩ := m_bnd hF
          have hPc := hP
          have hDc := hD
          have hFc := va_free (wc := (Reader_c E a t7.2)) hD hS hA [0, 1, 2, 3, 4, 5] rfl
          refine mVM (ci := 4) (n := 1) (rest := []) (As := [.ref (m_adK E z0_110)]) CC hKN hGl (c_X4_readWord l E a t7.2 z0_110 t8 ht8 _) gX4_readClause_X4_readWord rfl ⟨rfl, rfl⟩ (by decide +kernel) ⟨Nat.le_of_ble_eq_true rfl, Nat.le_of_ble_eq_true rfl⟩ hPc hDc m_nil m_nilA hS hFc rfl rfl rfl rfl hl.1 rfl (Nat.le_of_ble_eq_true rfl) ⟨Nat.zero_le _, Nat.zero_le _⟩ dX4_readClause_110 (fun H1 locs hP1 hD1 hz1 hk1 hS => ?_)
          have hP : va_P E.1 vwCl (Reader_c E a t8.2) H1 := hP1
          have hD : va_D A (Reader_c E a t8.2) := m_back hD1 hFc
          generalize H1 = H at hP hS ⊢
          refine W.eq (g2 := F0 m 113 ls [.int t8.1]) rfl ?_
          refine lv_if_eq (tgt := 123) hx hb dX4_readClause_113 (by decide) (fun c9 => ?_) (fun c9 => ?_)
          · have hF := m_pos c9 hF
            refine lv_iconst (v := 0) hx hb dX4_readClause_123 (by decide) ?_
            have hF := Option.some.inj hF
            subst hF
            rw [hQ]
            exact W.zret hx hb hr rfl (fun t ht _ => ⟨⟨rfl, by rw [ht]; exact hP, hD⟩, hS.F ht⟩) hS.2.2 dX4_readClause_124
          · have hF := m_neg c9 hF
            refine lv_aload_n hx hb dX4_readClause_116 rfl (lv_at hl 0 rfl) ?_
            obtain ⟨t10, ht10, hF⟩ := m_bnd hF
            have hPc := hP
            have hDc := hD
            have hFc := va_free (wc := (Reader_c E a t8.2)) hD hS hA [0, 1, 2, 3, 4, 5] rfl
            refine mVM (ci := 4) (n := 0) (rest := []) (As := []) CC hKN hGl (c_X4_readNumber l E a t8.2 t10 ht10 _) gX4_readClause_X4_readNumber rfl ⟨rfl, rfl⟩ (by decide +kernel) ⟨Nat.le_of_ble_eq_true rfl, Nat.le_of_ble_eq_true rfl⟩ hPc hDc m_nil m_nilA hS hFc rfl rfl rfl rfl hl.1 rfl (Nat.le_of_ble_eq_true rfl) ⟨Nat.zero_le _, Nat.zero_le _⟩ dX4_readClause_117 (fun H1 locs hP1 hD1 hz1 hk1 hS => ?_)
            have hP : va_P E.1 vwCl (Reader_c E a t10.2) H1 := hP1
            have hD : va_D A (Reader_c E a t10.2) := m_back hD1 hFc
            generalize H1 = H at hP hS ⊢
            refine W.eq (g2 := F0 m 120 ls [.int t10.1]) rfl ?_
            refine lv_if_ne (tgt := 125) hx hb dX4_readClause_120 (by decide) (fun c11 => ?_) (fun c11 => ?_)
            · have hF := m_pos c11 hF
              refine lv_iload_n hx hb dX4_readClause_125 rfl (lv_at hl 1 rfl) ?_
              obtain ⟨j141, hjd141, hF⟩ := m_jp hF
              have hj141 : ∀ (z0_141 : Int32) (H : Heap) (locs : List Loc) (ls : Array Slot), j141 z0_141 = some t → va_P E.1 vwCl (Reader_c E a t10.2) H → va_D A (Reader_c E a t10.2) → va_S A s.heap H locs → lv_has ls 3 [(0, .ref (Readera_self a))] → W p l e_ rmX4_readClause s m args below meth c H locs 0 0 Q (F0 m 141 ls [.int z0_141]) := by
                intro z0_141 H locs ls hF hP hD hS hl
                rw [hjd141] at hF
                refine lv_istore_n (lv' := [(2, .int z0_141), (0, .ref (Readera_self a))]) hx hb dX4_readClause_141 rfl hl (by decide) rfl (fun ls hl => ?_)
                refine lv_aload_n hx hb dX4_readClause_142 rfl (lv_at hl 1 rfl) ?_
                refine lv_bipush (v := 32) hx hb dX4_readClause_143 (by decide) ?_
                obtain ⟨t12, ht12, hF⟩ := m_bnd hF
                have hPc := hP
                have hDc := hD
                have hFc := va_free (wc := (Reader_c E a t10.2)) hD hS hA [0, 1, 2, 3, 4, 5] rfl
                refine mVM (ci := 4) (n := 1) (rest := []) (As := [.int 32]) CC hKN hGl (c_X4_take l E a t10.2 32 t12 ht12 _) gX4_readClause_X4_take rfl ⟨rfl, rfl⟩ (by decide +kernel) ⟨Nat.le_of_ble_eq_true rfl, Nat.le_of_ble_eq_true rfl⟩ hPc hDc m_nil m_nilA hS hFc rfl rfl rfl rfl hl.1 rfl (Nat.le_of_ble_eq_true rfl) ⟨Nat.zero_le _, Nat.zero_le _⟩ dX4_readClause_145 (fun H1 locs hP1 hD1 hz1 hk1 hS => ?_)
                have hP : va_P E.1 vwCl (Reader_c E a t12.2) H1 := hP1
                have hD : va_D A (Reader_c E a t12.2) := m_back hD1 hFc
                generalize H1 = H at hP hS ⊢
                refine W.eq (g2 := F0 m 148 ls [.int t12.1]) rfl ?_
                refine lv_if_eq (tgt := 159) hx hb dX4_readClause_148 (by decide) (fun c13 => ?_) (fun c13 => ?_)
                · have hF := m_pos c13 hF
                  refine lv_iconst (v := 0) hx hb dX4_readClause_159 (by decide) ?_
                  have hF := Option.some.inj hF
                  subst hF
                  rw [hQ]
                  exact W.zret hx hb hr rfl (fun t ht _ => ⟨⟨rfl, by rw [ht]; exact hP, hD⟩, hS.F ht⟩) hS.2.2 dX4_readClause_160
                · have hF := m_neg c13 hF
                  refine lv_aload_n hx hb dX4_readClause_151 rfl (lv_at hl 1 rfl) ?_
                  refine lv_iconst (v := 0) hx hb dX4_readClause_152 (by decide) ?_
                  obtain ⟨t14, ht14, hF⟩ := m_bnd hF
                  have hPc := hP
                  have hDc := hD
                  have hFc := va_free (wc := (Reader_c E a t12.2)) hD hS hA [0, 1, 2, 3, 4, 5] rfl
                  refine mVM (ci := 4) (n := 1) (rest := []) (As := [.int 0]) CC hKN hGl ((cg_Rd l E 24).1 a t12.2 0 t14 ht14 _) gX4_readClause_X4_readEither rfl ⟨rfl, rfl⟩ (by decide +kernel) ⟨Nat.le_of_ble_eq_true rfl, Nat.le_of_ble_eq_true rfl⟩ hPc hDc m_nil m_nilA hS hFc rfl rfl rfl rfl hl.1 rfl (Nat.le_of_ble_eq_true rfl) ⟨Nat.zero_le _, Nat.zero_le _⟩ dX4_readClause_153 (fun H1 locs hP1 hD1 hz1 hk1 hS => ?_)
                  have hP : va_P E.1 vwCl (Reader_c E a t14.2) H1 := hP1
                  have hD : va_D A (Reader_c E a t14.2) := m_back hD1 hFc
                  generalize H1 = H at hP hS ⊢
                  refine W.eq (g2 := F0 m 156 ls [.int t14.1]) rfl ?_
                  refine lv_if_ne (tgt := 161) hx hb dX4_readClause_156 (by decide) (fun c15 => ?_) (fun c15 => ?_)
                  · have hF := m_pos c15 hF
                    refine lv_aload_n hx hb dX4_readClause_161 rfl (lv_at hl 1 rfl) ?_
                    refine va_get (D := E.1) (ci := 4) (v := .ref (Lessona_self (Readera_lesson a))) (C := RX4) (T := TX4) (N := 5) hx hb hts k1 hown hK hP 0 rfl rfl 4 (by decide) k0 (fun _ h9 => h9) rfl dX4_readClause_162 ?_
                    refine lv_iload_n hx hb dX4_readClause_165 rfl (lv_at hl 0 rfl) ?_
                    obtain ⟨t16, ht16, hF⟩ := m_bnd hF
                    have hpm : List.Perm (Reader_c E a t14.2) ((Lesson_c E (Readera_lesson a) (Reader_lesson t14.2)) ++ ((List.take 2 (Reader_c E a t14.2)) ++ (List.drop 6 (Reader_c E a t14.2)))) := m_p1 (A := (List.take 2 (Reader_c E a t14.2))) (m := (Lesson_c E (Readera_lesson a) (Reader_lesson t14.2))) (C := (List.drop 6 (Reader_c E a t14.2)))
                    obtain ⟨hPc, hDc, hFc⟩ := m_pre hpm hP hD hS hA
                    refine mVM (ci := 3) (n := 1) (rest := []) (As := [.int z0_141]) CC hKN hGl (c_X3_addSpur l E (Readera_lesson a) (Reader_lesson t14.2) z0_141 t16 ht16 _) gX4_readClause_X3_addSpur rfl ⟨rfl, rfl⟩ (by decide +kernel) ⟨Nat.le_of_ble_eq_true rfl, Nat.le_of_ble_eq_true rfl⟩ hPc hDc m_nil m_nilA hS hFc rfl rfl rfl rfl hl.1 rfl (Nat.le_of_ble_eq_true rfl) ⟨Nat.zero_le _, Nat.zero_le _⟩ dX4_readClause_166 (fun H1 locs hP1 hD1 hz1 hk1 hS => ?_)
                    have hpn : List.Perm (Reader_c E a (Reader_lesson_s t14.2 t16)) ((Lesson_c E (Readera_lesson a) t16) ++ ((List.take 2 (Reader_c E a t14.2)) ++ (List.drop 6 (Reader_c E a t14.2)))) := m_p1 (A := (List.take 2 (Reader_c E a t14.2))) (m := (Lesson_c E (Readera_lesson a) t16)) (C := (List.drop 6 (Reader_c E a t14.2)))
                    obtain ⟨hP, hD⟩ := m_spl hpm hpn hP hD hk1 hFc hP1 hD1
                    generalize H1 = H at hP hS ⊢
                    refine W.eq (g2 := F0 m 169 ls []) rfl ?_
                    refine lv_iconst (v := 1) hx hb dX4_readClause_169 (by decide) ?_
                    have hF := Option.some.inj hF
                    subst hF
                    rw [hQ]
                    exact W.zret hx hb hr rfl (fun t ht _ => ⟨⟨rfl, by rw [ht]; exact hP, hD⟩, hS.F ht⟩) hS.2.2 dX4_readClause_170
                  · have hF := m_neg (fun n9 => n9 c15) hF
                    refine lv_iconst (v := 0) hx hb dX4_readClause_159 (by decide) ?_
                    have hF := Option.some.inj hF
                    subst hF
                    rw [hQ]
                    exact W.zret hx hb hr rfl (fun t ht _ => ⟨⟨rfl, by rw [ht]; exact hP, hD⟩, hS.F ht⟩) hS.2.2 dX4_readClause_160
              clear hjd141
              refine lv_if_eq (tgt := 136) hx hb dX4_readClause_126 (by decide) (fun c17 => ?_) (fun c17 => ?_)
              · have hF := m_pos c17 hF
                refine lv_aload_n hx hb dX4_readClause_136 rfl (lv_at hl 0 rfl) ?_
                refine va_get (D := E.1) (ci := 4) (v := .int (Reader_number t10.2)) (C := RX4) (T := TX4) (N := 5) hx hb hts k1 hown hK hP 0 rfl rfl 3 (by decide) k2 (fun _ h9 => h9) rfl dX4_readClause_137 ?_
                refine lv_ineg hx hb dX4_readClause_140 ?_
                exact hj141 (-(Reader_number t10.2)) H locs ls hF hP hD hS (lv_sub hl [0] rfl)
              · have hF := m_neg c17 hF
                refine lv_aload_n hx hb dX4_readClause_129 rfl (lv_at hl 0 rfl) ?_
                refine va_get (D := E.1) (ci := 4) (v := .int (Reader_number t10.2)) (C := RX4) (T := TX4) (N := 5) hx hb hts k1 hown hK hP 0 rfl rfl 3 (by decide) k2 (fun _ h9 => h9) rfl dX4_readClause_130 ?_
                refine lv_goto (tgt := 141) hx hb dX4_readClause_133 (by decide) ?_
                exact hj141 (Reader_number t10.2) H locs ls hF hP hD hS (lv_sub hl [0] rfl)
            · have hF := m_neg (fun n9 => n9 c11) hF
              refine lv_iconst (v := 0) hx hb dX4_readClause_123 (by decide) ?_
              have hF := Option.some.inj hF
              subst hF
              rw [hQ]
              exact W.zret hx hb hr rfl (fun t ht _ => ⟨⟨rfl, by rw [ht]; exact hP, hD⟩, hS.F ht⟩) hS.2.2 dX4_readClause_124
        clear hjd110
        refine lv_if_eq (tgt := 108) hx hb dX4_readClause_100 (by decide) (fun c18 => ?_) (fun c18 => ?_)
        · have hF := m_pos c18 hF
          refine va_ldcS hx hb hown k3 dX4_readClause_108 ?_
          exact hj110 3 H locs ls hF hP hD hS (lv_sub hl [1, 0] rfl)
        · have hF := m_neg c18 hF
          refine va_ldcS hx hb hown k4 dX4_readClause_103 ?_
          refine lv_goto (tgt := 110) hx hb dX4_readClause_105 (by decide) ?_
          exact hj110 8 H locs ls hF hP hD hS (lv_sub hl [1, 0] rfl)
      · have hF := m_neg (fun n9 => n9 c6) hF
        refine lv_iconst (v := 0) hx hb dX4_readClause_89 (by decide) ?_
        have hF := Option.some.inj hF
        subst hF
        rw [hQ]
        exact W.zret hx hb hr rfl (fun t ht _ => ⟨⟨rfl, by rw [ht]; exact hP, hD⟩, hS.F ht⟩) hS.2.2 dX4_readClause_90
    · have hF := m_neg c4 hF
      refine lv_aload_n hx hb dX4_readClause_49 rfl (lv_at hl 0 rfl) ?_
      refine va_ldcS hx hb hown k5 dX4_readClause_50 ?_
      obtain ⟨t19, ht19, hF⟩ := m_bnd hF
      have hPc := hP
      have hDc := hD
      have hFc := va_free (wc := (Reader_c E a t3.2)) hD hS hA [0, 1, 2, 3, 4, 5] rfl
      refine mVM (ci := 4) (n := 1) (rest := []) (As := [.ref (m_adK E 7)]) CC hKN hGl (c_X4_readWord l E a t3.2 7 t19 ht19 _) gX4_readClause_X4_readWord rfl ⟨rfl, rfl⟩ (by decide +kernel) ⟨Nat.le_of_ble_eq_true rfl, Nat.le_of_ble_eq_true rfl⟩ hPc hDc m_nil m_nilA hS hFc rfl rfl rfl rfl hl.1 rfl (Nat.le_of_ble_eq_true rfl) ⟨Nat.zero_le _, Nat.zero_le _⟩ dX4_readClause_52 (fun H1 locs hP1 hD1 hz1 hk1 hS => ?_)
      have hP : va_P E.1 vwCl (Reader_c E a t19.2) H1 := hP1
      have hD : va_D A (Reader_c E a t19.2) := m_back hD1 hFc
      generalize H1 = H at hP hS ⊢
      refine W.eq (g2 := F0 m 55 ls [.int t19.1]) rfl ?_
      refine lv_if_eq (tgt := 65) hx hb dX4_readClause_55 (by decide) (fun c20 => ?_) (fun c20 => ?_)
      · have hF := m_pos c20 hF
        refine lv_iconst (v := 0) hx hb dX4_readClause_65 (by decide) ?_
        have hF := Option.some.inj hF
        subst hF
        rw [hQ]
        exact W.zret hx hb hr rfl (fun t ht _ => ⟨⟨rfl, by rw [ht]; exact hP, hD⟩, hS.F ht⟩) hS.2.2 dX4_readClause_66
      · have hF := m_neg c20 hF
        refine lv_aload_n hx hb dX4_readClause_58 rfl (lv_at hl 0 rfl) ?_
        obtain ⟨t21, ht21, hF⟩ := m_bnd hF
        have hPc := hP
        have hDc := hD
        have hFc := va_free (wc := (Reader_c E a t19.2)) hD hS hA [0, 1, 2, 3, 4, 5] rfl
        refine mVM (ci := 4) (n := 0) (rest := []) (As := []) CC hKN hGl (c_X4_readNumber l E a t19.2 t21 ht21 _) gX4_readClause_X4_readNumber rfl ⟨rfl, rfl⟩ (by decide +kernel) ⟨Nat.le_of_ble_eq_true rfl, Nat.le_of_ble_eq_true rfl⟩ hPc hDc m_nil m_nilA hS hFc rfl rfl rfl rfl hl.1 rfl (Nat.le_of_ble_eq_true rfl) ⟨Nat.zero_le _, Nat.zero_le _⟩ dX4_readClause_59 (fun H1 locs hP1 hD1 hz1 hk1 hS => ?_)
        have hP : va_P E.1 vwCl (Reader_c E a t21.2) H1 := hP1
        have hD : va_D A (Reader_c E a t21.2) := m_back hD1 hFc
        generalize H1 = H at hP hS ⊢
        refine W.eq (g2 := F0 m 62 ls [.int t21.1]) rfl ?_
        refine lv_if_ne (tgt := 67) hx hb dX4_readClause_62 (by decide) (fun c22 => ?_) (fun c22 => ?_)
        · have hF := m_pos c22 hF
          refine lv_aload_n hx hb dX4_readClause_67 rfl (lv_at hl 0 rfl) ?_
          refine va_get (D := E.1) (ci := 4) (v := .ref (Lessona_self (Readera_lesson a))) (C := RX4) (T := TX4) (N := 5) hx hb hts k1 hown hK hP 0 rfl rfl 4 (by decide) k0 (fun _ h9 => h9) rfl dX4_readClause_68 ?_
          refine lv_aload_n hx hb dX4_readClause_71 rfl (lv_at hl 0 rfl) ?_
          refine va_get (D := E.1) (ci := 4) (v := .int (Reader_number t21.2)) (C := RX4) (T := TX4) (N := 5) hx hb hts k1 hown hK hP 0 rfl rfl 3 (by decide) k2 (fun _ h9 => h9) rfl dX4_readClause_72 ?_
          refine va_putN (D := E.1) (ci := 3) (v := .int (Reader_number t21.2)) (ty := .int) (C := RX3) (T := TX3) (N := 7) hx hb hts k7 tyX3 tyX3_ok nmX3 hown hK hP hD hS 2 rfl rfl 6 (by decide) k6 (fun _ h9 => h9) rfl (by decide +kernel) rfl rfl (Nat.le_of_ble_eq_true rfl) dX4_readClause_75 (fun H locs hP hD hS => ?_)
          have hP : va_P E.1 vwCl (Reader_c E a (Reader_lesson_s t21.2 (Lesson_fair_s (Reader_lesson t21.2) (Reader_number t21.2)))) H := hP
          have hD : va_D A (Reader_c E a (Reader_lesson_s t21.2 (Lesson_fair_s (Reader_lesson t21.2) (Reader_number t21.2)))) := hD
          refine lv_iconst (v := 1) hx hb dX4_readClause_78 (by decide) ?_
          have hF := Option.some.inj hF
          subst hF
          rw [hQ]
          exact W.zret hx hb hr rfl (fun t ht _ => ⟨⟨rfl, by rw [ht]; exact hP, hD⟩, hS.F ht⟩) hS.2.2 dX4_readClause_79
        · have hF := m_neg (fun n9 => n9 c22) hF
          refine lv_iconst (v := 0) hx hb dX4_readClause_65 (by decide) ?_
          have hF := Option.some.inj hF
          subst hF
          rw [hQ]
          exact W.zret hx hb hr rfl (fun t ht _ => ⟨⟨rfl, by rw [ht]; exact hP, hD⟩, hS.F ht⟩) hS.2.2 dX4_readClause_66
  · have hF := m_neg c2 hF
    refine lv_aload_n hx hb dX4_readClause_9 rfl (lv_at hl 0 rfl) ?_
    refine va_ldcS hx hb hown k8 dX4_readClause_10 ?_
    obtain ⟨t23, ht23, hF⟩ := m_bnd hF
    have hPc := hP
    have hDc := hD
    have hFc := va_free (wc := (Reader_c E a t1.2)) hD hS hA [0, 1, 2, 3, 4, 5] rfl
    refine mVM (ci := 4) (n := 1) (rest := []) (As := [.ref (m_adK E 6)]) CC hKN hGl (c_X4_readWord l E a t1.2 6 t23 ht23 _) gX4_readClause_X4_readWord rfl ⟨rfl, rfl⟩ (by decide +kernel) ⟨Nat.le_of_ble_eq_true rfl, Nat.le_of_ble_eq_true rfl⟩ hPc hDc m_nil m_nilA hS hFc rfl rfl rfl rfl hl.1 rfl (Nat.le_of_ble_eq_true rfl) ⟨Nat.zero_le _, Nat.zero_le _⟩ dX4_readClause_12 (fun H1 locs hP1 hD1 hz1 hk1 hS => ?_)
    have hP : va_P E.1 vwCl (Reader_c E a t23.2) H1 := hP1
    have hD : va_D A (Reader_c E a t23.2) := m_back hD1 hFc
    generalize H1 = H at hP hS ⊢
    refine W.eq (g2 := F0 m 15 ls [.int t23.1]) rfl ?_
    refine lv_if_eq (tgt := 25) hx hb dX4_readClause_15 (by decide) (fun c24 => ?_) (fun c24 => ?_)
    · have hF := m_pos c24 hF
      refine lv_iconst (v := 0) hx hb dX4_readClause_25 (by decide) ?_
      have hF := Option.some.inj hF
      subst hF
      rw [hQ]
      exact W.zret hx hb hr rfl (fun t ht _ => ⟨⟨rfl, by rw [ht]; exact hP, hD⟩, hS.F ht⟩) hS.2.2 dX4_readClause_26
    · have hF := m_neg c24 hF
      refine lv_aload_n hx hb dX4_readClause_18 rfl (lv_at hl 0 rfl) ?_
      obtain ⟨t25, ht25, hF⟩ := m_bnd hF
      have hPc := hP
      have hDc := hD
      have hFc := va_free (wc := (Reader_c E a t23.2)) hD hS hA [0, 1, 2, 3, 4, 5] rfl
      refine mVM (ci := 4) (n := 0) (rest := []) (As := []) CC hKN hGl (c_X4_readNumber l E a t23.2 t25 ht25 _) gX4_readClause_X4_readNumber rfl ⟨rfl, rfl⟩ (by decide +kernel) ⟨Nat.le_of_ble_eq_true rfl, Nat.le_of_ble_eq_true rfl⟩ hPc hDc m_nil m_nilA hS hFc rfl rfl rfl rfl hl.1 rfl (Nat.le_of_ble_eq_true rfl) ⟨Nat.zero_le _, Nat.zero_le _⟩ dX4_readClause_19 (fun H1 locs hP1 hD1 hz1 hk1 hS => ?_)
      have hP : va_P E.1 vwCl (Reader_c E a t25.2) H1 := hP1
      have hD : va_D A (Reader_c E a t25.2) := m_back hD1 hFc
      generalize H1 = H at hP hS ⊢
      refine W.eq (g2 := F0 m 22 ls [.int t25.1]) rfl ?_
      refine lv_if_ne (tgt := 27) hx hb dX4_readClause_22 (by decide) (fun c26 => ?_) (fun c26 => ?_)
      · have hF := m_pos c26 hF
        refine lv_aload_n hx hb dX4_readClause_27 rfl (lv_at hl 0 rfl) ?_
        refine va_get (D := E.1) (ci := 4) (v := .ref (Lessona_self (Readera_lesson a))) (C := RX4) (T := TX4) (N := 5) hx hb hts k1 hown hK hP 0 rfl rfl 4 (by decide) k0 (fun _ h9 => h9) rfl dX4_readClause_28 ?_
        refine lv_aload_n hx hb dX4_readClause_31 rfl (lv_at hl 0 rfl) ?_
        refine va_get (D := E.1) (ci := 4) (v := .int (Reader_number t25.2)) (C := RX4) (T := TX4) (N := 5) hx hb hts k1 hown hK hP 0 rfl rfl 3 (by decide) k2 (fun _ h9 => h9) rfl dX4_readClause_32 ?_
        refine va_putN (D := E.1) (ci := 3) (v := .int (Reader_number t25.2)) (ty := .int) (C := RX3) (T := TX3) (N := 7) hx hb hts k7 tyX3 tyX3_ok nmX3 hown hK hP hD hS 2 rfl rfl 5 (by decide) k9 (fun _ h9 => h9) rfl (by decide +kernel) rfl rfl (Nat.le_of_ble_eq_true rfl) dX4_readClause_35 (fun H locs hP hD hS => ?_)
        have hP : va_P E.1 vwCl (Reader_c E a (Reader_lesson_s t25.2 (Lesson_toldGoal_s (Reader_lesson t25.2) (Reader_number t25.2)))) H := hP
        have hD : va_D A (Reader_c E a (Reader_lesson_s t25.2 (Lesson_toldGoal_s (Reader_lesson t25.2) (Reader_number t25.2)))) := hD
        refine lv_iconst (v := 1) hx hb dX4_readClause_38 (by decide) ?_
        have hF := Option.some.inj hF
        subst hF
        rw [hQ]
        exact W.zret hx hb hr rfl (fun t ht _ => ⟨⟨rfl, by rw [ht]; exact hP, hD⟩, hS.F ht⟩) hS.2.2 dX4_readClause_39
      · have hF := m_neg (fun n9 => n9 c26) hF
        refine lv_iconst (v := 0) hx hb dX4_readClause_25 (by decide) ?_
        have hF := Option.some.inj hF
        subst hF
        rw [hQ]
        exact W.zret hx hb hr rfl (fun t ht _ => ⟨⟨rfl, by rw [ht]; exact hP, hD⟩, hS.F ht⟩) hS.2.2 dX4_readClause_26

abbrev rmX7_of : Room := { frames := 4, cells := 0, slots := 0, locals := 101 }
set_option maxRecDepth 100000 in
set_option maxHeartbeats 400000 in
theorem c_X7_of (l : Launch) (E : mE) (a : OneA) (v : OneV) (e : LessonA) (le : LessonV) (x0 : Int32) (x1 : Int32) (t : Int32) (hF : fn_X7_of v le (Lessona_self e) x0 x1 = some t) : Met l yX7_of wsX7_of rmX7_of (mPp E [.ref (Onea_self a), .int x0, .int x1] ((One_c E a v) ++ (Lesson_c E e le))) (mSp (some (.int t))) 0 0 (fun _ => False) := by
  refine mOfP (cc := cX7_of) (maxL := 4) (ret := (some .int)) (by decide) rfl (Nat.le_of_ble_eq_true rfl) ?_
  intro p e_ s m args below meth c Q hQ CC hr hlocks hP hKN hGl ls hl
  have hS : va_S (fun _ => False) s.heap s.heap [] := va_S.rf
  have hK := hKN.1
  have hx := CC.1
  have hb := CC.2.1
  have hml := CC.2.2.1
  have hown : s.vm.findClass RX7 = some m.cls := CC.2.2.2.1
  have hts := CC.2.2.2.2
  have hl : lv_has ls 4 [(0, .ref (Onea_self a)), (1, .int x0), (2, .int x1)] := hl
  have k0 := hts (.fieldLink RX7 12 "OneDidAll" "now" "LOneDidAll$Room;") (by decide +kernel)
  have k1 := (show ∀ w ∈ u_ws RX7 TX7 5, w ∈ wsX7_of by decide +kernel)
  have k2 := (va_Nw.use rfl (hKN.2.1 ("OneDidAll", 74, "OneDidAll$Room", "group", "LOneDidAll$Group;", "OneDidAll") (by decide +kernel)) : (Cond.fieldLinkNest "OneDidAll" 74 "OneDidAll$Room" "group" "LOneDidAll$Group;" "OneDidAll").before args s = true)
  have k3 := (show ∀ w ∈ u_ws RX5 TX5 9, w ∈ wsX7_of by decide +kernel)
  have k4 := (va_Nw.use rfl (hKN.2.1 ("OneDidAll", 90, "OneDidAll$Group", "kinds", "[I", "OneDidAll") (by decide +kernel)) : (Cond.fieldLinkNest "OneDidAll" 90 "OneDidAll$Group" "kinds" "[I" "OneDidAll").before args s = true)
  have k5 := (show ∀ w ∈ u_ws RX2 TX2 11, w ∈ wsX7_of by decide +kernel)
  have k6 := (va_Nw.use rfl (hKN.2.1 ("OneDidAll", 94, "OneDidAll$Group", "vs", "[I", "OneDidAll") (by decide +kernel)) : (Cond.fieldLinkNest "OneDidAll" 94 "OneDidAll$Group" "vs" "[I" "OneDidAll").before args s = true)
  have k7 := (va_Nw.use rfl (hKN.2.1 ("OneDidAll", 97, "OneDidAll$Group", "skills", "[I", "OneDidAll") (by decide +kernel)) : (Cond.fieldLinkNest "OneDidAll" 97 "OneDidAll$Group" "skills" "[I" "OneDidAll").before args s = true)
  have k8 := (va_Nw.use rfl (hKN.2.1 ("OneDidAll", 100, "OneDidAll$Group", "wills", "[I", "OneDidAll") (by decide +kernel)) : (Cond.fieldLinkNest "OneDidAll" 100 "OneDidAll$Group" "wills" "[I" "OneDidAll").before args s = true)
  have k9 := (va_Nw.use rfl (hKN.2.1 ("OneDidAll", 103, "OneDidAll$Group", "hours", "[I", "OneDidAll") (by decide +kernel)) : (Cond.fieldLinkNest "OneDidAll" 103 "OneDidAll$Group" "hours" "[I" "OneDidAll").before args s = true)
  have k10 := (va_Nw.use rfl (hKN.2.1 ("OneDidAll", 106, "OneDidAll$Group", "outs", "[Z", "OneDidAll") (by decide +kernel)) : (Cond.fieldLinkNest "OneDidAll" 106 "OneDidAll$Group" "outs" "[Z" "OneDidAll").before args s = true)
  unfold fn_X7_of at hF
  refine lv_aload_n hx hb dX7_of_0 rfl (lv_at hl 0 rfl) ?_
  refine lv_iload_n hx hb dX7_of_1 rfl (lv_at hl 1 rfl) ?_
  obtain ⟨t1, ht1, hF⟩ := m_bnd hF
  have hPc := m_cutP (mid := (One_c E a v)) hP 0 64 rfl
  refine mVP (ci := 7) (n := 1) (rest := []) (As := [.int x0]) CC hKN hGl hS (c_X7_isPupil l E a v x0 t1 ht1) gX7_of_X7_isPupil rfl ⟨rfl, rfl⟩ (by decide +kernel) ⟨Nat.le_of_ble_eq_true rfl, Nat.le_of_ble_eq_true rfl⟩ hPc rfl rfl rfl rfl hl.1 rfl (Nat.le_of_ble_eq_true rfl) ⟨Nat.zero_le _, Nat.zero_le _⟩ dX7_of_2 ?_
  refine W.eq (g2 := F0 m 5 ls [.int t1]) rfl ?_
  refine lv_if_ne (tgt := 10) hx hb dX7_of_5 (by decide) (fun c2 => ?_) (fun c2 => ?_)
  · have hF := m_pos c2 hF
    refine lv_aload_n hx hb dX7_of_10 rfl (lv_at hl 0 rfl) ?_
    refine va_get (D := E.1) (ci := 7) (v := .ref (Rooma_self (Onea_now a))) (C := RX7) (T := TX7) (N := 5) hx hb hts k1 hown hK hP 0 rfl rfl 0 (by decide) k0 (fun _ h9 => h9) rfl dX7_of_11 ?_
    refine va_getN (D := E.1) (ci := 5) (v := .ref (Groupa_self (Rooma_group (Onea_now a)))) (C := RX5) (T := TX5) (N := 9) hx hb hts k3 hown hK hP 1 rfl rfl 0 (by decide) k2 (fun _ h9 => h9) rfl dX7_of_14 ?_
    refine lv_astore_n (lv' := [(3, .ref (Groupa_self (Rooma_group (Onea_now a)))), (0, .ref (Onea_self a)), (1, .int x0), (2, .int x1)]) hx hb dX7_of_17 rfl hl (by decide) rfl (fun ls hl => ?_)
    refine lv_iload_n hx hb dX7_of_18 rfl (lv_at hl 3 rfl) ?_
    by_cases c3 : x1 = 0
    · have hF := m_pos c3 hF
      refine lv_tableIn (off := 53) (tgt := 72) hx hb dX7_of_19 (by rw [c3]; decide) (by rw [c3]; decide) (by rw [c3]; rfl) (by decide) ?_
      refine lv_aload_n hx hb dX7_of_72 rfl (lv_at hl 0 rfl) ?_
      refine va_getN (D := E.1) (ci := 2) (v := .ref (Groupa_kinds (Rooma_group (Onea_now a)))) (C := RX2) (T := TX2) (N := 11) hx hb hts k5 hown hK hP 2 rfl rfl 3 (by decide) k4 (fun _ h9 => h9) rfl dX7_of_73 ?_
      refine lv_iload_n hx hb dX7_of_76 rfl (lv_at hl 2 rfl) ?_
      obtain ⟨h4, hF⟩ := m_chk hF
      refine va_iald (f := (Group_kinds (Room_group (One_now v)))) hx hb hK hP 3 1 rfl rfl (mIn_ok h4) dX7_of_77 ?_
      refine W.eq (g2 := F0 m 78 ls [.int ((Group_kinds (Room_group (One_now v))) (x0).toNatClampNeg)]) rfl ?_
      have hF := Option.some.inj hF
      subst hF
      rw [hQ]
      exact W.iret hx hb hr (fun t ht _ => ⟨rfl, ht⟩) (fun _ h => by cases h) dX7_of_78
    · have hF := m_neg c3 hF
      by_cases c5 : x1 = 1
      · have hF := m_pos c5 hF
        refine lv_tableIn (off := 60) (tgt := 79) hx hb dX7_of_19 (by rw [c5]; decide) (by rw [c5]; decide) (by rw [c5]; rfl) (by decide) ?_
        refine lv_aload_n hx hb dX7_of_79 rfl (lv_at hl 0 rfl) ?_
        refine va_getN (D := E.1) (ci := 2) (v := .ref (Groupa_vs (Rooma_group (Onea_now a)))) (C := RX2) (T := TX2) (N := 11) hx hb hts k5 hown hK hP 2 rfl rfl 4 (by decide) k6 (fun _ h9 => h9) rfl dX7_of_80 ?_
        refine lv_iload_n hx hb dX7_of_83 rfl (lv_at hl 2 rfl) ?_
        obtain ⟨h6, hF⟩ := m_chk hF
        refine va_iald (f := (Group_vs (Room_group (One_now v)))) hx hb hK hP 4 1 rfl rfl (mIn_ok h6) dX7_of_84 ?_
        refine W.eq (g2 := F0 m 85 ls [.int ((Group_vs (Room_group (One_now v))) (x0).toNatClampNeg)]) rfl ?_
        have hF := Option.some.inj hF
        subst hF
        rw [hQ]
        exact W.iret hx hb hr (fun t ht _ => ⟨rfl, ht⟩) (fun _ h => by cases h) dX7_of_85
      · have hF := m_neg c5 hF
        by_cases c7 : x1 = 2
        · have hF := m_pos c7 hF
          refine lv_tableIn (off := 67) (tgt := 86) hx hb dX7_of_19 (by rw [c7]; decide) (by rw [c7]; decide) (by rw [c7]; rfl) (by decide) ?_
          refine lv_aload_n hx hb dX7_of_86 rfl (lv_at hl 0 rfl) ?_
          refine va_getN (D := E.1) (ci := 2) (v := .ref (Groupa_skills (Rooma_group (Onea_now a)))) (C := RX2) (T := TX2) (N := 11) hx hb hts k5 hown hK hP 2 rfl rfl 5 (by decide) k7 (fun _ h9 => h9) rfl dX7_of_87 ?_
          refine lv_iload_n hx hb dX7_of_90 rfl (lv_at hl 2 rfl) ?_
          obtain ⟨h8, hF⟩ := m_chk hF
          refine va_iald (f := (Group_skills (Room_group (One_now v)))) hx hb hK hP 5 1 rfl rfl (mIn_ok h8) dX7_of_91 ?_
          refine W.eq (g2 := F0 m 92 ls [.int ((Group_skills (Room_group (One_now v))) (x0).toNatClampNeg)]) rfl ?_
          have hF := Option.some.inj hF
          subst hF
          rw [hQ]
          exact W.iret hx hb hr (fun t ht _ => ⟨rfl, ht⟩) (fun _ h => by cases h) dX7_of_92
        · have hF := m_neg c7 hF
          by_cases c9 : x1 = 3
          · have hF := m_pos c9 hF
            refine lv_tableIn (off := 74) (tgt := 93) hx hb dX7_of_19 (by rw [c9]; decide) (by rw [c9]; decide) (by rw [c9]; rfl) (by decide) ?_
            refine lv_aload_n hx hb dX7_of_93 rfl (lv_at hl 0 rfl) ?_
            refine va_getN (D := E.1) (ci := 2) (v := .ref (Groupa_wills (Rooma_group (Onea_now a)))) (C := RX2) (T := TX2) (N := 11) hx hb hts k5 hown hK hP 2 rfl rfl 6 (by decide) k8 (fun _ h9 => h9) rfl dX7_of_94 ?_
            refine lv_iload_n hx hb dX7_of_97 rfl (lv_at hl 2 rfl) ?_
            obtain ⟨h10, hF⟩ := m_chk hF
            refine va_iald (f := (Group_wills (Room_group (One_now v)))) hx hb hK hP 6 1 rfl rfl (mIn_ok h10) dX7_of_98 ?_
            refine W.eq (g2 := F0 m 99 ls [.int ((Group_wills (Room_group (One_now v))) (x0).toNatClampNeg)]) rfl ?_
            have hF := Option.some.inj hF
            subst hF
            rw [hQ]
            exact W.iret hx hb hr (fun t ht _ => ⟨rfl, ht⟩) (fun _ h => by cases h) dX7_of_99
          · have hF := m_neg c9 hF
            by_cases c11 : x1 = 4
            · have hF := m_pos c11 hF
              refine lv_tableIn (off := 81) (tgt := 100) hx hb dX7_of_19 (by rw [c11]; decide) (by rw [c11]; decide) (by rw [c11]; rfl) (by decide) ?_
              refine lv_aload_n hx hb dX7_of_100 rfl (lv_at hl 0 rfl) ?_
              refine va_getN (D := E.1) (ci := 2) (v := .ref (Groupa_hours (Rooma_group (Onea_now a)))) (C := RX2) (T := TX2) (N := 11) hx hb hts k5 hown hK hP 2 rfl rfl 7 (by decide) k9 (fun _ h9 => h9) rfl dX7_of_101 ?_
              refine lv_iload_n hx hb dX7_of_104 rfl (lv_at hl 2 rfl) ?_
              obtain ⟨h12, hF⟩ := m_chk hF
              refine va_iald (f := (Group_hours (Room_group (One_now v)))) hx hb hK hP 7 1 rfl rfl (mIn_ok h12) dX7_of_105 ?_
              refine W.eq (g2 := F0 m 106 ls [.int ((Group_hours (Room_group (One_now v))) (x0).toNatClampNeg)]) rfl ?_
              have hF := Option.some.inj hF
              subst hF
              rw [hQ]
              exact W.iret hx hb hr (fun t ht _ => ⟨rfl, ht⟩) (fun _ h => by cases h) dX7_of_106
            · have hF := m_neg c11 hF
              by_cases c13 : x1 = 5
              · have hF := m_pos c13 hF
                refine lv_tableIn (off := 88) (tgt := 107) hx hb dX7_of_19 (by rw [c13]; decide) (by rw [c13]; decide) (by rw [c13]; rfl) (by decide) ?_
                refine lv_aload_n hx hb dX7_of_107 rfl (lv_at hl 0 rfl) ?_
                refine va_getN (D := E.1) (ci := 2) (v := .ref (Groupa_outs (Rooma_group (Onea_now a)))) (C := RX2) (T := TX2) (N := 11) hx hb hts k5 hown hK hP 2 rfl rfl 8 (by decide) k10 (fun _ h9 => h9) rfl dX7_of_108 ?_
                refine lv_iload_n hx hb dX7_of_111 rfl (lv_at hl 2 rfl) ?_
                obtain ⟨h14, hF⟩ := m_chk hF
                refine va_zald (f := (Group_outs (Room_group (One_now v)))) hx hb hK hP 8 2 rfl rfl (mIn_ok h14) dX7_of_112 ?_
                refine W.eq (g2 := F0 m 113 ls [.int ((Group_outs (Room_group (One_now v))) (x0).toNatClampNeg)]) rfl ?_
                refine lv_if_eq (tgt := 120) hx hb dX7_of_113 (by decide) (fun c15 => ?_) (fun c15 => ?_)
                · have hF := m_pos c15 hF
                  refine lv_iconst (v := 0) hx hb dX7_of_120 (by decide) ?_
                  have hF := Option.some.inj hF
                  subst hF
                  rw [hQ]
                  exact W.iret hx hb hr (fun t ht _ => ⟨rfl, ht⟩) (fun _ h => by cases h) dX7_of_121
                · have hF := m_neg c15 hF
                  refine lv_iconst (v := 1) hx hb dX7_of_116 (by decide) ?_
                  refine lv_goto (tgt := 121) hx hb dX7_of_117 (by decide) ?_
                  have hF := Option.some.inj hF
                  subst hF
                  rw [hQ]
                  exact W.iret hx hb hr (fun t ht _ => ⟨rfl, ht⟩) (fun _ h => by cases h) dX7_of_121
              · have hF := m_neg c13 hF
                by_cases c16 : x1 = 6
                · have hF := m_pos c16 hF
                  refine lv_tableIn (off := 103) (tgt := 122) hx hb dX7_of_19 (by rw [c16]; decide) (by rw [c16]; decide) (by rw [c16]; rfl) (by decide) ?_
                  refine lv_aload_n hx hb dX7_of_122 rfl (lv_at hl 1 rfl) ?_
                  refine va_get (D := E.1) (ci := 7) (v := .ref (Rooma_self (Onea_now a))) (C := RX7) (T := TX7) (N := 5) hx hb hts k1 hown hK hP 0 rfl rfl 0 (by decide) k0 (fun _ h9 => h9) rfl dX7_of_123 ?_
                  obtain ⟨t17, ht17, hF⟩ := m_bnd hF
                  have hPc := m_cutP (mid := (Room_c E (Onea_now a) (One_now v))) hP 1 21 rfl
                  refine mVP (ci := 5) (n := 0) (rest := []) (As := []) CC hKN hGl hS (c_X5_lesson l E (Onea_now a) (One_now v) t17 ht17) gX7_of_X5_lesson rfl ⟨rfl, rfl⟩ (by decide +kernel) ⟨Nat.le_of_ble_eq_true rfl, Nat.le_of_ble_eq_true rfl⟩ hPc rfl rfl rfl rfl hl.1 rfl (Nat.le_of_ble_eq_true rfl) ⟨Nat.zero_le _, Nat.zero_le _⟩ dX7_of_126 ?_
                  refine W.eq (g2 := F0 m 129 ls [.ref t17]) rfl ?_
                  refine lv_aload_n hx hb dX7_of_129 rfl (lv_at hl 0 rfl) ?_
                  refine lv_iload_n hx hb dX7_of_130 rfl (lv_at hl 2 rfl) ?_
                  obtain ⟨h18, hF⟩ := m_chk hF
                  refine W.eq (g2 := F0 m 131 ls [.int x0, .ref (Groupa_self (Rooma_group (Onea_now a))), .ref (Lessona_self e)]) (by rw [h18]) ?_
                  obtain ⟨t19, ht19, hF⟩ := m_bnd hF
                  have hPc := hP.sub (ws' := ((Lesson_c E e le) ++ (Group_c E (Rooma_group (Onea_now a)) (Room_group (One_now v))))) [64, 65, 66, 67, 2, 3, 4, 5, 6, 7, 8, 9, 10] rfl
                  refine mVP (ci := 3) (n := 2) (rest := []) (As := [.ref (Groupa_self (Rooma_group (Onea_now a))), .int x0]) CC hKN hGl hS (c_X3_zealOf l E e le (Rooma_group (Onea_now a)) (Room_group (One_now v)) x0 t19 ht19) gX7_of_X3_zealOf rfl ⟨rfl, rfl⟩ (by decide +kernel) ⟨Nat.le_of_ble_eq_true rfl, Nat.le_of_ble_eq_true rfl⟩ hPc rfl rfl rfl rfl hl.1 rfl (Nat.le_of_ble_eq_true rfl) ⟨Nat.zero_le _, Nat.zero_le _⟩ dX7_of_131 ?_
                  refine W.eq (g2 := F0 m 134 ls [.int t19]) rfl ?_
                  have hF := Option.some.inj hF
                  subst hF
                  rw [hQ]
                  exact W.iret hx hb hr (fun t ht _ => ⟨rfl, ht⟩) (fun _ h => by cases h) dX7_of_134
                · have hF := m_neg c16 hF
                  by_cases c20 : x1 = 7
                  · have hF := m_pos c20 hF
                    refine lv_tableIn (off := 116) (tgt := 135) hx hb dX7_of_19 (by rw [c20]; decide) (by rw [c20]; decide) (by rw [c20]; rfl) (by decide) ?_
                    refine lv_aload_n hx hb dX7_of_135 rfl (lv_at hl 0 rfl) ?_
                    refine lv_iload_n hx hb dX7_of_136 rfl (lv_at hl 2 rfl) ?_
                    refine lv_aload_n hx hb dX7_of_137 rfl (lv_at hl 1 rfl) ?_
                    refine va_get (D := E.1) (ci := 7) (v := .ref (Rooma_self (Onea_now a))) (C := RX7) (T := TX7) (N := 5) hx hb hts k1 hown hK hP 0 rfl rfl 0 (by decide) k0 (fun _ h9 => h9) rfl dX7_of_138 ?_
                    obtain ⟨t21, ht21, hF⟩ := m_bnd hF
                    have hPc := m_cutP (mid := (Room_c E (Onea_now a) (One_now v))) hP 1 21 rfl
                    refine mVP (ci := 5) (n := 0) (rest := [.int x0, .ref (Groupa_self (Rooma_group (Onea_now a)))]) (As := []) CC hKN hGl hS (c_X5_lesson l E (Onea_now a) (One_now v) t21 ht21) gX7_of_X5_lesson rfl ⟨rfl, rfl⟩ (by decide +kernel) ⟨Nat.le_of_ble_eq_true rfl, Nat.le_of_ble_eq_true rfl⟩ hPc rfl rfl rfl rfl hl.1 rfl (Nat.le_of_ble_eq_true rfl) ⟨Nat.zero_le _, Nat.zero_le _⟩ dX7_of_141 ?_
                    refine W.eq (g2 := F0 m 144 ls [.ref t21, .int x0, .ref (Groupa_self (Rooma_group (Onea_now a)))]) rfl ?_
                    obtain ⟨h22, hF⟩ := m_chk hF
                    refine W.eq (g2 := F0 m 144 ls [.ref (Lessona_self e), .int x0, .ref (Groupa_self (Rooma_group (Onea_now a)))]) (by rw [h22]) ?_
                    obtain ⟨t23, ht23, hF⟩ := m_bnd hF
                    have hPc := hP.sub (ws' := ((Group_c E (Rooma_group (Onea_now a)) (Room_group (One_now v))) ++ (Lesson_c E e le))) [2, 3, 4, 5, 6, 7, 8, 9, 10, 64, 65, 66, 67] rfl
                    refine mVP (ci := 2) (n := 2) (rest := []) (As := [.int x0, .ref (Lessona_self e)]) CC hKN hGl hS (c_X2_doesOf l E (Rooma_group (Onea_now a)) (Room_group (One_now v)) e le x0 t23 ht23) gX7_of_X2_doesOf rfl ⟨rfl, rfl⟩ (by decide +kernel) ⟨Nat.le_of_ble_eq_true rfl, Nat.le_of_ble_eq_true rfl⟩ hPc rfl rfl rfl rfl hl.1 rfl (Nat.le_of_ble_eq_true rfl) ⟨Nat.zero_le _, Nat.zero_le _⟩ dX7_of_144 ?_
                    refine W.eq (g2 := F0 m 147 ls [.int t23]) rfl ?_
                    have hF := Option.some.inj hF
                    subst hF
                    rw [hQ]
                    exact W.iret hx hb hr (fun t ht _ => ⟨rfl, ht⟩) (fun _ h => by cases h) dX7_of_147
                  · have hF := m_neg c20 hF
                    by_cases c24 : x1 = 8
                    · have hF := m_pos c24 hF
                      refine lv_tableIn (off := 129) (tgt := 148) hx hb dX7_of_19 (by rw [c24]; decide) (by rw [c24]; decide) (by rw [c24]; rfl) (by decide) ?_
                      refine lv_aload_n hx hb dX7_of_148 rfl (lv_at hl 0 rfl) ?_
                      refine lv_iload_n hx hb dX7_of_149 rfl (lv_at hl 2 rfl) ?_
                      obtain ⟨t25, ht25, hF⟩ := m_bnd hF
                      have hPc := m_cutP (mid := (Group_c E (Rooma_group (Onea_now a)) (Room_group (One_now v)))) hP 2 9 rfl
                      refine mVP (ci := 2) (n := 1) (rest := []) (As := [.int x0]) CC hKN hGl hS (c_X2_shareOf l E (Rooma_group (Onea_now a)) (Room_group (One_now v)) x0 t25 ht25) gX7_of_X2_shareOf rfl ⟨rfl, rfl⟩ (by decide +kernel) ⟨Nat.le_of_ble_eq_true rfl, Nat.le_of_ble_eq_true rfl⟩ hPc rfl rfl rfl rfl hl.1 rfl (Nat.le_of_ble_eq_true rfl) ⟨Nat.zero_le _, Nat.zero_le _⟩ dX7_of_150 ?_
                      refine W.eq (g2 := F0 m 153 ls [.int t25]) rfl ?_
                      have hF := Option.some.inj hF
                      subst hF
                      rw [hQ]
                      exact W.iret hx hb hr (fun t ht _ => ⟨rfl, ht⟩) (fun _ h => by cases h) dX7_of_153
                    · have hF := m_neg c24 hF
                      by_cases c26 : x1 = 9
                      · have hF := m_pos c26 hF
                        refine lv_tableIn (off := 135) (tgt := 154) hx hb dX7_of_19 (by rw [c26]; decide) (by rw [c26]; decide) (by rw [c26]; rfl) (by decide) ?_
                        refine lv_aload_n hx hb dX7_of_154 rfl (lv_at hl 0 rfl) ?_
                        refine lv_iload_n hx hb dX7_of_155 rfl (lv_at hl 2 rfl) ?_
                        obtain ⟨t27, ht27, hF⟩ := m_bnd hF
                        have hPc := m_cutP (mid := (Group_c E (Rooma_group (Onea_now a)) (Room_group (One_now v)))) hP 2 9 rfl
                        refine mVP (ci := 2) (n := 1) (rest := []) (As := [.int x0]) CC hKN hGl hS (c_X2_claimOf l E (Rooma_group (Onea_now a)) (Room_group (One_now v)) x0 t27 ht27) gX7_of_X2_claimOf rfl ⟨rfl, rfl⟩ (by decide +kernel) ⟨Nat.le_of_ble_eq_true rfl, Nat.le_of_ble_eq_true rfl⟩ hPc rfl rfl rfl rfl hl.1 rfl (Nat.le_of_ble_eq_true rfl) ⟨Nat.zero_le _, Nat.zero_le _⟩ dX7_of_156 ?_
                        refine W.eq (g2 := F0 m 159 ls [.int t27]) rfl ?_
                        have hF := Option.some.inj hF
                        subst hF
                        rw [hQ]
                        exact W.iret hx hb hr (fun t ht _ => ⟨rfl, ht⟩) (fun _ h => by cases h) dX7_of_159
                      · have hF := m_neg c26 hF
                        have qc3 := lv_neT (a := 0) c3 rfl
                        have qc5 := lv_neT (a := 1) c5 rfl
                        have qc7 := lv_neT (a := 2) c7 rfl
                        have qc9 := lv_neT (a := 3) c9 rfl
                        have qc11 := lv_neT (a := 4) c11 rfl
                        have qc13 := lv_neT (a := 5) c13 rfl
                        have qc16 := lv_neT (a := 6) c16 rfl
                        have qc20 := lv_neT (a := 7) c20 rfl
                        have qc24 := lv_neT (a := 8) c24 rfl
                        have qc26 := lv_neT (a := 9) c26 rfl
                        refine lv_tableOut (tgt := 160) hx hb dX7_of_19 (by omega) (by decide) ?_
                        refine lv_iconst (v := (-1)) hx hb dX7_of_160 (by decide) ?_
                        have hF := Option.some.inj hF
                        subst hF
                        rw [hQ]
                        exact W.iret hx hb hr (fun t ht _ => ⟨rfl, ht⟩) (fun _ h => by cases h) dX7_of_161
  · have hF := m_neg (fun n9 => n9 c2) hF
    refine lv_iconst (v := (-1)) hx hb dX7_of_8 (by decide) ?_
    have hF := Option.some.inj hF
    subst hF
    rw [hQ]
    exact W.iret hx hb hr (fun t ht _ => ⟨rfl, ht⟩) (fun _ h => by cases h) dX7_of_9

abbrev rmX7_told : Room := { frames := 4, cells := 0, slots := 0, locals := 88 }
set_option maxRecDepth 100000 in
set_option maxHeartbeats 400000 in
theorem c_X7_told (l : Launch) (E : mE) (a : OneA) (v : OneV) (e : LessonA) (le : LessonV) (x0 : Int32) (t : Int32) (hF : fn_X7_told v le (Lessona_self e) x0 = some t) : Met l yX7_told wsX7_told rmX7_told (mPp E [.ref (Onea_self a), .int x0] ((One_c E a v) ++ (Lesson_c E e le))) (mSp (some (.int t))) 0 0 (fun _ => False) := by
  refine mOfP (cc := cX7_told) (maxL := 2) (ret := (some .int)) (by decide) rfl (Nat.le_of_ble_eq_true rfl) ?_
  intro p e_ s m args below meth c Q hQ CC hr hlocks hP hKN hGl ls hl
  have hS : va_S (fun _ => False) s.heap s.heap [] := va_S.rf
  have hK := hKN.1
  have hx := CC.1
  have hb := CC.2.1
  have hml := CC.2.2.1
  have hown : s.vm.findClass RX7 = some m.cls := CC.2.2.2.1
  have hts := CC.2.2.2.2
  have hl : lv_has ls 2 [(0, .ref (Onea_self a)), (1, .int x0)] := hl
  have k0 := hts (.fieldLink RX7 12 "OneDidAll" "now" "LOneDidAll$Room;") (by decide +kernel)
  have k1 := (show ∀ w ∈ u_ws RX7 TX7 5, w ∈ wsX7_told by decide +kernel)
  have k2 := (va_Nw.use rfl (hKN.2.1 ("OneDidAll", 74, "OneDidAll$Room", "group", "LOneDidAll$Group;", "OneDidAll") (by decide +kernel)) : (Cond.fieldLinkNest "OneDidAll" 74 "OneDidAll$Room" "group" "LOneDidAll$Group;" "OneDidAll").before args s = true)
  have k3 := (show ∀ w ∈ u_ws RX5 TX5 9, w ∈ wsX7_told by decide +kernel)
  have k4 := (va_Nw.use rfl (hKN.2.1 ("OneDidAll", 133, "OneDidAll$Group", "week", "I", "OneDidAll") (by decide +kernel)) : (Cond.fieldLinkNest "OneDidAll" 133 "OneDidAll$Group" "week" "I" "OneDidAll").before args s = true)
  have k5 := (show ∀ w ∈ u_ws RX2 TX2 11, w ∈ wsX7_told by decide +kernel)
  have k6 := (va_Nw.use rfl (hKN.2.1 ("OneDidAll", 136, "OneDidAll$Group", "work", "I", "OneDidAll") (by decide +kernel)) : (Cond.fieldLinkNest "OneDidAll" 136 "OneDidAll$Group" "work" "I" "OneDidAll").before args s = true)
  have k7 := (va_Nw.use rfl (hKN.2.1 ("OneDidAll", 143, "OneDidAll$Lesson", "fair", "I", "OneDidAll") (by decide +kernel)) : (Cond.fieldLinkNest "OneDidAll" 143 "OneDidAll$Lesson" "fair" "I" "OneDidAll").before args s = true)
  have k8 := (show ∀ w ∈ u_ws RX3 TX3 7, w ∈ wsX7_told by decide +kernel)
  unfold fn_X7_told at hF
  refine lv_iload_n hx hb dX7_told_0 rfl (lv_at hl 1 rfl) ?_
  by_cases c1 : x0 = 0
  · have hF := m_pos c1 hF
    refine lv_tableIn (off := 43) (tgt := 44) hx hb dX7_told_1 (by rw [c1]; decide) (by rw [c1]; decide) (by rw [c1]; rfl) (by decide) ?_
    refine lv_aload_n hx hb dX7_told_44 rfl (lv_at hl 0 rfl) ?_
    refine va_get (D := E.1) (ci := 7) (v := .ref (Rooma_self (Onea_now a))) (C := RX7) (T := TX7) (N := 5) hx hb hts k1 hown hK hP 0 rfl rfl 0 (by decide) k0 (fun _ h9 => h9) rfl dX7_told_45 ?_
    refine va_getN (D := E.1) (ci := 5) (v := .ref (Groupa_self (Rooma_group (Onea_now a)))) (C := RX5) (T := TX5) (N := 9) hx hb hts k3 hown hK hP 1 rfl rfl 0 (by decide) k2 (fun _ h9 => h9) rfl dX7_told_48 ?_
    refine va_getN (D := E.1) (ci := 2) (v := .int (Group_week (Room_group (One_now v)))) (C := RX2) (T := TX2) (N := 11) hx hb hts k5 hown hK hP 2 rfl rfl 1 (by decide) k4 (fun _ h9 => h9) rfl dX7_told_51 ?_
    have hF := Option.some.inj hF
    subst hF
    rw [hQ]
    exact W.iret hx hb hr (fun t ht _ => ⟨rfl, ht⟩) (fun _ h => by cases h) dX7_told_54
  · have hF := m_neg c1 hF
    by_cases c2 : x0 = 1
    · have hF := m_pos c2 hF
      refine lv_tableIn (off := 54) (tgt := 55) hx hb dX7_told_1 (by rw [c2]; decide) (by rw [c2]; decide) (by rw [c2]; rfl) (by decide) ?_
      refine lv_aload_n hx hb dX7_told_55 rfl (lv_at hl 0 rfl) ?_
      refine va_get (D := E.1) (ci := 7) (v := .ref (Rooma_self (Onea_now a))) (C := RX7) (T := TX7) (N := 5) hx hb hts k1 hown hK hP 0 rfl rfl 0 (by decide) k0 (fun _ h9 => h9) rfl dX7_told_56 ?_
      refine va_getN (D := E.1) (ci := 5) (v := .ref (Groupa_self (Rooma_group (Onea_now a)))) (C := RX5) (T := TX5) (N := 9) hx hb hts k3 hown hK hP 1 rfl rfl 0 (by decide) k2 (fun _ h9 => h9) rfl dX7_told_59 ?_
      refine va_getN (D := E.1) (ci := 2) (v := .int (Group_work (Room_group (One_now v)))) (C := RX2) (T := TX2) (N := 11) hx hb hts k5 hown hK hP 2 rfl rfl 2 (by decide) k6 (fun _ h9 => h9) rfl dX7_told_62 ?_
      have hF := Option.some.inj hF
      subst hF
      rw [hQ]
      exact W.iret hx hb hr (fun t ht _ => ⟨rfl, ht⟩) (fun _ h => by cases h) dX7_told_65
    · have hF := m_neg c2 hF
      by_cases c3 : x0 = 2
      · have hF := m_pos c3 hF
        refine lv_tableIn (off := 65) (tgt := 66) hx hb dX7_told_1 (by rw [c3]; decide) (by rw [c3]; decide) (by rw [c3]; rfl) (by decide) ?_
        refine lv_aload_n hx hb dX7_told_66 rfl (lv_at hl 0 rfl) ?_
        refine va_get (D := E.1) (ci := 7) (v := .ref (Rooma_self (Onea_now a))) (C := RX7) (T := TX7) (N := 5) hx hb hts k1 hown hK hP 0 rfl rfl 0 (by decide) k0 (fun _ h9 => h9) rfl dX7_told_67 ?_
        obtain ⟨t4, ht4, hF⟩ := m_bnd hF
        have hPc := m_cutP (mid := (Room_c E (Onea_now a) (One_now v))) hP 1 21 rfl
        refine mVP (ci := 5) (n := 0) (rest := []) (As := []) CC hKN hGl hS (c_X5_lesson l E (Onea_now a) (One_now v) t4 ht4) gX7_told_X5_lesson rfl ⟨rfl, rfl⟩ (by decide +kernel) ⟨Nat.le_of_ble_eq_true rfl, Nat.le_of_ble_eq_true rfl⟩ hPc rfl rfl rfl rfl hl.1 rfl (Nat.le_of_ble_eq_true rfl) ⟨Nat.zero_le _, Nat.zero_le _⟩ dX7_told_70 ?_
        refine W.eq (g2 := F0 m 73 ls [.ref t4]) rfl ?_
        obtain ⟨h5, hF⟩ := m_chk hF
        refine W.eq (g2 := F0 m 73 ls [.ref (Lessona_self e)]) (by rw [h5]) ?_
        obtain ⟨t6, ht6, hF⟩ := m_bnd hF
        have hPc := m_cutP (mid := (Lesson_c E e le)) hP 64 4 rfl
        refine mVP (ci := 3) (n := 0) (rest := []) (As := []) CC hKN hGl hS (c_X3_goal l E e le t6 ht6) gX7_told_X3_goal rfl ⟨rfl, rfl⟩ (by decide +kernel) ⟨Nat.le_of_ble_eq_true rfl, Nat.le_of_ble_eq_true rfl⟩ hPc rfl rfl rfl rfl hl.1 rfl (Nat.le_of_ble_eq_true rfl) ⟨Nat.zero_le _, Nat.zero_le _⟩ dX7_told_73 ?_
        refine W.eq (g2 := F0 m 76 ls [.int t6]) rfl ?_
        have hF := Option.some.inj hF
        subst hF
        rw [hQ]
        exact W.iret hx hb hr (fun t ht _ => ⟨rfl, ht⟩) (fun _ h => by cases h) dX7_told_76
      · have hF := m_neg c3 hF
        by_cases c7 : x0 = 3
        · have hF := m_pos c7 hF
          refine lv_tableIn (off := 76) (tgt := 77) hx hb dX7_told_1 (by rw [c7]; decide) (by rw [c7]; decide) (by rw [c7]; rfl) (by decide) ?_
          refine lv_aload_n hx hb dX7_told_77 rfl (lv_at hl 0 rfl) ?_
          refine va_get (D := E.1) (ci := 7) (v := .ref (Rooma_self (Onea_now a))) (C := RX7) (T := TX7) (N := 5) hx hb hts k1 hown hK hP 0 rfl rfl 0 (by decide) k0 (fun _ h9 => h9) rfl dX7_told_78 ?_
          obtain ⟨t8, ht8, hF⟩ := m_bnd hF
          have hPc := m_cutP (mid := (Room_c E (Onea_now a) (One_now v))) hP 1 21 rfl
          refine mVP (ci := 5) (n := 0) (rest := []) (As := []) CC hKN hGl hS (c_X5_lesson l E (Onea_now a) (One_now v) t8 ht8) gX7_told_X5_lesson rfl ⟨rfl, rfl⟩ (by decide +kernel) ⟨Nat.le_of_ble_eq_true rfl, Nat.le_of_ble_eq_true rfl⟩ hPc rfl rfl rfl rfl hl.1 rfl (Nat.le_of_ble_eq_true rfl) ⟨Nat.zero_le _, Nat.zero_le _⟩ dX7_told_81 ?_
          refine W.eq (g2 := F0 m 84 ls [.ref t8]) rfl ?_
          obtain ⟨h9, hF⟩ := m_chk hF
          refine W.eq (g2 := F0 m 84 ls [.ref (Lessona_self e)]) (by rw [h9]) ?_
          refine va_getN (D := E.1) (ci := 3) (v := .int (Lesson_fair le)) (C := RX3) (T := TX3) (N := 7) hx hb hts k8 hown hK hP 64 rfl rfl 6 (by decide) k7 (fun _ h9 => h9) rfl dX7_told_84 ?_
          have hF := Option.some.inj hF
          subst hF
          rw [hQ]
          exact W.iret hx hb hr (fun t ht _ => ⟨rfl, ht⟩) (fun _ h => by cases h) dX7_told_87
        · have hF := m_neg c7 hF
          by_cases c10 : x0 = 4
          · have hF := m_pos c10 hF
            refine lv_tableIn (off := 87) (tgt := 88) hx hb dX7_told_1 (by rw [c10]; decide) (by rw [c10]; decide) (by rw [c10]; rfl) (by decide) ?_
            refine lv_aload_n hx hb dX7_told_88 rfl (lv_at hl 0 rfl) ?_
            refine va_get (D := E.1) (ci := 7) (v := .ref (Rooma_self (Onea_now a))) (C := RX7) (T := TX7) (N := 5) hx hb hts k1 hown hK hP 0 rfl rfl 0 (by decide) k0 (fun _ h9 => h9) rfl dX7_told_89 ?_
            refine va_getN (D := E.1) (ci := 5) (v := .ref (Groupa_self (Rooma_group (Onea_now a)))) (C := RX5) (T := TX5) (N := 9) hx hb hts k3 hown hK hP 1 rfl rfl 0 (by decide) k2 (fun _ h9 => h9) rfl dX7_told_92 ?_
            obtain ⟨t11, ht11, hF⟩ := m_bnd hF
            have hPc := m_cutP (mid := (Group_c E (Rooma_group (Onea_now a)) (Room_group (One_now v)))) hP 2 9 rfl
            refine mVP (ci := 2) (n := 0) (rest := []) (As := []) CC hKN hGl hS (c_X2_hoursOfAll l E (Rooma_group (Onea_now a)) (Room_group (One_now v)) t11 ht11) gX7_told_X2_hoursOfAll rfl ⟨rfl, rfl⟩ (by decide +kernel) ⟨Nat.le_of_ble_eq_true rfl, Nat.le_of_ble_eq_true rfl⟩ hPc rfl rfl rfl rfl hl.1 rfl (Nat.le_of_ble_eq_true rfl) ⟨Nat.zero_le _, Nat.zero_le _⟩ dX7_told_95 ?_
            refine W.eq (g2 := F0 m 98 ls [.int t11]) rfl ?_
            have hF := Option.some.inj hF
            subst hF
            rw [hQ]
            exact W.iret hx hb hr (fun t ht _ => ⟨rfl, ht⟩) (fun _ h => by cases h) dX7_told_98
          · have hF := m_neg c10 hF
            by_cases c12 : x0 = 5
            · have hF := m_pos c12 hF
              refine lv_tableIn (off := 98) (tgt := 99) hx hb dX7_told_1 (by rw [c12]; decide) (by rw [c12]; decide) (by rw [c12]; rfl) (by decide) ?_
              refine lv_aload_n hx hb dX7_told_99 rfl (lv_at hl 0 rfl) ?_
              refine va_get (D := E.1) (ci := 7) (v := .ref (Rooma_self (Onea_now a))) (C := RX7) (T := TX7) (N := 5) hx hb hts k1 hown hK hP 0 rfl rfl 0 (by decide) k0 (fun _ h9 => h9) rfl dX7_told_100 ?_
              refine va_getN (D := E.1) (ci := 5) (v := .ref (Groupa_self (Rooma_group (Onea_now a)))) (C := RX5) (T := TX5) (N := 9) hx hb hts k3 hown hK hP 1 rfl rfl 0 (by decide) k2 (fun _ h9 => h9) rfl dX7_told_103 ?_
              obtain ⟨t13, ht13, hF⟩ := m_bnd hF
              have hPc := m_cutP (mid := (Group_c E (Rooma_group (Onea_now a)) (Room_group (One_now v)))) hP 2 9 rfl
              refine mVP (ci := 2) (n := 0) (rest := []) (As := []) CC hKN hGl hS (c_X2_claimsOfAll l E (Rooma_group (Onea_now a)) (Room_group (One_now v)) t13 ht13) gX7_told_X2_claimsOfAll rfl ⟨rfl, rfl⟩ (by decide +kernel) ⟨Nat.le_of_ble_eq_true rfl, Nat.le_of_ble_eq_true rfl⟩ hPc rfl rfl rfl rfl hl.1 rfl (Nat.le_of_ble_eq_true rfl) ⟨Nat.zero_le _, Nat.zero_le _⟩ dX7_told_106 ?_
              refine W.eq (g2 := F0 m 109 ls [.int t13]) rfl ?_
              have hF := Option.some.inj hF
              subst hF
              rw [hQ]
              exact W.iret hx hb hr (fun t ht _ => ⟨rfl, ht⟩) (fun _ h => by cases h) dX7_told_109
            · have hF := m_neg c12 hF
              by_cases c14 : x0 = 6
              · have hF := m_pos c14 hF
                refine lv_tableIn (off := 109) (tgt := 110) hx hb dX7_told_1 (by rw [c14]; decide) (by rw [c14]; decide) (by rw [c14]; rfl) (by decide) ?_
                refine lv_aload_n hx hb dX7_told_110 rfl (lv_at hl 0 rfl) ?_
                refine va_get (D := E.1) (ci := 7) (v := .ref (Rooma_self (Onea_now a))) (C := RX7) (T := TX7) (N := 5) hx hb hts k1 hown hK hP 0 rfl rfl 0 (by decide) k0 (fun _ h9 => h9) rfl dX7_told_111 ?_
                refine va_getN (D := E.1) (ci := 5) (v := .ref (Groupa_self (Rooma_group (Onea_now a)))) (C := RX5) (T := TX5) (N := 9) hx hb hts k3 hown hK hP 1 rfl rfl 0 (by decide) k2 (fun _ h9 => h9) rfl dX7_told_114 ?_
                refine lv_aload_n hx hb dX7_told_117 rfl (lv_at hl 0 rfl) ?_
                refine va_get (D := E.1) (ci := 7) (v := .ref (Rooma_self (Onea_now a))) (C := RX7) (T := TX7) (N := 5) hx hb hts k1 hown hK hP 0 rfl rfl 0 (by decide) k0 (fun _ h9 => h9) rfl dX7_told_118 ?_
                obtain ⟨t15, ht15, hF⟩ := m_bnd hF
                have hPc := m_cutP (mid := (Room_c E (Onea_now a) (One_now v))) hP 1 21 rfl
                refine mVP (ci := 5) (n := 0) (rest := [.ref (Groupa_self (Rooma_group (Onea_now a)))]) (As := []) CC hKN hGl hS (c_X5_lesson l E (Onea_now a) (One_now v) t15 ht15) gX7_told_X5_lesson rfl ⟨rfl, rfl⟩ (by decide +kernel) ⟨Nat.le_of_ble_eq_true rfl, Nat.le_of_ble_eq_true rfl⟩ hPc rfl rfl rfl rfl hl.1 rfl (Nat.le_of_ble_eq_true rfl) ⟨Nat.zero_le _, Nat.zero_le _⟩ dX7_told_121 ?_
                refine W.eq (g2 := F0 m 124 ls [.ref t15, .ref (Groupa_self (Rooma_group (Onea_now a)))]) rfl ?_
                obtain ⟨h16, hF⟩ := m_chk hF
                refine W.eq (g2 := F0 m 124 ls [.ref (Lessona_self e), .ref (Groupa_self (Rooma_group (Onea_now a)))]) (by rw [h16]) ?_
                obtain ⟨t17, ht17, hF⟩ := m_bnd hF
                have hPc := m_cutP (mid := (Lesson_c E e le)) hP 64 4 rfl
                refine mVP (ci := 3) (n := 0) (rest := [.ref (Groupa_self (Rooma_group (Onea_now a)))]) (As := []) CC hKN hGl hS (c_X3_goal l E e le t17 ht17) gX7_told_X3_goal rfl ⟨rfl, rfl⟩ (by decide +kernel) ⟨Nat.le_of_ble_eq_true rfl, Nat.le_of_ble_eq_true rfl⟩ hPc rfl rfl rfl rfl hl.1 rfl (Nat.le_of_ble_eq_true rfl) ⟨Nat.zero_le _, Nat.zero_le _⟩ dX7_told_124 ?_
                refine W.eq (g2 := F0 m 127 ls [.int t17, .ref (Groupa_self (Rooma_group (Onea_now a)))]) rfl ?_
                obtain ⟨t18, ht18, hF⟩ := m_bnd hF
                have hPc := m_cutP (mid := (Group_c E (Rooma_group (Onea_now a)) (Room_group (One_now v)))) hP 2 9 rfl
                refine mVP (ci := 2) (n := 1) (rest := []) (As := [.int t17]) CC hKN hGl hS (c_X2_base l E (Rooma_group (Onea_now a)) (Room_group (One_now v)) t17 t18 ht18) gX7_told_X2_base rfl ⟨rfl, rfl⟩ (by decide +kernel) ⟨Nat.le_of_ble_eq_true rfl, Nat.le_of_ble_eq_true rfl⟩ hPc rfl rfl rfl rfl hl.1 rfl (Nat.le_of_ble_eq_true rfl) ⟨Nat.zero_le _, Nat.zero_le _⟩ dX7_told_127 ?_
                refine W.eq (g2 := F0 m 130 ls [.int t18]) rfl ?_
                have hF := Option.some.inj hF
                subst hF
                rw [hQ]
                exact W.iret hx hb hr (fun t ht _ => ⟨rfl, ht⟩) (fun _ h => by cases h) dX7_told_130
              · have hF := m_neg c14 hF
                have qc1 := lv_neT (a := 0) c1 rfl
                have qc2 := lv_neT (a := 1) c2 rfl
                have qc3 := lv_neT (a := 2) c3 rfl
                have qc7 := lv_neT (a := 3) c7 rfl
                have qc10 := lv_neT (a := 4) c10 rfl
                have qc12 := lv_neT (a := 5) c12 rfl
                have qc14 := lv_neT (a := 6) c14 rfl
                refine lv_tableOut (tgt := 131) hx hb dX7_told_1 (by omega) (by decide) ?_
                refine lv_iconst (v := (-1)) hx hb dX7_told_131 (by decide) ?_
                have hF := Option.some.inj hF
                subst hF
                rw [hQ]
                exact W.iret hx hb hr (fun t ht _ => ⟨rfl, ht⟩) (fun _ h => by cases h) dX7_told_132

abbrev rmX7_mark : Room := { frames := 5, cells := 0, slots := 0, locals := 114 }
set_option maxRecDepth 100000 in
set_option maxHeartbeats 400000 in
theorem c_X7_mark (l : Launch) (E : mE) (a : OneA) (v : OneV) (e : LessonA) (le : LessonV) (x0 : Int32) (x1 : Int32) (t : Int32) (hF : fn_X7_mark v le (Lessona_self e) x0 x1 = some t) : Met l yX7_mark wsX7_mark rmX7_mark (mPp E [.ref (Onea_self a), .int x0, .int x1] ((One_c E a v) ++ (Lesson_c E e le))) (mSp (some (.int t))) 0 0 (fun _ => False) := by
  refine mOfP (cc := cX7_mark) (maxL := 3) (ret := (some .int)) (by decide) rfl (Nat.le_of_ble_eq_true rfl) ?_
  intro p e_ s m args below meth c Q hQ CC hr hlocks hP hKN hGl ls hl
  have hS : va_S (fun _ => False) s.heap s.heap [] := va_S.rf
  have hK := hKN.1
  have hx := CC.1
  have hb := CC.2.1
  have hml := CC.2.2.1
  have hown : s.vm.findClass RX7 = some m.cls := CC.2.2.2.1
  have hts := CC.2.2.2.2
  have hl : lv_has ls 3 [(0, .ref (Onea_self a)), (1, .int x0), (2, .int x1)] := hl
  have k0 := hts (.fieldLink RX7 12 "OneDidAll" "now" "LOneDidAll$Room;") (by decide +kernel)
  have k1 := (show ∀ w ∈ u_ws RX7 TX7 5, w ∈ wsX7_mark by decide +kernel)
  have k2 := (va_Nw.use rfl (hKN.2.1 ("OneDidAll", 74, "OneDidAll$Room", "group", "LOneDidAll$Group;", "OneDidAll") (by decide +kernel)) : (Cond.fieldLinkNest "OneDidAll" 74 "OneDidAll$Room" "group" "LOneDidAll$Group;" "OneDidAll").before args s = true)
  have k3 := (show ∀ w ∈ u_ws RX5 TX5 9, w ∈ wsX7_mark by decide +kernel)
  unfold fn_X7_mark at hF
  refine lv_aload_n hx hb dX7_mark_0 rfl (lv_at hl 0 rfl) ?_
  refine lv_iload_n hx hb dX7_mark_1 rfl (lv_at hl 1 rfl) ?_
  obtain ⟨t1, ht1, hF⟩ := m_bnd hF
  have hPc := m_cutP (mid := (One_c E a v)) hP 0 64 rfl
  refine mVP (ci := 7) (n := 1) (rest := []) (As := [.int x0]) CC hKN hGl hS (c_X7_isPupil l E a v x0 t1 ht1) gX7_mark_X7_isPupil rfl ⟨rfl, rfl⟩ (by decide +kernel) ⟨Nat.le_of_ble_eq_true rfl, Nat.le_of_ble_eq_true rfl⟩ hPc rfl rfl rfl rfl hl.1 rfl (Nat.le_of_ble_eq_true rfl) ⟨Nat.zero_le _, Nat.zero_le _⟩ dX7_mark_2 ?_
  refine W.eq (g2 := F0 m 5 ls [.int t1]) rfl ?_
  refine lv_if_eq (tgt := 15) hx hb dX7_mark_5 (by decide) (fun c2 => ?_) (fun c2 => ?_)
  · have hF := m_pos c2 hF
    refine lv_iconst (v := (-1)) hx hb dX7_mark_15 (by decide) ?_
    have hF := Option.some.inj hF
    subst hF
    rw [hQ]
    exact W.iret hx hb hr (fun t ht _ => ⟨rfl, ht⟩) (fun _ h => by cases h) dX7_mark_16
  · have hF := m_neg c2 hF
    refine lv_iload_n hx hb dX7_mark_8 rfl (lv_at hl 2 rfl) ?_
    obtain ⟨t3, ht3, hF⟩ := m_bnd hF
    refine mSP (n := 1) (rest := []) (As := [.int x1]) CC hKN hGl hS (c_X7_isRule l E x1 t3 ht3) gX7_mark_X7_isRule rfl ⟨rfl, rfl⟩ (by decide +kernel) ⟨Nat.le_of_ble_eq_true rfl, Nat.le_of_ble_eq_true rfl⟩ m_nil rfl hl.1 rfl (Nat.le_of_ble_eq_true rfl) ⟨Nat.zero_le _, Nat.zero_le _⟩ dX7_mark_9 ?_
    refine W.eq (g2 := F0 m 12 ls [.int t3]) rfl ?_
    refine lv_if_ne (tgt := 17) hx hb dX7_mark_12 (by decide) (fun c4 => ?_) (fun c4 => ?_)
    · have hF := m_pos c4 hF
      refine lv_aload_n hx hb dX7_mark_17 rfl (lv_at hl 0 rfl) ?_
      refine va_get (D := E.1) (ci := 7) (v := .ref (Rooma_self (Onea_now a))) (C := RX7) (T := TX7) (N := 5) hx hb hts k1 hown hK hP 0 rfl rfl 0 (by decide) k0 (fun _ h9 => h9) rfl dX7_mark_18 ?_
      refine va_getN (D := E.1) (ci := 5) (v := .ref (Groupa_self (Rooma_group (Onea_now a)))) (C := RX5) (T := TX5) (N := 9) hx hb hts k3 hown hK hP 1 rfl rfl 0 (by decide) k2 (fun _ h9 => h9) rfl dX7_mark_21 ?_
      refine lv_iload_n hx hb dX7_mark_24 rfl (lv_at hl 1 rfl) ?_
      refine lv_iload_n hx hb dX7_mark_25 rfl (lv_at hl 2 rfl) ?_
      refine lv_aload_n hx hb dX7_mark_26 rfl (lv_at hl 0 rfl) ?_
      refine va_get (D := E.1) (ci := 7) (v := .ref (Rooma_self (Onea_now a))) (C := RX7) (T := TX7) (N := 5) hx hb hts k1 hown hK hP 0 rfl rfl 0 (by decide) k0 (fun _ h9 => h9) rfl dX7_mark_27 ?_
      obtain ⟨t5, ht5, hF⟩ := m_bnd hF
      have hPc := m_cutP (mid := (Room_c E (Onea_now a) (One_now v))) hP 1 21 rfl
      refine mVP (ci := 5) (n := 0) (rest := [.int x1, .int x0, .ref (Groupa_self (Rooma_group (Onea_now a)))]) (As := []) CC hKN hGl hS (c_X5_lesson l E (Onea_now a) (One_now v) t5 ht5) gX7_mark_X5_lesson rfl ⟨rfl, rfl⟩ (by decide +kernel) ⟨Nat.le_of_ble_eq_true rfl, Nat.le_of_ble_eq_true rfl⟩ hPc rfl rfl rfl rfl hl.1 rfl (Nat.le_of_ble_eq_true rfl) ⟨Nat.zero_le _, Nat.zero_le _⟩ dX7_mark_30 ?_
      refine W.eq (g2 := F0 m 33 ls [.ref t5, .int x1, .int x0, .ref (Groupa_self (Rooma_group (Onea_now a)))]) rfl ?_
      obtain ⟨h6, hF⟩ := m_chk hF
      refine W.eq (g2 := F0 m 33 ls [.ref (Lessona_self e), .int x1, .int x0, .ref (Groupa_self (Rooma_group (Onea_now a)))]) (by rw [h6]) ?_
      obtain ⟨t7, ht7, hF⟩ := m_bnd hF
      have hPc := m_cutP (mid := (Lesson_c E e le)) hP 64 4 rfl
      refine mVP (ci := 3) (n := 0) (rest := [.int x1, .int x0, .ref (Groupa_self (Rooma_group (Onea_now a)))]) (As := []) CC hKN hGl hS (c_X3_goal l E e le t7 ht7) gX7_mark_X3_goal rfl ⟨rfl, rfl⟩ (by decide +kernel) ⟨Nat.le_of_ble_eq_true rfl, Nat.le_of_ble_eq_true rfl⟩ hPc rfl rfl rfl rfl hl.1 rfl (Nat.le_of_ble_eq_true rfl) ⟨Nat.zero_le _, Nat.zero_le _⟩ dX7_mark_33 ?_
      refine W.eq (g2 := F0 m 36 ls [.int t7, .int x1, .int x0, .ref (Groupa_self (Rooma_group (Onea_now a)))]) rfl ?_
      obtain ⟨t8, ht8, hF⟩ := m_bnd hF
      have hPc := m_cutP (mid := (Group_c E (Rooma_group (Onea_now a)) (Room_group (One_now v)))) hP 2 9 rfl
      refine mVP (ci := 2) (n := 3) (rest := []) (As := [.int x0, .int x1, .int t7]) CC hKN hGl hS (c_X2_markOf l E (Rooma_group (Onea_now a)) (Room_group (One_now v)) x0 x1 t7 t8 ht8) gX7_mark_X2_markOf rfl ⟨rfl, rfl⟩ (by decide +kernel) ⟨Nat.le_of_ble_eq_true rfl, Nat.le_of_ble_eq_true rfl⟩ hPc rfl rfl rfl rfl hl.1 rfl (Nat.le_of_ble_eq_true rfl) ⟨Nat.zero_le _, Nat.zero_le _⟩ dX7_mark_36 ?_
      refine W.eq (g2 := F0 m 39 ls [.int t8]) rfl ?_
      have hF := Option.some.inj hF
      subst hF
      rw [hQ]
      exact W.iret hx hb hr (fun t ht _ => ⟨rfl, ht⟩) (fun _ h => by cases h) dX7_mark_39
    · have hF := m_neg (fun n9 => n9 c4) hF
      refine lv_iconst (v := (-1)) hx hb dX7_mark_15 (by decide) ?_
      have hF := Option.some.inj hF
      subst hF
      rw [hQ]
      exact W.iret hx hb hr (fun t ht _ => ⟨rfl, ht⟩) (fun _ h => by cases h) dX7_mark_16

abbrev rmX7_pass : Room := { frames := 5, cells := 0, slots := 0, locals := 126 }
set_option maxRecDepth 100000 in
set_option maxHeartbeats 400000 in
theorem c_X7_pass (l : Launch) (E : mE) (a : OneA) (v : OneV) (e : LessonA) (le : LessonV) (x0 : Int32) (t : (Int32 × OneV)) (hF : fn_X7_pass v le (Lessona_self e) x0 = some t) (sz : Nat) : Met l yX7_pass wsX7_pass rmX7_pass (mPm E [.ref (Onea_self a), .int x0] sz ((One_c E a v)) ((Lesson_c E e le))) (mSm E (some (.int t.1)) ((One_c E a t.2)) (va_A ((One_c E a v)) sz)) 0 0 (va_A ((One_c E a v)) sz) := by
  refine mOfM (cc := cX7_pass) (maxL := 2) (ret := (some .int)) (by decide) rfl (Nat.le_of_ble_eq_true rfl) ?_
  intro p e_ s m args below meth c Q A hQ CC hr hlocks hin hA hP hD hKN hGl hR0 hRA ls hl
  have hS : va_S A s.heap s.heap [] := va_S.rf
  have hK := hKN.1
  have hx := CC.1
  have hb := CC.2.1
  have hml := CC.2.2.1
  have hown : s.vm.findClass RX7 = some m.cls := CC.2.2.2.1
  have hts := CC.2.2.2.2
  have hl : lv_has ls 2 [(0, .ref (Onea_self a)), (1, .int x0)] := hl
  have k0 := hts (.fieldLink RX7 12 "OneDidAll" "now" "LOneDidAll$Room;") (by decide +kernel)
  have k1 := (show ∀ w ∈ u_ws RX7 TX7 5, w ∈ wsX7_pass by decide +kernel)
  have k2 := (va_Nw.use rfl (hKN.2.1 ("OneDidAll", 74, "OneDidAll$Room", "group", "LOneDidAll$Group;", "OneDidAll") (by decide +kernel)) : (Cond.fieldLinkNest "OneDidAll" 74 "OneDidAll$Room" "group" "LOneDidAll$Group;" "OneDidAll").before args s = true)
  have k3 := (show ∀ w ∈ u_ws RX5 TX5 9, w ∈ wsX7_pass by decide +kernel)
  have k4 := (va_Nw.use rfl (hKN.2.1 ("OneDidAll", 133, "OneDidAll$Group", "week", "I", "OneDidAll") (by decide +kernel)) : (Cond.fieldLinkNest "OneDidAll" 133 "OneDidAll$Group" "week" "I" "OneDidAll").before args s = true)
  have k5 := (show ∀ w ∈ u_ws RX2 TX2 11, w ∈ wsX7_pass by decide +kernel)
  have k6 := (va_Nw.use rfl (hKN.2.1 ("OneDidAll", 136, "OneDidAll$Group", "work", "I", "OneDidAll") (by decide +kernel)) : (Cond.fieldLinkNest "OneDidAll" 136 "OneDidAll$Group" "work" "I" "OneDidAll").before args s = true)
  have hP : va_P E.1 vwCl (One_c E a v) s.heap := hP
  obtain ⟨H, hH⟩ : ∃ H, H = s.heap := ⟨_, rfl⟩
  obtain ⟨locs, hlc⟩ : ∃ z : List Loc, z = [] := ⟨_, rfl⟩
  rw [← hH] at hP
  rw [← hlc] at hS
  have hS : va_S A s.heap H locs := by rw [hH]; exact hS
  rw [← hH, ← hlc]
  unfold fn_X7_pass at hF
  refine lv_iload_n hx hb dX7_pass_0 rfl (lv_at hl 1 rfl) ?_
  refine lv_if_lt (tgt := 10) hx hb dX7_pass_1 (by decide) (fun c1 => ?_) (fun c1 => ?_)
  · have hF := m_pos c1 hF
    refine lv_bipush (v := (-2)) hx hb dX7_pass_10 (by decide) ?_
    have hF := Option.some.inj hF
    subst hF
    rw [hQ]
    exact W.iret hx hb hr (fun t ht _ => ⟨⟨rfl, by rw [ht]; exact hP, hD⟩, hS.F ht⟩) hS.2.2 dX7_pass_12
  · have hF := m_neg c1 hF
    refine lv_iload_n hx hb dX7_pass_4 rfl (lv_at hl 1 rfl) ?_
    refine lv_bipush (v := 60) hx hb dX7_pass_5 (by decide) ?_
    refine lv_icmp_le (tgt := 13) hx hb dX7_pass_7 (by decide) (fun c2 => ?_) (fun c2 => ?_)
    · have hF := m_pos c2 hF
      refine lv_aload_n hx hb dX7_pass_13 rfl (lv_at hl 0 rfl) ?_
      refine va_get (D := E.1) (ci := 7) (v := .ref (Rooma_self (Onea_now a))) (C := RX7) (T := TX7) (N := 5) hx hb hts k1 hown hK hP 0 rfl rfl 0 (by decide) k0 (fun _ h9 => h9) rfl dX7_pass_14 ?_
      refine va_getN (D := E.1) (ci := 5) (v := .ref (Groupa_self (Rooma_group (Onea_now a)))) (C := RX5) (T := TX5) (N := 9) hx hb hts k3 hown hK hP 1 rfl rfl 0 (by decide) k2 (fun _ h9 => h9) rfl dX7_pass_17 ?_
      refine va_getN (D := E.1) (ci := 2) (v := .int (Group_week (Room_group (One_now v)))) (C := RX2) (T := TX2) (N := 11) hx hb hts k5 hown hK hP 2 rfl rfl 1 (by decide) k4 (fun _ h9 => h9) rfl dX7_pass_20 ?_
      refine lv_iload_n hx hb dX7_pass_23 rfl (lv_at hl 1 rfl) ?_
      refine lv_iadd hx hb dX7_pass_24 ?_
      refine lv_sipush (v := 9999) hx hb dX7_pass_25 (by decide) ?_
      refine lv_icmp_le (tgt := 34) hx hb dX7_pass_28 (by decide) (fun c3 => ?_) (fun c3 => ?_)
      · have hF := m_pos c3 hF
        refine lv_aload_n hx hb dX7_pass_34 rfl (lv_at hl 0 rfl) ?_
        refine va_get (D := E.1) (ci := 7) (v := .ref (Rooma_self (Onea_now a))) (C := RX7) (T := TX7) (N := 5) hx hb hts k1 hown hK hP 0 rfl rfl 0 (by decide) k0 (fun _ h9 => h9) rfl dX7_pass_35 ?_
        refine va_getN (D := E.1) (ci := 5) (v := .ref (Groupa_self (Rooma_group (Onea_now a)))) (C := RX5) (T := TX5) (N := 9) hx hb hts k3 hown hK hP 1 rfl rfl 0 (by decide) k2 (fun _ h9 => h9) rfl dX7_pass_38 ?_
        refine lv_aload_n hx hb dX7_pass_41 rfl (lv_at hl 0 rfl) ?_
        refine va_get (D := E.1) (ci := 7) (v := .ref (Rooma_self (Onea_now a))) (C := RX7) (T := TX7) (N := 5) hx hb hts k1 hown hK hP 0 rfl rfl 0 (by decide) k0 (fun _ h9 => h9) rfl dX7_pass_42 ?_
        obtain ⟨t4, ht4, hF⟩ := m_bnd hF
        have hPc := m_cutP (mid := (Room_c E (Onea_now a) (One_now v))) hP 1 21 rfl
        refine mVP (ci := 5) (n := 0) (rest := [.ref (Groupa_self (Rooma_group (Onea_now a)))]) (As := []) CC hKN hGl hS (c_X5_lesson l E (Onea_now a) (One_now v) t4 ht4) gX7_pass_X5_lesson rfl ⟨rfl, rfl⟩ (by decide +kernel) ⟨Nat.le_of_ble_eq_true rfl, Nat.le_of_ble_eq_true rfl⟩ hPc rfl rfl rfl rfl hl.1 rfl (Nat.le_of_ble_eq_true rfl) ⟨Nat.zero_le _, Nat.zero_le _⟩ dX7_pass_45 ?_
        refine W.eq (g2 := F0 m 48 ls [.ref t4, .ref (Groupa_self (Rooma_group (Onea_now a)))]) rfl ?_
        refine lv_iload_n hx hb dX7_pass_48 rfl (lv_at hl 1 rfl) ?_
        refine lv_iconst (v := 1) hx hb dX7_pass_49 (by decide) ?_
        obtain ⟨h5, hF⟩ := m_chk hF
        refine W.eq (g2 := F0 m 50 ls [.int 1, .int x0, .ref (Lessona_self e), .ref (Groupa_self (Rooma_group (Onea_now a)))]) (by rw [h5]) ?_
        obtain ⟨t6, ht6, hF⟩ := m_bnd hF
        have hpm : List.Perm (One_c E a v) ((Group_c E (Rooma_group (Onea_now a)) (Room_group (One_now v))) ++ ((List.take 2 (One_c E a v)) ++ (List.drop 11 (One_c E a v)))) := m_p1 (A := (List.take 2 (One_c E a v))) (m := (Group_c E (Rooma_group (Onea_now a)) (Room_group (One_now v)))) (C := (List.drop 11 (One_c E a v)))
        obtain ⟨hPc, hDc, hFc⟩ := m_pre hpm hP hD hS hA
        have hp7 := (m_ro hR0 hRA hS).sub (ws' := Lesson_c E e le) [0, 1, 2, 3] rfl
        have ha8 := m_roA (wr := Lesson_c E e le) hRA hFc [0, 1, 2, 3] rfl
        refine mVM (ci := 2) (n := 3) (rest := []) (As := [.ref (Lessona_self e), .int x0, .int 1]) CC hKN hGl (c_X2_goWeeks l E (Rooma_group (Onea_now a)) (Room_group (One_now v)) e le x0 1 t6 ht6 _) gX7_pass_X2_goWeeks rfl ⟨rfl, rfl⟩ (by decide +kernel) ⟨Nat.le_of_ble_eq_true rfl, Nat.le_of_ble_eq_true rfl⟩ hPc hDc hp7 ha8 hS hFc rfl rfl rfl rfl hl.1 rfl (Nat.le_of_ble_eq_true rfl) ⟨Nat.zero_le _, Nat.zero_le _⟩ dX7_pass_50 (fun H1 locs hP1 hD1 hz1 hk1 hS => ?_)
        have hpn : List.Perm (One_c E a (One_now_s v (Room_group_s (One_now v) t6))) ((Group_c E (Rooma_group (Onea_now a)) t6) ++ ((List.take 2 (One_c E a v)) ++ (List.drop 11 (One_c E a v)))) := m_p1 (A := (List.take 2 (One_c E a v))) (m := (Group_c E (Rooma_group (Onea_now a)) t6)) (C := (List.drop 11 (One_c E a v)))
        obtain ⟨hP, hD⟩ := m_spl hpm hpn hP hD hk1 hFc hP1 hD1
        generalize H1 = H at hP hS ⊢
        refine W.eq (g2 := F0 m 53 ls []) rfl ?_
        refine lv_aload_n hx hb dX7_pass_53 rfl (lv_at hl 0 rfl) ?_
        refine va_get (D := E.1) (ci := 7) (v := .ref (Rooma_self (Onea_now a))) (C := RX7) (T := TX7) (N := 5) hx hb hts k1 hown hK hP 0 rfl rfl 0 (by decide) k0 (fun _ h9 => h9) rfl dX7_pass_54 ?_
        refine va_getN (D := E.1) (ci := 5) (v := .ref (Groupa_self (Rooma_group (Onea_now a)))) (C := RX5) (T := TX5) (N := 9) hx hb hts k3 hown hK hP 1 rfl rfl 0 (by decide) k2 (fun _ h9 => h9) rfl dX7_pass_57 ?_
        refine va_getN (D := E.1) (ci := 2) (v := .int (Group_work t6)) (C := RX2) (T := TX2) (N := 11) hx hb hts k5 hown hK hP 2 rfl rfl 2 (by decide) k6 (fun _ h9 => h9) rfl dX7_pass_60 ?_
        have hF := Option.some.inj hF
        subst hF
        rw [hQ]
        exact W.iret hx hb hr (fun t ht _ => ⟨⟨rfl, by rw [ht]; exact hP, hD⟩, hS.F ht⟩) hS.2.2 dX7_pass_63
      · have hF := m_neg c3 hF
        refine lv_bipush (v := (-3)) hx hb dX7_pass_31 (by decide) ?_
        have hF := Option.some.inj hF
        subst hF
        rw [hQ]
        exact W.iret hx hb hr (fun t ht _ => ⟨⟨rfl, by rw [ht]; exact hP, hD⟩, hS.F ht⟩) hS.2.2 dX7_pass_33
    · have hF := m_neg c2 hF
      refine lv_bipush (v := (-2)) hx hb dX7_pass_10 (by decide) ?_
      have hF := Option.some.inj hF
      subst hF
      rw [hQ]
      exact W.iret hx hb hr (fun t ht _ => ⟨⟨rfl, by rw [ht]; exact hP, hD⟩, hS.F ht⟩) hS.2.2 dX7_pass_12

abbrev rmX7_spread : Room := { frames := 6, cells := 0, slots := 0, locals := 140 }
set_option maxRecDepth 100000 in
set_option maxHeartbeats 400000 in
theorem c_X7_spread (l : Launch) (E : mE) (a : OneA) (v : OneV) (e : LessonA) (le : LessonV) (x0 : Int32) (t : Int32) (hF : fn_X7_spread v le (Lessona_self e) x0 = some t) : Met l yX7_spread wsX7_spread rmX7_spread (mPp E [.ref (Onea_self a), .int x0] ((One_c E a v) ++ (Lesson_c E e le))) (mSp (some (.int t))) 0 0 (fun _ => False) := by
  refine mOfP (cc := cX7_spread) (maxL := 2) (ret := (some .int)) (by decide) rfl (Nat.le_of_ble_eq_true rfl) ?_
  intro p e_ s m args below meth c Q hQ CC hr hlocks hP hKN hGl ls hl
  have hS : va_S (fun _ => False) s.heap s.heap [] := va_S.rf
  have hK := hKN.1
  have hx := CC.1
  have hb := CC.2.1
  have hml := CC.2.2.1
  have hown : s.vm.findClass RX7 = some m.cls := CC.2.2.2.1
  have hts := CC.2.2.2.2
  have hl : lv_has ls 2 [(0, .ref (Onea_self a)), (1, .int x0)] := hl
  have k0 := hts (.fieldLink RX7 12 "OneDidAll" "now" "LOneDidAll$Room;") (by decide +kernel)
  have k1 := (show ∀ w ∈ u_ws RX7 TX7 5, w ∈ wsX7_spread by decide +kernel)
  have k2 := (va_Nw.use rfl (hKN.2.1 ("OneDidAll", 74, "OneDidAll$Room", "group", "LOneDidAll$Group;", "OneDidAll") (by decide +kernel)) : (Cond.fieldLinkNest "OneDidAll" 74 "OneDidAll$Room" "group" "LOneDidAll$Group;" "OneDidAll").before args s = true)
  have k3 := (show ∀ w ∈ u_ws RX5 TX5 9, w ∈ wsX7_spread by decide +kernel)
  unfold fn_X7_spread at hF
  refine lv_iload_n hx hb dX7_spread_0 rfl (lv_at hl 1 rfl) ?_
  obtain ⟨t1, ht1, hF⟩ := m_bnd hF
  refine mSP (n := 1) (rest := []) (As := [.int x0]) CC hKN hGl hS (c_X7_isRule l E x0 t1 ht1) gX7_spread_X7_isRule rfl ⟨rfl, rfl⟩ (by decide +kernel) ⟨Nat.le_of_ble_eq_true rfl, Nat.le_of_ble_eq_true rfl⟩ m_nil rfl hl.1 rfl (Nat.le_of_ble_eq_true rfl) ⟨Nat.zero_le _, Nat.zero_le _⟩ dX7_spread_1 ?_
  refine W.eq (g2 := F0 m 4 ls [.int t1]) rfl ?_
  refine lv_if_ne (tgt := 9) hx hb dX7_spread_4 (by decide) (fun c2 => ?_) (fun c2 => ?_)
  · have hF := m_pos c2 hF
    refine lv_aload_n hx hb dX7_spread_9 rfl (lv_at hl 0 rfl) ?_
    refine va_get (D := E.1) (ci := 7) (v := .ref (Rooma_self (Onea_now a))) (C := RX7) (T := TX7) (N := 5) hx hb hts k1 hown hK hP 0 rfl rfl 0 (by decide) k0 (fun _ h9 => h9) rfl dX7_spread_10 ?_
    refine va_getN (D := E.1) (ci := 5) (v := .ref (Groupa_self (Rooma_group (Onea_now a)))) (C := RX5) (T := TX5) (N := 9) hx hb hts k3 hown hK hP 1 rfl rfl 0 (by decide) k2 (fun _ h9 => h9) rfl dX7_spread_13 ?_
    refine lv_iload_n hx hb dX7_spread_16 rfl (lv_at hl 1 rfl) ?_
    refine lv_aload_n hx hb dX7_spread_17 rfl (lv_at hl 0 rfl) ?_
    refine va_get (D := E.1) (ci := 7) (v := .ref (Rooma_self (Onea_now a))) (C := RX7) (T := TX7) (N := 5) hx hb hts k1 hown hK hP 0 rfl rfl 0 (by decide) k0 (fun _ h9 => h9) rfl dX7_spread_18 ?_
    obtain ⟨t3, ht3, hF⟩ := m_bnd hF
    have hPc := m_cutP (mid := (Room_c E (Onea_now a) (One_now v))) hP 1 21 rfl
    refine mVP (ci := 5) (n := 0) (rest := [.int x0, .ref (Groupa_self (Rooma_group (Onea_now a)))]) (As := []) CC hKN hGl hS (c_X5_lesson l E (Onea_now a) (One_now v) t3 ht3) gX7_spread_X5_lesson rfl ⟨rfl, rfl⟩ (by decide +kernel) ⟨Nat.le_of_ble_eq_true rfl, Nat.le_of_ble_eq_true rfl⟩ hPc rfl rfl rfl rfl hl.1 rfl (Nat.le_of_ble_eq_true rfl) ⟨Nat.zero_le _, Nat.zero_le _⟩ dX7_spread_21 ?_
    refine W.eq (g2 := F0 m 24 ls [.ref t3, .int x0, .ref (Groupa_self (Rooma_group (Onea_now a)))]) rfl ?_
    obtain ⟨h4, hF⟩ := m_chk hF
    refine W.eq (g2 := F0 m 24 ls [.ref (Lessona_self e), .int x0, .ref (Groupa_self (Rooma_group (Onea_now a)))]) (by rw [h4]) ?_
    obtain ⟨t5, ht5, hF⟩ := m_bnd hF
    have hPc := m_cutP (mid := (Lesson_c E e le)) hP 64 4 rfl
    refine mVP (ci := 3) (n := 0) (rest := [.int x0, .ref (Groupa_self (Rooma_group (Onea_now a)))]) (As := []) CC hKN hGl hS (c_X3_goal l E e le t5 ht5) gX7_spread_X3_goal rfl ⟨rfl, rfl⟩ (by decide +kernel) ⟨Nat.le_of_ble_eq_true rfl, Nat.le_of_ble_eq_true rfl⟩ hPc rfl rfl rfl rfl hl.1 rfl (Nat.le_of_ble_eq_true rfl) ⟨Nat.zero_le _, Nat.zero_le _⟩ dX7_spread_24 ?_
    refine W.eq (g2 := F0 m 27 ls [.int t5, .int x0, .ref (Groupa_self (Rooma_group (Onea_now a)))]) rfl ?_
    obtain ⟨t6, ht6, hF⟩ := m_bnd hF
    have hPc := m_cutP (mid := (Group_c E (Rooma_group (Onea_now a)) (Room_group (One_now v)))) hP 2 9 rfl
    refine mVP (ci := 2) (n := 2) (rest := []) (As := [.int x0, .int t5]) CC hKN hGl hS (c_X2_spreadOf l E (Rooma_group (Onea_now a)) (Room_group (One_now v)) x0 t5 t6 ht6) gX7_spread_X2_spreadOf rfl ⟨rfl, rfl⟩ (by decide +kernel) ⟨Nat.le_of_ble_eq_true rfl, Nat.le_of_ble_eq_true rfl⟩ hPc rfl rfl rfl rfl hl.1 rfl (Nat.le_of_ble_eq_true rfl) ⟨Nat.zero_le _, Nat.zero_le _⟩ dX7_spread_27 ?_
    refine W.eq (g2 := F0 m 30 ls [.int t6]) rfl ?_
    have hF := Option.some.inj hF
    subst hF
    rw [hQ]
    exact W.iret hx hb hr (fun t ht _ => ⟨rfl, ht⟩) (fun _ h => by cases h) dX7_spread_30
  · have hF := m_neg (fun n9 => n9 c2) hF
    refine lv_iconst (v := (-1)) hx hb dX7_spread_7 (by decide) ?_
    have hF := Option.some.inj hF
    subst hF
    rw [hQ]
    exact W.iret hx hb hr (fun t ht _ => ⟨rfl, ht⟩) (fun _ h => by cases h) dX7_spread_8

abbrev rmX7_nearest : Room := { frames := 6, cells := 0, slots := 0, locals := 138 }
set_option maxRecDepth 100000 in
set_option maxHeartbeats 400000 in
theorem c_X7_nearest (l : Launch) (E : mE) (a : OneA) (v : OneV) (e : LessonA) (le : LessonV) (t : Int32) (hF : fn_X7_nearest v le (Lessona_self e) = some t) : Met l yX7_nearest wsX7_nearest rmX7_nearest (mPp E [.ref (Onea_self a)] ((One_c E a v) ++ (Lesson_c E e le))) (mSp (some (.int t))) 0 0 (fun _ => False) := by
  refine mOfP (cc := cX7_nearest) (maxL := 4) (ret := (some .int)) (by decide) rfl (Nat.le_of_ble_eq_true rfl) ?_
  intro p e_ s m args below meth c Q hQ CC hr hlocks hP hKN hGl ls hl
  have hS : va_S (fun _ => False) s.heap s.heap [] := va_S.rf
  have hK := hKN.1
  have hx := CC.1
  have hb := CC.2.1
  have hml := CC.2.2.1
  have hown : s.vm.findClass RX7 = some m.cls := CC.2.2.2.1
  have hts := CC.2.2.2.2
  have hl : lv_has ls 4 [(0, .ref (Onea_self a))] := hl
  have k0 := hts (.fieldLink RX7 12 "OneDidAll" "now" "LOneDidAll$Room;") (by decide +kernel)
  have k1 := (show ∀ w ∈ u_ws RX7 TX7 5, w ∈ wsX7_nearest by decide +kernel)
  have k2 := (va_Nw.use rfl (hKN.2.1 ("OneDidAll", 74, "OneDidAll$Room", "group", "LOneDidAll$Group;", "OneDidAll") (by decide +kernel)) : (Cond.fieldLinkNest "OneDidAll" 74 "OneDidAll$Room" "group" "LOneDidAll$Group;" "OneDidAll").before args s = true)
  have k3 := (show ∀ w ∈ u_ws RX5 TX5 9, w ∈ wsX7_nearest by decide +kernel)
  unfold fn_X7_nearest at hF
  refine lv_aload_n hx hb dX7_nearest_0 rfl (lv_at hl 0 rfl) ?_
  refine va_get (D := E.1) (ci := 7) (v := .ref (Rooma_self (Onea_now a))) (C := RX7) (T := TX7) (N := 5) hx hb hts k1 hown hK hP 0 rfl rfl 0 (by decide) k0 (fun _ h9 => h9) rfl dX7_nearest_1 ?_
  refine va_getN (D := E.1) (ci := 5) (v := .ref (Groupa_self (Rooma_group (Onea_now a)))) (C := RX5) (T := TX5) (N := 9) hx hb hts k3 hown hK hP 1 rfl rfl 0 (by decide) k2 (fun _ h9 => h9) rfl dX7_nearest_4 ?_
  refine lv_astore_n (lv' := [(1, .ref (Groupa_self (Rooma_group (Onea_now a)))), (0, .ref (Onea_self a))]) hx hb dX7_nearest_7 rfl hl (by decide) rfl (fun ls hl => ?_)
  refine lv_aload_n hx hb dX7_nearest_8 rfl (lv_at hl 1 rfl) ?_
  refine va_get (D := E.1) (ci := 7) (v := .ref (Rooma_self (Onea_now a))) (C := RX7) (T := TX7) (N := 5) hx hb hts k1 hown hK hP 0 rfl rfl 0 (by decide) k0 (fun _ h9 => h9) rfl dX7_nearest_9 ?_
  obtain ⟨t1, ht1, hF⟩ := m_bnd hF
  have hPc := m_cutP (mid := (Room_c E (Onea_now a) (One_now v))) hP 1 21 rfl
  refine mVP (ci := 5) (n := 0) (rest := []) (As := []) CC hKN hGl hS (c_X5_lesson l E (Onea_now a) (One_now v) t1 ht1) gX7_nearest_X5_lesson rfl ⟨rfl, rfl⟩ (by decide +kernel) ⟨Nat.le_of_ble_eq_true rfl, Nat.le_of_ble_eq_true rfl⟩ hPc rfl rfl rfl rfl hl.1 rfl (Nat.le_of_ble_eq_true rfl) ⟨Nat.zero_le _, Nat.zero_le _⟩ dX7_nearest_12 ?_
  refine W.eq (g2 := F0 m 15 ls [.ref t1]) rfl ?_
  obtain ⟨h2, hF⟩ := m_chk hF
  refine W.eq (g2 := F0 m 15 ls [.ref (Lessona_self e)]) (by rw [h2]) ?_
  obtain ⟨t3, ht3, hF⟩ := m_bnd hF
  have hPc := m_cutP (mid := (Lesson_c E e le)) hP 64 4 rfl
  refine mVP (ci := 3) (n := 0) (rest := []) (As := []) CC hKN hGl hS (c_X3_goal l E e le t3 ht3) gX7_nearest_X3_goal rfl ⟨rfl, rfl⟩ (by decide +kernel) ⟨Nat.le_of_ble_eq_true rfl, Nat.le_of_ble_eq_true rfl⟩ hPc rfl rfl rfl rfl hl.1 rfl (Nat.le_of_ble_eq_true rfl) ⟨Nat.zero_le _, Nat.zero_le _⟩ dX7_nearest_15 ?_
  refine W.eq (g2 := F0 m 18 ls [.int t3]) rfl ?_
  refine lv_istore_n (lv' := [(2, .int t3), (1, .ref (Groupa_self (Rooma_group (Onea_now a)))), (0, .ref (Onea_self a))]) hx hb dX7_nearest_18 rfl hl (by decide) rfl (fun ls hl => ?_)
  refine lv_iconst (v := 0) hx hb dX7_nearest_19 (by decide) ?_
  refine lv_istore_n (lv' := [(3, .int 0), (2, .int t3), (1, .ref (Groupa_self (Rooma_group (Onea_now a)))), (0, .ref (Onea_self a))]) hx hb dX7_nearest_20 rfl hl (by decide) rfl (fun ls hl => ?_)
  refine lv_aload_n hx hb dX7_nearest_21 rfl (lv_at hl 2 rfl) ?_
  refine lv_iconst (v := 2) hx hb dX7_nearest_22 (by decide) ?_
  refine lv_iload_n hx hb dX7_nearest_23 rfl (lv_at hl 1 rfl) ?_
  obtain ⟨t4, ht4, hF⟩ := m_bnd hF
  have hPc := m_cutP (mid := (Group_c E (Rooma_group (Onea_now a)) (Room_group (One_now v)))) hP 2 9 rfl
  refine mVP (ci := 2) (n := 2) (rest := []) (As := [.int 2, .int t3]) CC hKN hGl hS (c_X2_awayFromHours l E (Rooma_group (Onea_now a)) (Room_group (One_now v)) 2 t3 t4 ht4) gX7_nearest_X2_awayFromHours rfl ⟨rfl, rfl⟩ (by decide +kernel) ⟨Nat.le_of_ble_eq_true rfl, Nat.le_of_ble_eq_true rfl⟩ hPc rfl rfl rfl rfl hl.1 rfl (Nat.le_of_ble_eq_true rfl) ⟨Nat.zero_le _, Nat.zero_le _⟩ dX7_nearest_24 ?_
  refine W.eq (g2 := F0 m 27 ls [.int t4]) rfl ?_
  refine lv_aload_n hx hb dX7_nearest_27 rfl (lv_at hl 2 rfl) ?_
  refine lv_iload_n hx hb dX7_nearest_28 rfl (lv_at hl 0 rfl) ?_
  refine lv_iload_n hx hb dX7_nearest_29 rfl (lv_at hl 1 rfl) ?_
  obtain ⟨t5, ht5, hF⟩ := m_bnd hF
  have hPc := m_cutP (mid := (Group_c E (Rooma_group (Onea_now a)) (Room_group (One_now v)))) hP 2 9 rfl
  refine mVP (ci := 2) (n := 2) (rest := [.int t4]) (As := [.int 0, .int t3]) CC hKN hGl hS (c_X2_awayFromHours l E (Rooma_group (Onea_now a)) (Room_group (One_now v)) 0 t3 t5 ht5) gX7_nearest_X2_awayFromHours rfl ⟨rfl, rfl⟩ (by decide +kernel) ⟨Nat.le_of_ble_eq_true rfl, Nat.le_of_ble_eq_true rfl⟩ hPc rfl rfl rfl rfl hl.1 rfl (Nat.le_of_ble_eq_true rfl) ⟨Nat.zero_le _, Nat.zero_le _⟩ dX7_nearest_30 ?_
  refine W.eq (g2 := F0 m 33 ls [.int t5, .int t4]) rfl ?_
  obtain ⟨j38, hjd38, hF⟩ := m_jp hF
  have hj38 : ∀ (x3_38 : Int32) (ls : Array Slot), j38 x3_38 = some t → lv_has ls 4 [(1, .ref (Groupa_self (Rooma_group (Onea_now a)))), (2, .int t3), (3, .int x3_38)] → W p l e_ rmX7_nearest s m args below meth c s.heap [] 0 0 Q (F0 m 38 ls []) := by
    intro x3_38 ls hF hl
    rw [hjd38] at hF
    refine lv_aload_n hx hb dX7_nearest_38 rfl (lv_at hl 0 rfl) ?_
    refine lv_iconst (v := 3) hx hb dX7_nearest_39 (by decide) ?_
    refine lv_iload_n hx hb dX7_nearest_40 rfl (lv_at hl 1 rfl) ?_
    obtain ⟨t6, ht6, hF⟩ := m_bnd hF
    have hPc := m_cutP (mid := (Group_c E (Rooma_group (Onea_now a)) (Room_group (One_now v)))) hP 2 9 rfl
    refine mVP (ci := 2) (n := 2) (rest := []) (As := [.int 3, .int t3]) CC hKN hGl hS (c_X2_awayFromHours l E (Rooma_group (Onea_now a)) (Room_group (One_now v)) 3 t3 t6 ht6) gX7_nearest_X2_awayFromHours rfl ⟨rfl, rfl⟩ (by decide +kernel) ⟨Nat.le_of_ble_eq_true rfl, Nat.le_of_ble_eq_true rfl⟩ hPc rfl rfl rfl rfl hl.1 rfl (Nat.le_of_ble_eq_true rfl) ⟨Nat.zero_le _, Nat.zero_le _⟩ dX7_nearest_41 ?_
    refine W.eq (g2 := F0 m 44 ls [.int t6]) rfl ?_
    refine lv_aload_n hx hb dX7_nearest_44 rfl (lv_at hl 0 rfl) ?_
    refine lv_iload_n hx hb dX7_nearest_45 rfl (lv_at hl 2 rfl) ?_
    refine lv_iload_n hx hb dX7_nearest_46 rfl (lv_at hl 1 rfl) ?_
    obtain ⟨t7, ht7, hF⟩ := m_bnd hF
    have hPc := m_cutP (mid := (Group_c E (Rooma_group (Onea_now a)) (Room_group (One_now v)))) hP 2 9 rfl
    refine mVP (ci := 2) (n := 2) (rest := [.int t6]) (As := [.int x3_38, .int t3]) CC hKN hGl hS (c_X2_awayFromHours l E (Rooma_group (Onea_now a)) (Room_group (One_now v)) x3_38 t3 t7 ht7) gX7_nearest_X2_awayFromHours rfl ⟨rfl, rfl⟩ (by decide +kernel) ⟨Nat.le_of_ble_eq_true rfl, Nat.le_of_ble_eq_true rfl⟩ hPc rfl rfl rfl rfl hl.1 rfl (Nat.le_of_ble_eq_true rfl) ⟨Nat.zero_le _, Nat.zero_le _⟩ dX7_nearest_47 ?_
    refine W.eq (g2 := F0 m 50 ls [.int t7, .int t6]) rfl ?_
    refine lv_icmp_ge (tgt := 55) hx hb dX7_nearest_50 (by decide) (fun c8 => ?_) (fun c8 => ?_)
    · have hF := m_pos c8 hF
      refine lv_iload_n hx hb dX7_nearest_55 rfl (lv_at hl 2 rfl) ?_
      have hF := Option.some.inj hF
      subst hF
      rw [hQ]
      exact W.iret hx hb hr (fun t ht _ => ⟨rfl, ht⟩) (fun _ h => by cases h) dX7_nearest_56
    · have hF := m_neg c8 hF
      refine lv_iconst (v := 3) hx hb dX7_nearest_53 (by decide) ?_
      refine lv_istore_n (lv' := [(3, .int 3), (1, .ref (Groupa_self (Rooma_group (Onea_now a)))), (2, .int t3)]) hx hb dX7_nearest_54 rfl hl (by decide) rfl (fun ls hl => ?_)
      refine lv_iload_n hx hb dX7_nearest_55 rfl (lv_at hl 0 rfl) ?_
      have hF := Option.some.inj hF
      subst hF
      rw [hQ]
      exact W.iret hx hb hr (fun t ht _ => ⟨rfl, ht⟩) (fun _ h => by cases h) dX7_nearest_56
  clear hjd38
  refine lv_icmp_ge (tgt := 38) hx hb dX7_nearest_33 (by decide) (fun c9 => ?_) (fun c9 => ?_)
  · have hF := m_pos c9 hF
    exact hj38 0 ls hF (lv_sub hl [2, 1, 0] rfl)
  · have hF := m_neg c9 hF
    refine lv_iconst (v := 2) hx hb dX7_nearest_36 (by decide) ?_
    refine lv_istore_n (lv' := [(3, .int 2), (2, .int t3), (1, .ref (Groupa_self (Rooma_group (Onea_now a)))), (0, .ref (Onea_self a))]) hx hb dX7_nearest_37 rfl hl (by decide) rfl (fun ls hl => ?_)
    exact hj38 2 ls hF (lv_sub hl [2, 1, 0] rfl)

abbrev rmX1_go : Room := { frames := 5, cells := 0, slots := 0, locals := 126 }
set_option maxRecDepth 100000 in
set_option maxHeartbeats 400000 in
theorem c_X1_go (l : Launch) (E : mE) (a : ForecastA) (v : ForecastV) (e : LessonA) (le : LessonV) (x0 : Int32) (t : ForecastV) (hF : fn_X1_go v le (Lessona_self e) x0 = some t) (sz : Nat) : Met l yX1_go wsX1_go rmX1_go (mPm E [.ref (Forecasta_self a), .int x0] sz ((Forecast_c E a v)) ((Lesson_c E e le))) (mSm E (none) ((Forecast_c E a t)) (va_A ((Forecast_c E a v)) sz)) 0 0 (va_A ((Forecast_c E a v)) sz) := by
  refine mOfM (cc := cX1_go) (maxL := 2) (ret := none) (by decide) rfl (Nat.le_of_ble_eq_true rfl) ?_
  intro p e_ s m args below meth c Q A hQ CC hr hlocks hin hA hP hD hKN hGl hR0 hRA ls hl
  have hS : va_S A s.heap s.heap [] := va_S.rf
  have hK := hKN.1
  have hx := CC.1
  have hb := CC.2.1
  have hml := CC.2.2.1
  have hown : s.vm.findClass RX1 = some m.cls := CC.2.2.2.1
  have hts := CC.2.2.2.2
  have hl : lv_has ls 2 [(0, .ref (Forecasta_self a)), (1, .int x0)] := hl
  have k0 := hts (.fieldLink RX1 12 "OneDidAll$Forecast" "trial" "LOneDidAll$Group;") (by decide +kernel)
  have k1 := (show ∀ w ∈ u_ws RX1 TX1 3, w ∈ wsX1_go by decide +kernel)
  have k2 := hts (.fieldLink RX1 24 "OneDidAll$Forecast" "lesson" "LOneDidAll$Lesson;") (by decide +kernel)
  have hP : va_P E.1 vwCl (Forecast_c E a v) s.heap := hP
  obtain ⟨H, hH⟩ : ∃ H, H = s.heap := ⟨_, rfl⟩
  obtain ⟨locs, hlc⟩ : ∃ z : List Loc, z = [] := ⟨_, rfl⟩
  rw [← hH] at hP
  rw [← hlc] at hS
  have hS : va_S A s.heap H locs := by rw [hH]; exact hS
  rw [← hH, ← hlc]
  unfold fn_X1_go at hF
  refine lv_aload_n hx hb dX1_go_0 rfl (lv_at hl 0 rfl) ?_
  refine va_get (D := E.1) (ci := 1) (v := .ref (Groupa_self (Forecasta_trial a))) (C := RX1) (T := TX1) (N := 3) hx hb hts k1 hown hK hP 0 rfl rfl 0 (by decide) k0 (fun _ h9 => h9) rfl dX1_go_1 ?_
  refine lv_aload_n hx hb dX1_go_4 rfl (lv_at hl 0 rfl) ?_
  refine va_get (D := E.1) (ci := 1) (v := .ref (Forecast_lesson v)) (C := RX1) (T := TX1) (N := 3) hx hb hts k1 hown hK hP 0 rfl rfl 2 (by decide) k2 (fun _ h9 => h9) rfl dX1_go_5 ?_
  refine lv_iload_n hx hb dX1_go_8 rfl (lv_at hl 1 rfl) ?_
  refine lv_iconst (v := 0) hx hb dX1_go_9 (by decide) ?_
  obtain ⟨h1, hF⟩ := m_chk hF
  refine W.eq (g2 := F0 m 10 ls [.int 0, .int x0, .ref (Lessona_self e), .ref (Groupa_self (Forecasta_trial a))]) (by rw [h1]) ?_
  obtain ⟨t2, ht2, hF⟩ := m_bnd hF
  have hpm : List.Perm (Forecast_c E a v) ((Group_c E (Forecasta_trial a) (Forecast_trial v)) ++ ((List.take 1 (Forecast_c E a v)) ++ (List.drop 10 (Forecast_c E a v)))) := m_p1 (A := (List.take 1 (Forecast_c E a v))) (m := (Group_c E (Forecasta_trial a) (Forecast_trial v))) (C := (List.drop 10 (Forecast_c E a v)))
  obtain ⟨hPc, hDc, hFc⟩ := m_pre hpm hP hD hS hA
  have hp3 := (m_ro hR0 hRA hS).sub (ws' := Lesson_c E e le) [0, 1, 2, 3] rfl
  have ha4 := m_roA (wr := Lesson_c E e le) hRA hFc [0, 1, 2, 3] rfl
  refine mVM (ci := 2) (n := 3) (rest := []) (As := [.ref (Lessona_self e), .int x0, .int 0]) CC hKN hGl (c_X2_goWeeks l E (Forecasta_trial a) (Forecast_trial v) e le x0 0 t2 ht2 _) gX1_go_X2_goWeeks rfl ⟨rfl, rfl⟩ (by decide +kernel) ⟨Nat.le_of_ble_eq_true rfl, Nat.le_of_ble_eq_true rfl⟩ hPc hDc hp3 ha4 hS hFc rfl rfl rfl rfl hl.1 rfl (Nat.le_of_ble_eq_true rfl) ⟨Nat.zero_le _, Nat.zero_le _⟩ dX1_go_10 (fun H1 locs hP1 hD1 hz1 hk1 hS => ?_)
  have hpn : List.Perm (Forecast_c E a (Forecast_trial_s v t2)) ((Group_c E (Forecasta_trial a) t2) ++ ((List.take 1 (Forecast_c E a v)) ++ (List.drop 10 (Forecast_c E a v)))) := m_p1 (A := (List.take 1 (Forecast_c E a v))) (m := (Group_c E (Forecasta_trial a) t2)) (C := (List.drop 10 (Forecast_c E a v)))
  obtain ⟨hP, hD⟩ := m_spl hpm hpn hP hD hk1 hFc hP1 hD1
  generalize H1 = H at hP hS ⊢
  refine W.eq (g2 := F0 m 13 ls []) rfl ?_
  have hF := Option.some.inj hF
  subst hF
  rw [hQ]
  exact W.vret hx hb hr (fun t ht _ => ⟨⟨rfl, by rw [ht]; exact hP, hD⟩, hS.F ht⟩) hS.2.2 dX1_go_13

abbrev rmX1_workOf : Room := { frames := 5, cells := 0, slots := 0, locals := 126 }
set_option maxRecDepth 100000 in
set_option maxHeartbeats 400000 in
theorem c_X1_workOf (l : Launch) (E : mE) (a : ForecastA) (v : ForecastV) (a0 : RoomA) (v0 : RoomV) (e : LessonA) (le : LessonV) (x1 : Int32) (x2 : Int32) (t : (Int32 × ForecastV)) (hF : fn_X1_workOf v v0 le (Lessona_self e) x1 x2 = some t) (sz : Nat) : Met l yX1_workOf wsX1_workOf rmX1_workOf (mPm E [.ref (Forecasta_self a), .ref (Rooma_self a0), .int x1, .int x2] sz (((Forecast_c E a v) ++ (Room_c E a0 v0))) ((Lesson_c E e le))) (mSm E (some (.int t.1)) (((Forecast_c E a t.2) ++ (Room_c E a0 v0))) (va_A (((Forecast_c E a v) ++ (Room_c E a0 v0))) sz)) 0 0 (va_A (((Forecast_c E a v) ++ (Room_c E a0 v0))) sz) := by
  refine mOfM (cc := cX1_workOf) (maxL := 5) (ret := (some .int)) (by decide) rfl (Nat.le_of_ble_eq_true rfl) ?_
  intro p e_ s m args below meth c Q A hQ CC hr hlocks hin hA hP hD hKN hGl hR0 hRA ls hl
  have hS : va_S A s.heap s.heap [] := va_S.rf
  have hK := hKN.1
  have hx := CC.1
  have hb := CC.2.1
  have hml := CC.2.2.1
  have hown : s.vm.findClass RX1 = some m.cls := CC.2.2.2.1
  have hts := CC.2.2.2.2
  have hl : lv_has ls 5 [(0, .ref (Forecasta_self a)), (1, .ref (Rooma_self a0)), (2, .int x1), (3, .int x2)] := hl
  have k0 := hts (.fieldLink RX1 12 "OneDidAll$Forecast" "trial" "LOneDidAll$Group;") (by decide +kernel)
  have k1 := (show ∀ w ∈ u_ws RX1 TX1 3, w ∈ wsX1_workOf by decide +kernel)
  have k2 := hts (.fieldLink RX1 24 "OneDidAll$Forecast" "lesson" "LOneDidAll$Lesson;") (by decide +kernel)
  have k3 := (va_Nw.use rfl (hKN.2.1 ("OneDidAll$Forecast", 64, "OneDidAll$Group", "size", "I", "OneDidAll") (by decide +kernel)) : (Cond.fieldLinkNest "OneDidAll$Forecast" 64 "OneDidAll$Group" "size" "I" "OneDidAll").before args s = true)
  have k4 := (show ∀ w ∈ u_ws RX2 TX2 11, w ∈ wsX1_workOf by decide +kernel)
  have k5 := (va_Nw.use rfl (hKN.2.1 ("OneDidAll$Forecast", 44, "OneDidAll$Group", "outs", "[Z", "OneDidAll") (by decide +kernel)) : (Cond.fieldLinkNest "OneDidAll$Forecast" 44 "OneDidAll$Group" "outs" "[Z" "OneDidAll").before args s = true)
  have hP : va_P E.1 vwCl ((Forecast_c E a v) ++ (Room_c E a0 v0)) s.heap := hP
  obtain ⟨H, hH⟩ : ∃ H, H = s.heap := ⟨_, rfl⟩
  obtain ⟨locs, hlc⟩ : ∃ z : List Loc, z = [] := ⟨_, rfl⟩
  rw [← hH] at hP
  rw [← hlc] at hS
  have hS : va_S A s.heap H locs := by rw [hH]; exact hS
  rw [← hH, ← hlc]
  unfold fn_X1_workOf at hF
  refine lv_aload_n hx hb dX1_workOf_0 rfl (lv_at hl 0 rfl) ?_
  refine lv_aload_n hx hb dX1_workOf_1 rfl (lv_at hl 1 rfl) ?_
  obtain ⟨t1, ht1, hF⟩ := m_bnd hF
  have hPc := hP
  have hDc := hD
  have hFc := va_free (wc := ((Forecast_c E a v) ++ (Room_c E a0 v0))) hD hS hA [0, 1, 2, 3, 4, 5, 6, 7, 8, 9, 10, 11, 12, 13, 14, 15, 16, 17, 18, 19, 20, 21, 22, 23, 24, 25, 26, 27, 28, 29, 30, 31, 32, 33, 34, 35, 36, 37, 38, 39] rfl
  refine mVM (ci := 1) (n := 1) (rest := []) (As := [.ref (Rooma_self a0)]) CC hKN hGl (c_X1_begin l E a v a0 v0 t1 ht1 _) gX1_workOf_X1_begin rfl ⟨rfl, rfl⟩ (by decide +kernel) ⟨Nat.le_of_ble_eq_true rfl, Nat.le_of_ble_eq_true rfl⟩ hPc hDc m_nil m_nilA hS hFc rfl rfl rfl rfl hl.1 rfl (Nat.le_of_ble_eq_true rfl) ⟨Nat.zero_le _, Nat.zero_le _⟩ dX1_workOf_2 (fun H1 locs hP1 hD1 hz1 hk1 hS => ?_)
  have hP : va_P E.1 vwCl ((Forecast_c E a t1) ++ (Room_c E a0 v0)) H1 := hP1
  have hD : va_D A ((Forecast_c E a t1) ++ (Room_c E a0 v0)) := m_back hD1 hFc
  generalize H1 = H at hP hS ⊢
  refine W.eq (g2 := F0 m 5 ls []) rfl ?_
  refine lv_iconst (v := 0) hx hb dX1_workOf_5 (by decide) ?_
  refine lv_istore (lv' := [(4, .int 0), (0, .ref (Forecasta_self a)), (1, .ref (Rooma_self a0)), (2, .int x1), (3, .int x2)]) hx hb dX1_workOf_6 hl (by decide) rfl (fun ls hl => ?_)
  obtain ⟨j50, hjd50, hF⟩ := m_jp hF
  have hj50 : ∀ (wx_50 : ForecastV) (H : Heap) (locs : List Loc) (ls : Array Slot), j50 wx_50 = some t → va_P E.1 vwCl ((Forecast_c E a wx_50) ++ (Room_c E a0 v0)) H → va_D A ((Forecast_c E a wx_50) ++ (Room_c E a0 v0)) → va_S A s.heap H locs → lv_has ls 5 [(0, .ref (Forecasta_self a)), (3, .int x2)] → W p l e_ rmX1_workOf s m args below meth c H locs 0 0 Q (F0 m 50 ls []) := by
    intro wx_50 H locs ls hF hP hD hS hl
    rw [hjd50] at hF
    refine lv_aload_n hx hb dX1_workOf_50 rfl (lv_at hl 0 rfl) ?_
    refine va_get (D := E.1) (ci := 1) (v := .ref (Groupa_self (Forecasta_trial a))) (C := RX1) (T := TX1) (N := 3) hx hb hts k1 hown hK hP 0 rfl rfl 0 (by decide) k0 (fun _ h9 => h9) rfl dX1_workOf_51 ?_
    refine lv_aload_n hx hb dX1_workOf_54 rfl (lv_at hl 0 rfl) ?_
    refine va_get (D := E.1) (ci := 1) (v := .ref (Forecast_lesson wx_50)) (C := RX1) (T := TX1) (N := 3) hx hb hts k1 hown hK hP 0 rfl rfl 2 (by decide) k2 (fun _ h9 => h9) rfl dX1_workOf_55 ?_
    refine lv_iload_n hx hb dX1_workOf_58 rfl (lv_at hl 1 rfl) ?_
    refine lv_iconst (v := 0) hx hb dX1_workOf_59 (by decide) ?_
    obtain ⟨h2, hF⟩ := m_chk hF
    refine W.eq (g2 := F0 m 60 ls [.int 0, .int x2, .ref (Lessona_self e), .ref (Groupa_self (Forecasta_trial a))]) (by rw [h2]) ?_
    obtain ⟨t3, ht3, hF⟩ := m_bnd hF
    have hpm : List.Perm ((Forecast_c E a wx_50) ++ (Room_c E a0 v0)) ((Group_c E (Forecasta_trial a) (Forecast_trial wx_50)) ++ ((List.take 1 ((Forecast_c E a wx_50) ++ (Room_c E a0 v0))) ++ (List.drop 10 ((Forecast_c E a wx_50) ++ (Room_c E a0 v0))))) := m_p1 (A := (List.take 1 ((Forecast_c E a wx_50) ++ (Room_c E a0 v0)))) (m := (Group_c E (Forecasta_trial a) (Forecast_trial wx_50))) (C := (List.drop 10 ((Forecast_c E a wx_50) ++ (Room_c E a0 v0))))
    obtain ⟨hPc, hDc, hFc⟩ := m_pre hpm hP hD hS hA
    have hp4 := (m_ro hR0 hRA hS).sub (ws' := Lesson_c E e le) [0, 1, 2, 3] rfl
    have ha5 := m_roA (wr := Lesson_c E e le) hRA hFc [0, 1, 2, 3] rfl
    refine mVM (ci := 2) (n := 3) (rest := []) (As := [.ref (Lessona_self e), .int x2, .int 0]) CC hKN hGl (c_X2_goWeeks l E (Forecasta_trial a) (Forecast_trial wx_50) e le x2 0 t3 ht3 _) gX1_workOf_X2_goWeeks rfl ⟨rfl, rfl⟩ (by decide +kernel) ⟨Nat.le_of_ble_eq_true rfl, Nat.le_of_ble_eq_true rfl⟩ hPc hDc hp4 ha5 hS hFc rfl rfl rfl rfl hl.1 rfl (Nat.le_of_ble_eq_true rfl) ⟨Nat.zero_le _, Nat.zero_le _⟩ dX1_workOf_60 (fun H1 locs hP1 hD1 hz1 hk1 hS => ?_)
    have hpn : List.Perm ((Forecast_c E a (Forecast_trial_s wx_50 t3)) ++ (Room_c E a0 v0)) ((Group_c E (Forecasta_trial a) t3) ++ ((List.take 1 ((Forecast_c E a wx_50) ++ (Room_c E a0 v0))) ++ (List.drop 10 ((Forecast_c E a wx_50) ++ (Room_c E a0 v0))))) := m_p1 (A := (List.take 1 ((Forecast_c E a wx_50) ++ (Room_c E a0 v0)))) (m := (Group_c E (Forecasta_trial a) t3)) (C := (List.drop 10 ((Forecast_c E a wx_50) ++ (Room_c E a0 v0))))
    obtain ⟨hP, hD⟩ := m_spl hpm hpn hP hD hk1 hFc hP1 hD1
    generalize H1 = H at hP hS ⊢
    refine W.eq (g2 := F0 m 63 ls []) rfl ?_
    refine lv_aload_n hx hb dX1_workOf_63 rfl (lv_at hl 0 rfl) ?_
    obtain ⟨t6, ht6, hF⟩ := m_bnd hF
    have hPc := m_cutP (mid := (Forecast_c E a (Forecast_trial_s wx_50 t3))) hP 0 19 rfl
    refine mVP (ci := 1) (n := 0) (rest := []) (As := []) CC hKN hGl hS (c_X1_workMore l E a (Forecast_trial_s wx_50 t3) t6 ht6) gX1_workOf_X1_workMore rfl ⟨rfl, rfl⟩ (by decide +kernel) ⟨Nat.le_of_ble_eq_true rfl, Nat.le_of_ble_eq_true rfl⟩ hPc rfl rfl rfl rfl hl.1 rfl (Nat.le_of_ble_eq_true rfl) ⟨Nat.zero_le _, Nat.zero_le _⟩ dX1_workOf_64 ?_
    refine W.eq (g2 := F0 m 67 ls [.int t6]) rfl ?_
    have hF := Option.some.inj hF
    subst hF
    rw [hQ]
    exact W.iret hx hb hr (fun t ht _ => ⟨⟨rfl, by rw [ht]; exact hP, hD⟩, hS.F ht⟩) hS.2.2 dX1_workOf_67
  clear hjd50
  have hL8 : ∀ (n : Nat) (y4_8 : Int32) (wy_8 : ForecastV) (H : Heap) (locs : List Loc) (ls : Array Slot), lp_X1_workOf_8 x1 j50 n y4_8 wy_8 = some t → va_P E.1 vwCl ((Forecast_c E a wy_8) ++ (Room_c E a0 v0)) H → va_D A ((Forecast_c E a wy_8) ++ (Room_c E a0 v0)) → va_S A s.heap H locs → lv_has ls 5 [(0, .ref (Forecasta_self a)), (2, .int x1), (3, .int x2), (4, .int y4_8)] → W p l e_ rmX1_workOf s m args below meth c H locs 0 0 Q (F0 m 8 ls []) := by
    intro n
    induction n with
    | zero =>
      intro y4_8 wy_8 H locs ls hF
      exact nomatch (show (none : Option (Int32 × ForecastV)) = some t from hF)
    | succ n ih8 =>
      intro y4_8 wy_8 H locs ls hF hP hD hS hl
      have hF : st_X1_workOf_8 x1 j50 (lp_X1_workOf_8 x1 j50 n) y4_8 wy_8 = some t := hF
      unfold st_X1_workOf_8 at hF
      refine lv_iload hx hb dX1_workOf_8 (lv_at hl 3 rfl) ?_
      refine lv_aload_n hx hb dX1_workOf_10 rfl (lv_at hl 0 rfl) ?_
      refine va_get (D := E.1) (ci := 1) (v := .ref (Groupa_self (Forecasta_trial a))) (C := RX1) (T := TX1) (N := 3) hx hb hts k1 hown hK hP 0 rfl rfl 0 (by decide) k0 (fun _ h9 => h9) rfl dX1_workOf_11 ?_
      refine va_getN (D := E.1) (ci := 2) (v := .int (Group_size (Forecast_trial wy_8))) (C := RX2) (T := TX2) (N := 11) hx hb hts k4 hown hK hP 1 rfl rfl 0 (by decide) k3 (fun _ h9 => h9) rfl dX1_workOf_14 ?_
      refine lv_icmp_ge (tgt := 50) hx hb dX1_workOf_17 (by decide) (fun c7 => ?_) (fun c7 => ?_)
      · have hF := m_pos c7 hF
        exact hj50 wy_8 H locs ls hF hP hD hS (lv_sub hl [0, 2] rfl)
      · have hF := m_neg c7 hF
        refine lv_aload_n hx hb dX1_workOf_20 rfl (lv_at hl 0 rfl) ?_
        refine va_get (D := E.1) (ci := 1) (v := .ref (Groupa_self (Forecasta_trial a))) (C := RX1) (T := TX1) (N := 3) hx hb hts k1 hown hK hP 0 rfl rfl 0 (by decide) k0 (fun _ h9 => h9) rfl dX1_workOf_21 ?_
        refine va_getN (D := E.1) (ci := 2) (v := .ref (Groupa_outs (Forecasta_trial a))) (C := RX2) (T := TX2) (N := 11) hx hb hts k4 hown hK hP 1 rfl rfl 8 (by decide) k5 (fun _ h9 => h9) rfl dX1_workOf_24 ?_
        refine lv_iload hx hb dX1_workOf_27 (lv_at hl 3 rfl) ?_
        refine lv_iload_n hx hb dX1_workOf_29 rfl (lv_at hl 1 rfl) ?_
        refine lv_iload hx hb dX1_workOf_30 (lv_at hl 3 rfl) ?_
        refine lv_ishr hx hb dX1_workOf_32 ?_
        refine lv_iconst (v := 1) hx hb dX1_workOf_33 (by decide) ?_
        refine lv_iand hx hb dX1_workOf_34 ?_
        obtain ⟨j43, hjd43, hF⟩ := m_jp hF
        have hj43 : ∀ (z0_43 : Int32) (H : Heap) (locs : List Loc) (ls : Array Slot), j43 z0_43 = some t → va_P E.1 vwCl ((Forecast_c E a wy_8) ++ (Room_c E a0 v0)) H → va_D A ((Forecast_c E a wy_8) ++ (Room_c E a0 v0)) → va_S A s.heap H locs → lv_has ls 5 [(0, .ref (Forecasta_self a)), (2, .int x1), (3, .int x2), (4, .int y4_8)] → W p l e_ rmX1_workOf s m args below meth c H locs 0 0 Q (F0 m 43 ls [.int z0_43, .int y4_8, .ref (Groupa_outs (Forecasta_trial a))]) := by
          intro z0_43 H locs ls hF hP hD hS hl
          rw [hjd43] at hF
          obtain ⟨h8, hF⟩ := m_chk hF
          refine va_zast (f := (Group_outs (Forecast_trial wy_8))) hx hb hK hP hD hS 7 2 rfl rfl (mIn_ok h8) dX1_workOf_43 (fun H locs hP hD hS => ?_)
          have hP : va_P E.1 vwCl ((Forecast_c E a (Forecast_trial_s wy_8 (Group_outs_s (Forecast_trial wy_8) (upd (Group_outs (Forecast_trial wy_8)) (y4_8).toNatClampNeg (vp_nar .boolean z0_43))))) ++ (Room_c E a0 v0)) H := hP
          have hD : va_D A ((Forecast_c E a (Forecast_trial_s wy_8 (Group_outs_s (Forecast_trial wy_8) (upd (Group_outs (Forecast_trial wy_8)) (y4_8).toNatClampNeg (vp_nar .boolean z0_43))))) ++ (Room_c E a0 v0)) := hD
          refine lv_iinc (v := (y4_8 + 1)) (lv' := [(4, .int (y4_8 + 1)), (0, .ref (Forecasta_self a)), (2, .int x1), (3, .int x2)]) hx hb dX1_workOf_44 hl (k := 3) rfl rfl (by decide) rfl (fun ls hl => ?_)
          refine lv_goto (tgt := 8) hx hb dX1_workOf_47 (by decide) ?_
          exact ih8 (y4_8 + 1) (Forecast_trial_s wy_8 (Group_outs_s (Forecast_trial wy_8) (upd (Group_outs (Forecast_trial wy_8)) (y4_8).toNatClampNeg (vp_nar .boolean z0_43)))) H locs ls hF hP hD hS (lv_sub hl [1, 2, 3, 0] rfl)
        clear hjd43
        refine lv_if_ne (tgt := 42) hx hb dX1_workOf_35 (by decide) (fun c9 => ?_) (fun c9 => ?_)
        · have hF := m_pos c9 hF
          refine lv_iconst (v := 0) hx hb dX1_workOf_42 (by decide) ?_
          exact hj43 0 H locs ls hF hP hD hS (lv_sub hl [0, 1, 2, 3] rfl)
        · have hF := m_neg (fun n9 => n9 c9) hF
          refine lv_iconst (v := 1) hx hb dX1_workOf_38 (by decide) ?_
          refine lv_goto (tgt := 43) hx hb dX1_workOf_39 (by decide) ?_
          exact hj43 1 H locs ls hF hP hD hS (lv_sub hl [0, 1, 2, 3] rfl)
  exact hL8 m_N 0 t1 H locs ls hF hP hD hS (lv_sub hl [1, 3, 4, 0] rfl)

abbrev rmX1_meets : Room := { frames := 5, cells := 0, slots := 0, locals := 126 }
set_option maxRecDepth 100000 in
set_option maxHeartbeats 400000 in
theorem c_X1_meets (l : Launch) (E : mE) (a : ForecastA) (v : ForecastV) (a0 : RowsA) (v0 : RowsV) (e : LessonA) (le : LessonV) (t : (Int32 × ForecastV)) (hF : fn_X1_meets v v0 le (Lessona_self e) = some t) (sz : Nat) : Met l yX1_meets wsX1_meets rmX1_meets (mPm E [.ref (Forecasta_self a), .ref (Rowsa_self a0)] sz ((Forecast_c E a v)) (((Rows_c E a0 v0) ++ (Lesson_c E e le)))) (mSm E (some (.int t.1)) ((Forecast_c E a t.2)) (va_A ((Forecast_c E a v)) sz)) 0 0 (va_A ((Forecast_c E a v)) sz) := by
  refine mOfM (cc := cX1_meets) (maxL := 4) (ret := (some .boolean)) (by decide) rfl (Nat.le_of_ble_eq_true rfl) ?_
  intro p e_ s m args below meth c Q A hQ CC hr hlocks hin hA hP hD hKN hGl hR0 hRA ls hl
  have hS : va_S A s.heap s.heap [] := va_S.rf
  have hK := hKN.1
  have hx := CC.1
  have hb := CC.2.1
  have hml := CC.2.2.1
  have hown : s.vm.findClass RX1 = some m.cls := CC.2.2.2.1
  have hts := CC.2.2.2.2
  have hl : lv_has ls 4 [(0, .ref (Forecasta_self a)), (1, .ref (Rowsa_self a0))] := hl
  have k0 := hts (.fieldLink RX1 12 "OneDidAll$Forecast" "trial" "LOneDidAll$Group;") (by decide +kernel)
  have k1 := (show ∀ w ∈ u_ws RX1 TX1 3, w ∈ wsX1_meets by decide +kernel)
  have k2 := hts (.fieldLink RX1 24 "OneDidAll$Forecast" "lesson" "LOneDidAll$Lesson;") (by decide +kernel)
  have k3 := (va_Nw.use rfl (hKN.2.1 ("OneDidAll$Forecast", 70, "OneDidAll$Rows", "size", "I", "OneDidAll") (by decide +kernel)) : (Cond.fieldLinkNest "OneDidAll$Forecast" 70 "OneDidAll$Rows" "size" "I" "OneDidAll").before args s = true)
  have k4 := (show ∀ w ∈ u_ws RX6 TX6 3, w ∈ wsX1_meets by decide +kernel)
  have k5 := (va_Nw.use rfl (hKN.2.1 ("OneDidAll$Forecast", 73, "OneDidAll$Rows", "seconds", "[I", "OneDidAll") (by decide +kernel)) : (Cond.fieldLinkNest "OneDidAll$Forecast" 73 "OneDidAll$Rows" "seconds" "[I" "OneDidAll").before args s = true)
  have k6 := (va_Nw.use rfl (hKN.2.1 ("OneDidAll$Forecast", 76, "OneDidAll$Rows", "firsts", "[I", "OneDidAll") (by decide +kernel)) : (Cond.fieldLinkNest "OneDidAll$Forecast" 76 "OneDidAll$Rows" "firsts" "[I" "OneDidAll").before args s = true)
  have hP : va_P E.1 vwCl (Forecast_c E a v) s.heap := hP
  obtain ⟨H, hH⟩ : ∃ H, H = s.heap := ⟨_, rfl⟩
  obtain ⟨locs, hlc⟩ : ∃ z : List Loc, z = [] := ⟨_, rfl⟩
  rw [← hH] at hP
  rw [← hlc] at hS
  have hS : va_S A s.heap H locs := by rw [hH]; exact hS
  rw [← hH, ← hlc]
  unfold fn_X1_meets at hF
  refine lv_iconst (v := 0) hx hb dX1_meets_0 (by decide) ?_
  refine lv_istore_n (lv' := [(2, .int 0), (0, .ref (Forecasta_self a)), (1, .ref (Rowsa_self a0))]) hx hb dX1_meets_1 rfl hl (by decide) rfl (fun ls hl => ?_)
  have hL2 : ∀ (n : Nat) (y2_2 : Int32) (wy_2 : ForecastV) (H : Heap) (locs : List Loc) (ls : Array Slot), lp_X1_meets_2 v0 le (Lessona_self e) n y2_2 wy_2 = some t → va_P E.1 vwCl (Forecast_c E a wy_2) H → va_D A (Forecast_c E a wy_2) → va_S A s.heap H locs → lv_has ls 4 [(0, .ref (Forecasta_self a)), (1, .ref (Rowsa_self a0)), (2, .int y2_2)] → W p l e_ rmX1_meets s m args below meth c H locs 0 0 Q (F0 m 2 ls []) := by
    intro n
    induction n with
    | zero =>
      intro y2_2 wy_2 H locs ls hF
      exact nomatch (show (none : Option (Int32 × ForecastV)) = some t from hF)
    | succ n ih2 =>
      intro y2_2 wy_2 H locs ls hF hP hD hS hl
      have hF : st_X1_meets_2 v0 le (Lessona_self e) (lp_X1_meets_2 v0 le (Lessona_self e) n) y2_2 wy_2 = some t := hF
      unfold st_X1_meets_2 at hF
      refine lv_iload_n hx hb dX1_meets_2 rfl (lv_at hl 2 rfl) ?_
      refine lv_bipush (v := 20) hx hb dX1_meets_3 (by decide) ?_
      refine lv_icmp_gt (tgt := 68) hx hb dX1_meets_5 (by decide) (fun c1 => ?_) (fun c1 => ?_)
      · have hF := m_pos c1 hF
        refine lv_iconst (v := 1) hx hb dX1_meets_68 (by decide) ?_
        have hF := Option.some.inj hF
        subst hF
        rw [hQ]
        exact W.zret hx hb hr rfl (fun t ht _ => ⟨⟨rfl, by rw [ht]; exact hP, hD⟩, hS.F ht⟩) hS.2.2 dX1_meets_69
      · have hF := m_neg c1 hF
        refine lv_iconst (v := 0) hx hb dX1_meets_8 (by decide) ?_
        refine lv_istore_n (lv' := [(3, .int 0), (0, .ref (Forecasta_self a)), (1, .ref (Rowsa_self a0)), (2, .int y2_2)]) hx hb dX1_meets_9 rfl hl (by decide) rfl (fun ls hl => ?_)
        obtain ⟨j49, hjd49, hF⟩ := m_jp hF
        have hj49 : ∀ (H : Heap) (locs : List Loc) (ls : Array Slot), j49 () = some t → va_P E.1 vwCl (Forecast_c E a wy_2) H → va_D A (Forecast_c E a wy_2) → va_S A s.heap H locs → lv_has ls 4 [(0, .ref (Forecasta_self a)), (1, .ref (Rowsa_self a0)), (2, .int y2_2)] → W p l e_ rmX1_meets s m args below meth c H locs 0 0 Q (F0 m 49 ls []) := by
          intro H locs ls hF hP hD hS hl
          rw [hjd49] at hF
          refine lv_aload_n hx hb dX1_meets_49 rfl (lv_at hl 0 rfl) ?_
          refine va_get (D := E.1) (ci := 1) (v := .ref (Groupa_self (Forecasta_trial a))) (C := RX1) (T := TX1) (N := 3) hx hb hts k1 hown hK hP 0 rfl rfl 0 (by decide) k0 (fun _ h9 => h9) rfl dX1_meets_50 ?_
          refine lv_aload_n hx hb dX1_meets_53 rfl (lv_at hl 0 rfl) ?_
          refine va_get (D := E.1) (ci := 1) (v := .ref (Forecast_lesson wy_2)) (C := RX1) (T := TX1) (N := 3) hx hb hts k1 hown hK hP 0 rfl rfl 2 (by decide) k2 (fun _ h9 => h9) rfl dX1_meets_54 ?_
          refine lv_iconst (v := 1) hx hb dX1_meets_57 (by decide) ?_
          refine lv_iconst (v := 0) hx hb dX1_meets_58 (by decide) ?_
          obtain ⟨h2, hF⟩ := m_chk hF
          refine W.eq (g2 := F0 m 59 ls [.int 0, .int 1, .ref (Lessona_self e), .ref (Groupa_self (Forecasta_trial a))]) (by rw [h2]) ?_
          obtain ⟨t3, ht3, hF⟩ := m_bnd hF
          have hpm : List.Perm (Forecast_c E a wy_2) ((Group_c E (Forecasta_trial a) (Forecast_trial wy_2)) ++ ((List.take 1 (Forecast_c E a wy_2)) ++ (List.drop 10 (Forecast_c E a wy_2)))) := m_p1 (A := (List.take 1 (Forecast_c E a wy_2))) (m := (Group_c E (Forecasta_trial a) (Forecast_trial wy_2))) (C := (List.drop 10 (Forecast_c E a wy_2)))
          obtain ⟨hPc, hDc, hFc⟩ := m_pre hpm hP hD hS hA
          have hp4 := (m_ro hR0 hRA hS).sub (ws' := Lesson_c E e le) [3, 4, 5, 6] rfl
          have ha5 := m_roA (wr := Lesson_c E e le) hRA hFc [3, 4, 5, 6] rfl
          refine mVM (ci := 2) (n := 3) (rest := []) (As := [.ref (Lessona_self e), .int 1, .int 0]) CC hKN hGl (c_X2_goWeeks l E (Forecasta_trial a) (Forecast_trial wy_2) e le 1 0 t3 ht3 _) gX1_meets_X2_goWeeks rfl ⟨rfl, rfl⟩ (by decide +kernel) ⟨Nat.le_of_ble_eq_true rfl, Nat.le_of_ble_eq_true rfl⟩ hPc hDc hp4 ha5 hS hFc rfl rfl rfl rfl hl.1 rfl (Nat.le_of_ble_eq_true rfl) ⟨Nat.zero_le _, Nat.zero_le _⟩ dX1_meets_59 (fun H1 locs hP1 hD1 hz1 hk1 hS => ?_)
          have hpn : List.Perm (Forecast_c E a (Forecast_trial_s wy_2 t3)) ((Group_c E (Forecasta_trial a) t3) ++ ((List.take 1 (Forecast_c E a wy_2)) ++ (List.drop 10 (Forecast_c E a wy_2)))) := m_p1 (A := (List.take 1 (Forecast_c E a wy_2))) (m := (Group_c E (Forecasta_trial a) t3)) (C := (List.drop 10 (Forecast_c E a wy_2)))
          obtain ⟨hP, hD⟩ := m_spl hpm hpn hP hD hk1 hFc hP1 hD1
          generalize H1 = H at hP hS ⊢
          refine W.eq (g2 := F0 m 62 ls []) rfl ?_
          refine lv_iinc (v := (y2_2 + 1)) (lv' := [(2, .int (y2_2 + 1)), (0, .ref (Forecasta_self a)), (1, .ref (Rowsa_self a0))]) hx hb dX1_meets_62 hl (k := 2) rfl rfl (by decide) rfl (fun ls hl => ?_)
          refine lv_goto (tgt := 2) hx hb dX1_meets_65 (by decide) ?_
          exact ih2 (y2_2 + 1) (Forecast_trial_s wy_2 t3) H locs ls hF hP hD hS (lv_sub hl [1, 2, 0] rfl)
        clear hjd49
        have hL10 : ∀ (n : Nat) (y3_10 : Int32) (H : Heap) (locs : List Loc) (ls : Array Slot), lp_X1_meets_10 v0 y2_2 wy_2 j49 n y3_10 = some t → va_P E.1 vwCl (Forecast_c E a wy_2) H → va_D A (Forecast_c E a wy_2) → va_S A s.heap H locs → lv_has ls 4 [(0, .ref (Forecasta_self a)), (1, .ref (Rowsa_self a0)), (2, .int y2_2), (3, .int y3_10)] → W p l e_ rmX1_meets s m args below meth c H locs 0 0 Q (F0 m 10 ls []) := by
          intro n
          induction n with
          | zero =>
            intro y3_10 H locs ls hF
            exact nomatch (show (none : Option (Int32 × ForecastV)) = some t from hF)
          | succ n ih10 =>
            intro y3_10 H locs ls hF hP hD hS hl
            have hF : st_X1_meets_10 v0 y2_2 wy_2 j49 (lp_X1_meets_10 v0 y2_2 wy_2 j49 n) y3_10 = some t := hF
            unfold st_X1_meets_10 at hF
            refine lv_iload_n hx hb dX1_meets_10 rfl (lv_at hl 3 rfl) ?_
            refine lv_aload_n hx hb dX1_meets_11 rfl (lv_at hl 1 rfl) ?_
            refine va_getN (D := E.1) (ci := 6) (v := .int (Rows_size v0)) (C := RX6) (T := TX6) (N := 3) hx hb hts k4 hown hK (m_ro hR0 hRA hS) 0 rfl rfl 2 (by decide) k3 (fun _ h9 => h9) rfl dX1_meets_12 ?_
            refine lv_icmp_ge (tgt := 49) hx hb dX1_meets_15 (by decide) (fun c6 => ?_) (fun c6 => ?_)
            · have hF := m_pos c6 hF
              exact hj49 H locs ls hF hP hD hS (lv_sub hl [0, 1, 2] rfl)
            · have hF := m_neg c6 hF
              refine lv_aload_n hx hb dX1_meets_18 rfl (lv_at hl 1 rfl) ?_
              refine va_getN (D := E.1) (ci := 6) (v := .ref (Rowsa_seconds a0)) (C := RX6) (T := TX6) (N := 3) hx hb hts k4 hown hK (m_ro hR0 hRA hS) 0 rfl rfl 1 (by decide) k5 (fun _ h9 => h9) rfl dX1_meets_19 ?_
              refine lv_iload_n hx hb dX1_meets_22 rfl (lv_at hl 3 rfl) ?_
              obtain ⟨h7, hF⟩ := m_chk hF
              refine va_iald (f := (Rows_seconds v0)) hx hb hK (m_ro hR0 hRA hS) 2 1 rfl rfl (mIn_ok h7) dX1_meets_23 ?_
              refine W.eq (g2 := F0 m 24 ls [.int ((Rows_seconds v0) (y3_10).toNatClampNeg)]) rfl ?_
              refine lv_iload_n hx hb dX1_meets_24 rfl (lv_at hl 2 rfl) ?_
              obtain ⟨j43, hjd43, hF⟩ := m_jp hF
              have hj43 : ∀ (H : Heap) (locs : List Loc) (ls : Array Slot), j43 () = some t → va_P E.1 vwCl (Forecast_c E a wy_2) H → va_D A (Forecast_c E a wy_2) → va_S A s.heap H locs → lv_has ls 4 [(0, .ref (Forecasta_self a)), (1, .ref (Rowsa_self a0)), (2, .int y2_2), (3, .int y3_10)] → W p l e_ rmX1_meets s m args below meth c H locs 0 0 Q (F0 m 43 ls []) := by
                intro H locs ls hF hP hD hS hl
                rw [hjd43] at hF
                refine lv_iinc (v := (y3_10 + 1)) (lv' := [(3, .int (y3_10 + 1)), (0, .ref (Forecasta_self a)), (1, .ref (Rowsa_self a0)), (2, .int y2_2)]) hx hb dX1_meets_43 hl (k := 3) rfl rfl (by decide) rfl (fun ls hl => ?_)
                refine lv_goto (tgt := 10) hx hb dX1_meets_46 (by decide) ?_
                exact ih10 (y3_10 + 1) H locs ls hF hP hD hS (lv_sub hl [1, 2, 3, 0] rfl)
              clear hjd43
              refine lv_icmp_ne (tgt := 43) hx hb dX1_meets_25 (by decide) (fun c8 => ?_) (fun c8 => ?_)
              · have hF := m_pos c8 hF
                exact hj43 H locs ls hF hP hD hS (lv_sub hl [0, 1, 2, 3] rfl)
              · have hF := m_neg (fun n9 => n9 c8) hF
                refine lv_aload_n hx hb dX1_meets_28 rfl (lv_at hl 1 rfl) ?_
                refine va_getN (D := E.1) (ci := 6) (v := .ref (Rowsa_firsts a0)) (C := RX6) (T := TX6) (N := 3) hx hb hts k4 hown hK (m_ro hR0 hRA hS) 0 rfl rfl 0 (by decide) k6 (fun _ h9 => h9) rfl dX1_meets_29 ?_
                refine lv_iload_n hx hb dX1_meets_32 rfl (lv_at hl 3 rfl) ?_
                obtain ⟨h9, hF⟩ := m_chk hF
                refine va_iald (f := (Rows_firsts v0)) hx hb hK (m_ro hR0 hRA hS) 1 1 rfl rfl (mIn_ok h9) dX1_meets_33 ?_
                refine W.eq (g2 := F0 m 34 ls [.int ((Rows_firsts v0) (y3_10).toNatClampNeg)]) rfl ?_
                refine lv_aload_n hx hb dX1_meets_34 rfl (lv_at hl 0 rfl) ?_
                obtain ⟨t10, ht10, hF⟩ := m_bnd hF
                refine mVP (ci := 1) (n := 0) (rest := [.int ((Rows_firsts v0) (y3_10).toNatClampNeg)]) (As := []) CC hKN hGl hS (c_X1_workMore l E a wy_2 t10 ht10) gX1_meets_X1_workMore rfl ⟨rfl, rfl⟩ (by decide +kernel) ⟨Nat.le_of_ble_eq_true rfl, Nat.le_of_ble_eq_true rfl⟩ hP rfl rfl rfl rfl hl.1 rfl (Nat.le_of_ble_eq_true rfl) ⟨Nat.zero_le _, Nat.zero_le _⟩ dX1_meets_35 ?_
                refine W.eq (g2 := F0 m 38 ls [.int t10, .int ((Rows_firsts v0) (y3_10).toNatClampNeg)]) rfl ?_
                refine lv_icmp_eq (tgt := 43) hx hb dX1_meets_38 (by decide) (fun c11 => ?_) (fun c11 => ?_)
                · have hF := m_pos c11 hF
                  exact hj43 H locs ls hF hP hD hS (lv_sub hl [0, 1, 2, 3] rfl)
                · have hF := m_neg c11 hF
                  refine lv_iconst (v := 0) hx hb dX1_meets_41 (by decide) ?_
                  have hF := Option.some.inj hF
                  subst hF
                  rw [hQ]
                  exact W.zret hx hb hr rfl (fun t ht _ => ⟨⟨rfl, by rw [ht]; exact hP, hD⟩, hS.F ht⟩) hS.2.2 dX1_meets_42
        exact hL10 m_N 0 H locs ls hF hP hD hS (lv_sub hl [1, 2, 3, 0] rfl)
  exact hL2 m_N 0 v H locs ls hF hP hD hS (lv_sub hl [1, 2, 0] rfl)

abbrev rmX1_follow : Room := { frames := 5, cells := 0, slots := 0, locals := 126 }
set_option maxRecDepth 100000 in
set_option maxHeartbeats 400000 in
theorem c_X1_follow (l : Launch) (E : mE) (a : ForecastA) (v : ForecastV) (a0 : RowsA) (v0 : RowsV) (e : LessonA) (le : LessonV) (t : ForecastV) (hF : fn_X1_follow v v0 le (Lessona_self e) = some t) (sz : Nat) : Met l yX1_follow wsX1_follow rmX1_follow (mPm E [.ref (Forecasta_self a), .ref (Rowsa_self a0)] sz ((Forecast_c E a v)) (((Rows_c E a0 v0) ++ (Lesson_c E e le)))) (mSm E (none) ((Forecast_c E a t)) (va_A ((Forecast_c E a v)) sz)) 0 0 (va_A ((Forecast_c E a v)) sz) := by
  refine mOfM (cc := cX1_follow) (maxL := 5) (ret := none) (by decide) rfl (Nat.le_of_ble_eq_true rfl) ?_
  intro p e_ s m args below meth c Q A hQ CC hr hlocks hin hA hP hD hKN hGl hR0 hRA ls hl
  have hS : va_S A s.heap s.heap [] := va_S.rf
  have hK := hKN.1
  have hx := CC.1
  have hb := CC.2.1
  have hml := CC.2.2.1
  have hown : s.vm.findClass RX1 = some m.cls := CC.2.2.2.1
  have hts := CC.2.2.2.2
  have hl : lv_has ls 5 [(0, .ref (Forecasta_self a)), (1, .ref (Rowsa_self a0))] := hl
  have k0 := (va_Nw.use rfl (hKN.2.1 ("OneDidAll$Forecast", 70, "OneDidAll$Rows", "size", "I", "OneDidAll") (by decide +kernel)) : (Cond.fieldLinkNest "OneDidAll$Forecast" 70 "OneDidAll$Rows" "size" "I" "OneDidAll").before args s = true)
  have k1 := (show ∀ w ∈ u_ws RX6 TX6 3, w ∈ wsX1_follow by decide +kernel)
  have k2 := (va_Nw.use rfl (hKN.2.1 ("OneDidAll$Forecast", 73, "OneDidAll$Rows", "seconds", "[I", "OneDidAll") (by decide +kernel)) : (Cond.fieldLinkNest "OneDidAll$Forecast" 73 "OneDidAll$Rows" "seconds" "[I" "OneDidAll").before args s = true)
  have k3 := (va_Nw.use rfl (hKN.2.1 ("OneDidAll$Forecast", 76, "OneDidAll$Rows", "firsts", "[I", "OneDidAll") (by decide +kernel)) : (Cond.fieldLinkNest "OneDidAll$Forecast" 76 "OneDidAll$Rows" "firsts" "[I" "OneDidAll").before args s = true)
  have k4 := hts (.fieldLink RX1 12 "OneDidAll$Forecast" "trial" "LOneDidAll$Group;") (by decide +kernel)
  have k5 := (show ∀ w ∈ u_ws RX1 TX1 3, w ∈ wsX1_follow by decide +kernel)
  have k6 := (va_Nw.use rfl (hKN.2.1 ("OneDidAll$Forecast", 64, "OneDidAll$Group", "size", "I", "OneDidAll") (by decide +kernel)) : (Cond.fieldLinkNest "OneDidAll$Forecast" 64 "OneDidAll$Group" "size" "I" "OneDidAll").before args s = true)
  have k7 := (show ∀ w ∈ u_ws RX2 TX2 11, w ∈ wsX1_follow by decide +kernel)
  have k8 := (va_Nw.use rfl (hKN.2.1 ("OneDidAll$Forecast", 44, "OneDidAll$Group", "outs", "[Z", "OneDidAll") (by decide +kernel)) : (Cond.fieldLinkNest "OneDidAll$Forecast" 44 "OneDidAll$Group" "outs" "[Z" "OneDidAll").before args s = true)
  have k9 := (va_Nw.use rfl (hKN.2.1 ("OneDidAll$Forecast", 79, "OneDidAll$Group", "wills", "[I", "OneDidAll") (by decide +kernel)) : (Cond.fieldLinkNest "OneDidAll$Forecast" 79 "OneDidAll$Group" "wills" "[I" "OneDidAll").before args s = true)
  have k10 := hts (.fieldLink RX1 24 "OneDidAll$Forecast" "lesson" "LOneDidAll$Lesson;") (by decide +kernel)
  have hP : va_P E.1 vwCl (Forecast_c E a v) s.heap := hP
  obtain ⟨H, hH⟩ : ∃ H, H = s.heap := ⟨_, rfl⟩
  obtain ⟨locs, hlc⟩ : ∃ z : List Loc, z = [] := ⟨_, rfl⟩
  rw [← hH] at hP
  rw [← hlc] at hS
  have hS : va_S A s.heap H locs := by rw [hH]; exact hS
  rw [← hH, ← hlc]
  unfold fn_X1_follow at hF
  refine lv_iconst (v := 0) hx hb dX1_follow_0 (by decide) ?_
  refine lv_istore_n (lv' := [(2, .int 0), (0, .ref (Forecasta_self a)), (1, .ref (Rowsa_self a0))]) hx hb dX1_follow_1 rfl hl (by decide) rfl (fun ls hl => ?_)
  have hL2 : ∀ (n : Nat) (y2_2 : Int32) (wy_2 : ForecastV) (H : Heap) (locs : List Loc) (ls : Array Slot), lp_X1_follow_2 v0 le (Lessona_self e) n y2_2 wy_2 = some t → va_P E.1 vwCl (Forecast_c E a wy_2) H → va_D A (Forecast_c E a wy_2) → va_S A s.heap H locs → lv_has ls 5 [(0, .ref (Forecasta_self a)), (1, .ref (Rowsa_self a0)), (2, .int y2_2)] → W p l e_ rmX1_follow s m args below meth c H locs 0 0 Q (F0 m 2 ls []) := by
    intro n
    induction n with
    | zero =>
      intro y2_2 wy_2 H locs ls hF
      exact nomatch (show (none : Option ForecastV) = some t from hF)
    | succ n ih2 =>
      intro y2_2 wy_2 H locs ls hF hP hD hS hl
      have hF : st_X1_follow_2 v0 le (Lessona_self e) (lp_X1_follow_2 v0 le (Lessona_self e) n) y2_2 wy_2 = some t := hF
      unfold st_X1_follow_2 at hF
      refine lv_iload_n hx hb dX1_follow_2 rfl (lv_at hl 2 rfl) ?_
      refine lv_aload_n hx hb dX1_follow_3 rfl (lv_at hl 1 rfl) ?_
      refine va_getN (D := E.1) (ci := 6) (v := .int (Rows_size v0)) (C := RX6) (T := TX6) (N := 3) hx hb hts k1 hown hK (m_ro hR0 hRA hS) 0 rfl rfl 2 (by decide) k0 (fun _ h9 => h9) rfl dX1_follow_4 ?_
      refine lv_icmp_ge (tgt := 110) hx hb dX1_follow_7 (by decide) (fun c1 => ?_) (fun c1 => ?_)
      · have hF := m_pos c1 hF
        have hF := Option.some.inj hF
        subst hF
        rw [hQ]
        exact W.vret hx hb hr (fun t ht _ => ⟨⟨rfl, by rw [ht]; exact hP, hD⟩, hS.F ht⟩) hS.2.2 dX1_follow_110
      · have hF := m_neg c1 hF
        refine lv_aload_n hx hb dX1_follow_10 rfl (lv_at hl 1 rfl) ?_
        refine va_getN (D := E.1) (ci := 6) (v := .ref (Rowsa_seconds a0)) (C := RX6) (T := TX6) (N := 3) hx hb hts k1 hown hK (m_ro hR0 hRA hS) 0 rfl rfl 1 (by decide) k2 (fun _ h9 => h9) rfl dX1_follow_11 ?_
        refine lv_iload_n hx hb dX1_follow_14 rfl (lv_at hl 2 rfl) ?_
        obtain ⟨h2, hF⟩ := m_chk hF
        refine va_iald (f := (Rows_seconds v0)) hx hb hK (m_ro hR0 hRA hS) 2 1 rfl rfl (mIn_ok h2) dX1_follow_15 ?_
        refine W.eq (g2 := F0 m 16 ls [.int ((Rows_seconds v0) (y2_2).toNatClampNeg)]) rfl ?_
        refine lv_istore_n (lv' := [(3, .int ((Rows_seconds v0) (y2_2).toNatClampNeg)), (0, .ref (Forecasta_self a)), (1, .ref (Rowsa_self a0)), (2, .int y2_2)]) hx hb dX1_follow_16 rfl hl (by decide) rfl (fun ls hl => ?_)
        refine lv_aload_n hx hb dX1_follow_17 rfl (lv_at hl 2 rfl) ?_
        refine va_getN (D := E.1) (ci := 6) (v := .ref (Rowsa_firsts a0)) (C := RX6) (T := TX6) (N := 3) hx hb hts k1 hown hK (m_ro hR0 hRA hS) 0 rfl rfl 0 (by decide) k3 (fun _ h9 => h9) rfl dX1_follow_18 ?_
        refine lv_iload_n hx hb dX1_follow_21 rfl (lv_at hl 3 rfl) ?_
        obtain ⟨h3, hF⟩ := m_chk hF
        refine va_iald (f := (Rows_firsts v0)) hx hb hK (m_ro hR0 hRA hS) 1 1 rfl rfl (mIn_ok h3) dX1_follow_22 ?_
        refine W.eq (g2 := F0 m 23 ls [.int ((Rows_firsts v0) (y2_2).toNatClampNeg)]) rfl ?_
        refine lv_istore (lv' := [(4, .int ((Rows_firsts v0) (y2_2).toNatClampNeg)), (3, .int ((Rows_seconds v0) (y2_2).toNatClampNeg)), (0, .ref (Forecasta_self a)), (1, .ref (Rowsa_self a0)), (2, .int y2_2)]) hx hb dX1_follow_23 hl (by decide) rfl (fun ls hl => ?_)
        refine lv_iload hx hb dX1_follow_25 (lv_at hl 0 rfl) ?_
        obtain ⟨j104, hjd104, hF⟩ := m_jp hF
        have hj104 : ∀ (wx_104 : ForecastV) (H : Heap) (locs : List Loc) (ls : Array Slot), j104 wx_104 = some t → va_P E.1 vwCl (Forecast_c E a wx_104) H → va_D A (Forecast_c E a wx_104) → va_S A s.heap H locs → lv_has ls 5 [(0, .ref (Forecasta_self a)), (1, .ref (Rowsa_self a0)), (2, .int y2_2)] → W p l e_ rmX1_follow s m args below meth c H locs 0 0 Q (F0 m 104 ls []) := by
          intro wx_104 H locs ls hF hP hD hS hl
          rw [hjd104] at hF
          refine lv_iinc (v := (y2_2 + 1)) (lv' := [(2, .int (y2_2 + 1)), (0, .ref (Forecasta_self a)), (1, .ref (Rowsa_self a0))]) hx hb dX1_follow_104 hl (k := 2) rfl rfl (by decide) rfl (fun ls hl => ?_)
          refine lv_goto (tgt := 2) hx hb dX1_follow_107 (by decide) ?_
          exact ih2 (y2_2 + 1) wx_104 H locs ls hF hP hD hS (lv_sub hl [1, 2, 0] rfl)
        clear hjd104
        refine lv_if_ne (tgt := 46) hx hb dX1_follow_27 (by decide) (fun c4 => ?_) (fun c4 => ?_)
        · have hF := m_pos c4 hF
          refine lv_iload_n hx hb dX1_follow_46 rfl (lv_at hl 1 rfl) ?_
          refine lv_if_lt (tgt := 104) hx hb dX1_follow_47 (by decide) (fun c5 => ?_) (fun c5 => ?_)
          · have hF := m_pos c5 hF
            exact hj104 wy_2 H locs ls hF hP hD hS (lv_sub hl [2, 3, 4] rfl)
          · have hF := m_neg c5 hF
            refine lv_iload_n hx hb dX1_follow_50 rfl (lv_at hl 1 rfl) ?_
            refine lv_aload_n hx hb dX1_follow_51 rfl (lv_at hl 2 rfl) ?_
            refine va_get (D := E.1) (ci := 1) (v := .ref (Groupa_self (Forecasta_trial a))) (C := RX1) (T := TX1) (N := 3) hx hb hts k5 hown hK hP 0 rfl rfl 0 (by decide) k4 (fun _ h9 => h9) rfl dX1_follow_52 ?_
            refine va_getN (D := E.1) (ci := 2) (v := .int (Group_size (Forecast_trial wy_2))) (C := RX2) (T := TX2) (N := 11) hx hb hts k7 hown hK hP 1 rfl rfl 0 (by decide) k6 (fun _ h9 => h9) rfl dX1_follow_55 ?_
            refine lv_icmp_lt (tgt := 64) hx hb dX1_follow_58 (by decide) (fun c6 => ?_) (fun c6 => ?_)
            · have hF := m_pos c6 hF
              refine lv_iload hx hb dX1_follow_64 (lv_at hl 0 rfl) ?_
              refine lv_iconst (v := 3) hx hb dX1_follow_66 (by decide) ?_
              refine lv_icmp_ne (tgt := 84) hx hb dX1_follow_67 (by decide) (fun c7 => ?_) (fun c7 => ?_)
              · have hF := m_pos c7 hF
                refine lv_aload_n hx hb dX1_follow_84 rfl (lv_at hl 2 rfl) ?_
                refine va_get (D := E.1) (ci := 1) (v := .ref (Groupa_self (Forecasta_trial a))) (C := RX1) (T := TX1) (N := 3) hx hb hts k5 hown hK hP 0 rfl rfl 0 (by decide) k4 (fun _ h9 => h9) rfl dX1_follow_85 ?_
                refine va_getN (D := E.1) (ci := 2) (v := .ref (Groupa_outs (Forecasta_trial a))) (C := RX2) (T := TX2) (N := 11) hx hb hts k7 hown hK hP 1 rfl rfl 8 (by decide) k8 (fun _ h9 => h9) rfl dX1_follow_88 ?_
                refine lv_iload_n hx hb dX1_follow_91 rfl (lv_at hl 1 rfl) ?_
                refine lv_iload hx hb dX1_follow_92 (lv_at hl 0 rfl) ?_
                refine lv_iconst (v := 1) hx hb dX1_follow_94 (by decide) ?_
                obtain ⟨j103, hjd103, hF⟩ := m_jp hF
                have hj103 : ∀ (z0_103 : Int32) (H : Heap) (locs : List Loc) (ls : Array Slot), j103 z0_103 = some t → va_P E.1 vwCl (Forecast_c E a wy_2) H → va_D A (Forecast_c E a wy_2) → va_S A s.heap H locs → lv_has ls 5 [(0, .ref (Forecasta_self a)), (1, .ref (Rowsa_self a0)), (2, .int y2_2)] → W p l e_ rmX1_follow s m args below meth c H locs 0 0 Q (F0 m 103 ls [.int z0_103, .int ((Rows_seconds v0) (y2_2).toNatClampNeg), .ref (Groupa_outs (Forecasta_trial a))]) := by
                  intro z0_103 H locs ls hF hP hD hS hl
                  rw [hjd103] at hF
                  obtain ⟨h8, hF⟩ := m_chk hF
                  refine va_zast (f := (Group_outs (Forecast_trial wy_2))) hx hb hK hP hD hS 7 2 rfl rfl (mIn_ok h8) dX1_follow_103 (fun H locs hP hD hS => ?_)
                  have hP : va_P E.1 vwCl (Forecast_c E a (Forecast_trial_s wy_2 (Group_outs_s (Forecast_trial wy_2) (upd (Group_outs (Forecast_trial wy_2)) (((Rows_seconds v0) (y2_2).toNatClampNeg)).toNatClampNeg (vp_nar .boolean z0_103))))) H := hP
                  have hD : va_D A (Forecast_c E a (Forecast_trial_s wy_2 (Group_outs_s (Forecast_trial wy_2) (upd (Group_outs (Forecast_trial wy_2)) (((Rows_seconds v0) (y2_2).toNatClampNeg)).toNatClampNeg (vp_nar .boolean z0_103))))) := hD
                  exact hj104 (Forecast_trial_s wy_2 (Group_outs_s (Forecast_trial wy_2) (upd (Group_outs (Forecast_trial wy_2)) (((Rows_seconds v0) (y2_2).toNatClampNeg)).toNatClampNeg (vp_nar .boolean z0_103)))) H locs ls hF hP hD hS (lv_sub hl [0, 1, 2] rfl)
                clear hjd103
                refine lv_icmp_ne (tgt := 102) hx hb dX1_follow_95 (by decide) (fun c9 => ?_) (fun c9 => ?_)
                · have hF := m_pos c9 hF
                  refine lv_iconst (v := 0) hx hb dX1_follow_102 (by decide) ?_
                  exact hj103 0 H locs ls hF hP hD hS (lv_sub hl [2, 3, 4] rfl)
                · have hF := m_neg (fun n9 => n9 c9) hF
                  refine lv_iconst (v := 1) hx hb dX1_follow_98 (by decide) ?_
                  refine lv_goto (tgt := 103) hx hb dX1_follow_99 (by decide) ?_
                  exact hj103 1 H locs ls hF hP hD hS (lv_sub hl [2, 3, 4] rfl)
              · have hF := m_neg (fun n9 => n9 c7) hF
                refine lv_aload_n hx hb dX1_follow_70 rfl (lv_at hl 2 rfl) ?_
                refine va_get (D := E.1) (ci := 1) (v := .ref (Groupa_self (Forecasta_trial a))) (C := RX1) (T := TX1) (N := 3) hx hb hts k5 hown hK hP 0 rfl rfl 0 (by decide) k4 (fun _ h9 => h9) rfl dX1_follow_71 ?_
                refine va_getN (D := E.1) (ci := 2) (v := .ref (Groupa_wills (Forecasta_trial a))) (C := RX2) (T := TX2) (N := 11) hx hb hts k7 hown hK hP 1 rfl rfl 6 (by decide) k9 (fun _ h9 => h9) rfl dX1_follow_74 ?_
                refine lv_iload_n hx hb dX1_follow_77 rfl (lv_at hl 1 rfl) ?_
                refine lv_bipush (v := 99) hx hb dX1_follow_78 (by decide) ?_
                obtain ⟨h10, hF⟩ := m_chk hF
                refine va_iast (f := (Group_wills (Forecast_trial wy_2))) hx hb hK hP hD hS 5 1 rfl rfl (mIn_ok h10) dX1_follow_80 (fun H locs hP hD hS => ?_)
                have hP : va_P E.1 vwCl (Forecast_c E a (Forecast_trial_s wy_2 (Group_wills_s (Forecast_trial wy_2) (upd (Group_wills (Forecast_trial wy_2)) (((Rows_seconds v0) (y2_2).toNatClampNeg)).toNatClampNeg 99)))) H := hP
                have hD : va_D A (Forecast_c E a (Forecast_trial_s wy_2 (Group_wills_s (Forecast_trial wy_2) (upd (Group_wills (Forecast_trial wy_2)) (((Rows_seconds v0) (y2_2).toNatClampNeg)).toNatClampNeg 99)))) := hD
                refine lv_goto (tgt := 104) hx hb dX1_follow_81 (by decide) ?_
                exact hj104 (Forecast_trial_s wy_2 (Group_wills_s (Forecast_trial wy_2) (upd (Group_wills (Forecast_trial wy_2)) (((Rows_seconds v0) (y2_2).toNatClampNeg)).toNatClampNeg 99))) H locs ls hF hP hD hS (lv_sub hl [2, 3, 4] rfl)
            · have hF := m_neg c6 hF
              refine lv_goto (tgt := 104) hx hb dX1_follow_61 (by decide) ?_
              exact hj104 wy_2 H locs ls hF hP hD hS (lv_sub hl [2, 3, 4] rfl)
        · have hF := m_neg (fun n9 => n9 c4) hF
          refine lv_aload_n hx hb dX1_follow_30 rfl (lv_at hl 2 rfl) ?_
          refine va_get (D := E.1) (ci := 1) (v := .ref (Groupa_self (Forecasta_trial a))) (C := RX1) (T := TX1) (N := 3) hx hb hts k5 hown hK hP 0 rfl rfl 0 (by decide) k4 (fun _ h9 => h9) rfl dX1_follow_31 ?_
          refine lv_aload_n hx hb dX1_follow_34 rfl (lv_at hl 2 rfl) ?_
          refine va_get (D := E.1) (ci := 1) (v := .ref (Forecast_lesson wy_2)) (C := RX1) (T := TX1) (N := 3) hx hb hts k5 hown hK hP 0 rfl rfl 2 (by decide) k10 (fun _ h9 => h9) rfl dX1_follow_35 ?_
          refine lv_iconst (v := 1) hx hb dX1_follow_38 (by decide) ?_
          refine lv_iconst (v := 0) hx hb dX1_follow_39 (by decide) ?_
          obtain ⟨h11, hF⟩ := m_chk hF
          refine W.eq (g2 := F0 m 40 ls [.int 0, .int 1, .ref (Lessona_self e), .ref (Groupa_self (Forecasta_trial a))]) (by rw [h11]) ?_
          obtain ⟨t12, ht12, hF⟩ := m_bnd hF
          have hpm : List.Perm (Forecast_c E a wy_2) ((Group_c E (Forecasta_trial a) (Forecast_trial wy_2)) ++ ((List.take 1 (Forecast_c E a wy_2)) ++ (List.drop 10 (Forecast_c E a wy_2)))) := m_p1 (A := (List.take 1 (Forecast_c E a wy_2))) (m := (Group_c E (Forecasta_trial a) (Forecast_trial wy_2))) (C := (List.drop 10 (Forecast_c E a wy_2)))
          obtain ⟨hPc, hDc, hFc⟩ := m_pre hpm hP hD hS hA
          have hp13 := (m_ro hR0 hRA hS).sub (ws' := Lesson_c E e le) [3, 4, 5, 6] rfl
          have ha14 := m_roA (wr := Lesson_c E e le) hRA hFc [3, 4, 5, 6] rfl
          refine mVM (ci := 2) (n := 3) (rest := []) (As := [.ref (Lessona_self e), .int 1, .int 0]) CC hKN hGl (c_X2_goWeeks l E (Forecasta_trial a) (Forecast_trial wy_2) e le 1 0 t12 ht12 _) gX1_follow_X2_goWeeks rfl ⟨rfl, rfl⟩ (by decide +kernel) ⟨Nat.le_of_ble_eq_true rfl, Nat.le_of_ble_eq_true rfl⟩ hPc hDc hp13 ha14 hS hFc rfl rfl rfl rfl hl.1 rfl (Nat.le_of_ble_eq_true rfl) ⟨Nat.zero_le _, Nat.zero_le _⟩ dX1_follow_40 (fun H1 locs hP1 hD1 hz1 hk1 hS => ?_)
          have hpn : List.Perm (Forecast_c E a (Forecast_trial_s wy_2 t12)) ((Group_c E (Forecasta_trial a) t12) ++ ((List.take 1 (Forecast_c E a wy_2)) ++ (List.drop 10 (Forecast_c E a wy_2)))) := m_p1 (A := (List.take 1 (Forecast_c E a wy_2))) (m := (Group_c E (Forecasta_trial a) t12)) (C := (List.drop 10 (Forecast_c E a wy_2)))
          obtain ⟨hP, hD⟩ := m_spl hpm hpn hP hD hk1 hFc hP1 hD1
          generalize H1 = H at hP hS ⊢
          refine W.eq (g2 := F0 m 43 ls []) rfl ?_
          refine lv_goto (tgt := 104) hx hb dX1_follow_43 (by decide) ?_
          exact hj104 (Forecast_trial_s wy_2 t12) H locs ls hF hP hD hS (lv_sub hl [2, 3, 4] rfl)
  exact hL2 m_N 0 v H locs ls hF hP hD hS (lv_sub hl [1, 2, 0] rfl)

abbrev rmX4_readLesson : Room := { frames := 32, cells := 0, slots := 0, locals := 731 }
set_option maxRecDepth 100000 in
set_option maxHeartbeats 400000 in
theorem c_X4_readLesson (l : Launch) (E : mE) (a : ReaderA) (v : ReaderV) (t : (Int32 × ReaderV)) (hF : fn_X4_readLesson v = some t) (sz : Nat) : Met l yX4_readLesson wsX4_readLesson rmX4_readLesson (mPm E [.ref (Readera_self a)] sz ((Reader_c E a v)) (([] : va_W))) (mSm E (some (.int t.1)) ((Reader_c E a t.2)) (va_A ((Reader_c E a v)) sz)) 0 0 (va_A ((Reader_c E a v)) sz) := by
  refine mOfM (cc := cX4_readLesson) (maxL := 2) (ret := (some .boolean)) (by decide) rfl (Nat.le_of_ble_eq_true rfl) ?_
  intro p e_ s m args below meth c Q A hQ CC hr hlocks hin hA hP hD hKN hGl hR0 hRA ls hl
  have hS : va_S A s.heap s.heap [] := va_S.rf
  have hK := hKN.1
  have hx := CC.1
  have hb := CC.2.1
  have hml := CC.2.2.1
  have hown : s.vm.findClass RX4 = some m.cls := CC.2.2.2.1
  have hts := CC.2.2.2.2
  have hl : lv_has ls 2 [(0, .ref (Readera_self a))] := hl
  have k0 := hts (.fieldLink RX4 9 "OneDidAll$Reader" "place" "I") (by decide +kernel)
  have k1 := (show ∀ w ∈ u_ws RX4 TX4 5, w ∈ wsX4_readLesson by decide +kernel)
  have k2 := hts (.fieldLink RX4 35 "OneDidAll$Reader" "size" "I") (by decide +kernel)
  have hP : va_P E.1 vwCl (Reader_c E a v) s.heap := hP
  obtain ⟨H, hH⟩ : ∃ H, H = s.heap := ⟨_, rfl⟩
  obtain ⟨locs, hlc⟩ : ∃ z : List Loc, z = [] := ⟨_, rfl⟩
  rw [← hH] at hP
  rw [← hlc] at hS
  have hS : va_S A s.heap H locs := by rw [hH]; exact hS
  rw [← hH, ← hlc]
  unfold fn_X4_readLesson at hF
  refine lv_iconst (v := 0) hx hb dX4_readLesson_0 (by decide) ?_
  refine lv_istore_n (lv' := [(1, .int 0), (0, .ref (Readera_self a))]) hx hb dX4_readLesson_1 rfl hl (by decide) rfl (fun ls hl => ?_)
  obtain ⟨j39, hjd39, hF⟩ := m_jp hF
  have hj39 : ∀ (wx_39 : ReaderV) (H : Heap) (locs : List Loc) (ls : Array Slot), j39 wx_39 = some t → va_P E.1 vwCl (Reader_c E a wx_39) H → va_D A (Reader_c E a wx_39) → va_S A s.heap H locs → lv_has ls 2 [(0, .ref (Readera_self a))] → W p l e_ rmX4_readLesson s m args below meth c H locs 0 0 Q (F0 m 39 ls []) := by
    intro wx_39 H locs ls hF hP hD hS hl
    rw [hjd39] at hF
    refine lv_aload_n hx hb dX4_readLesson_39 rfl (lv_at hl 0 rfl) ?_
    refine va_get (D := E.1) (ci := 4) (v := .int (Reader_place wx_39)) (C := RX4) (T := TX4) (N := 5) hx hb hts k1 hown hK hP 0 rfl rfl 2 (by decide) k0 (fun _ h9 => h9) rfl dX4_readLesson_40 ?_
    refine lv_aload_n hx hb dX4_readLesson_43 rfl (lv_at hl 0 rfl) ?_
    refine va_get (D := E.1) (ci := 4) (v := .int (Reader_size wx_39)) (C := RX4) (T := TX4) (N := 5) hx hb hts k1 hown hK hP 0 rfl rfl 1 (by decide) k2 (fun _ h9 => h9) rfl dX4_readLesson_44 ?_
    refine lv_icmp_ne (tgt := 54) hx hb dX4_readLesson_47 (by decide) (fun c1 => ?_) (fun c1 => ?_)
    · have hF := m_pos c1 hF
      refine lv_iconst (v := 0) hx hb dX4_readLesson_54 (by decide) ?_
      have hF := Option.some.inj hF
      subst hF
      rw [hQ]
      exact W.zret hx hb hr rfl (fun t ht _ => ⟨⟨rfl, by rw [ht]; exact hP, hD⟩, hS.F ht⟩) hS.2.2 dX4_readLesson_55
    · have hF := m_neg (fun n9 => n9 c1) hF
      refine lv_iconst (v := 1) hx hb dX4_readLesson_50 (by decide) ?_
      refine lv_goto (tgt := 55) hx hb dX4_readLesson_51 (by decide) ?_
      have hF := Option.some.inj hF
      subst hF
      rw [hQ]
      exact W.zret hx hb hr rfl (fun t ht _ => ⟨⟨rfl, by rw [ht]; exact hP, hD⟩, hS.F ht⟩) hS.2.2 dX4_readLesson_55
  clear hjd39
  obtain ⟨j21, hjd21, hF⟩ := m_jp hF
  have hj21 : ∀ (wx_21 : ReaderV) (H : Heap) (locs : List Loc) (ls : Array Slot), j21 wx_21 = some t → va_P E.1 vwCl (Reader_c E a wx_21) H → va_D A (Reader_c E a wx_21) → va_S A s.heap H locs → lv_has ls 2 [(0, .ref (Readera_self a))] → W p l e_ rmX4_readLesson s m args below meth c H locs 0 0 Q (F0 m 21 ls []) := by
    intro wx_21 H locs ls hF hP hD hS hl
    rw [hjd21] at hF
    refine lv_goto (tgt := 39) hx hb dX4_readLesson_21 (by decide) ?_
    exact hj39 wx_21 H locs ls hF hP hD hS (lv_sub hl [0] rfl)
  clear hjd21
  have hL2 : ∀ (n : Nat) (y1_2 : Int32) (wy_2 : ReaderV) (H : Heap) (locs : List Loc) (ls : Array Slot), lp_X4_readLesson_2 j39 j21 n y1_2 wy_2 = some t → va_P E.1 vwCl (Reader_c E a wy_2) H → va_D A (Reader_c E a wy_2) → va_S A s.heap H locs → lv_has ls 2 [(0, .ref (Readera_self a)), (1, .int y1_2)] → W p l e_ rmX4_readLesson s m args below meth c H locs 0 0 Q (F0 m 2 ls []) := by
    intro n
    induction n with
    | zero =>
      intro y1_2 wy_2 H locs ls hF
      exact nomatch (show (none : Option (Int32 × ReaderV)) = some t from hF)
    | succ n ih2 =>
      intro y1_2 wy_2 H locs ls hF hP hD hS hl
      have hF : st_X4_readLesson_2 j39 j21 (lp_X4_readLesson_2 j39 j21 n) y1_2 wy_2 = some t := hF
      unfold st_X4_readLesson_2 at hF
      refine lv_iload_n hx hb dX4_readLesson_2 rfl (lv_at hl 1 rfl) ?_
      refine lv_bipush (v := 10) hx hb dX4_readLesson_3 (by decide) ?_
      refine lv_icmp_ge (tgt := 39) hx hb dX4_readLesson_5 (by decide) (fun c2 => ?_) (fun c2 => ?_)
      · have hF := m_pos c2 hF
        exact hj39 wy_2 H locs ls hF hP hD hS (lv_sub hl [0] rfl)
      · have hF := m_neg c2 hF
        refine lv_iload_n hx hb dX4_readLesson_8 rfl (lv_at hl 1 rfl) ?_
        obtain ⟨j24, hjd24, hF⟩ := m_jp hF
        have hj24 : ∀ (wx_24 : ReaderV) (H : Heap) (locs : List Loc) (ls : Array Slot), j24 wx_24 = some t → va_P E.1 vwCl (Reader_c E a wx_24) H → va_D A (Reader_c E a wx_24) → va_S A s.heap H locs → lv_has ls 2 [(0, .ref (Readera_self a)), (1, .int y1_2)] → W p l e_ rmX4_readLesson s m args below meth c H locs 0 0 Q (F0 m 24 ls []) := by
          intro wx_24 H locs ls hF hP hD hS hl
          rw [hjd24] at hF
          refine lv_aload_n hx hb dX4_readLesson_24 rfl (lv_at hl 0 rfl) ?_
          obtain ⟨t3, ht3, hF⟩ := m_bnd hF
          have hPc := hP
          have hDc := hD
          have hFc := va_free (wc := (Reader_c E a wx_24)) hD hS hA [0, 1, 2, 3, 4, 5] rfl
          refine mVM (ci := 4) (n := 0) (rest := []) (As := []) CC hKN hGl (c_X4_readClause l E a wx_24 t3 ht3 _) gX4_readLesson_X4_readClause rfl ⟨rfl, rfl⟩ (by decide +kernel) ⟨Nat.le_of_ble_eq_true rfl, Nat.le_of_ble_eq_true rfl⟩ hPc hDc m_nil m_nilA hS hFc rfl rfl rfl rfl hl.1 rfl (Nat.le_of_ble_eq_true rfl) ⟨Nat.zero_le _, Nat.zero_le _⟩ dX4_readLesson_25 (fun H1 locs hP1 hD1 hz1 hk1 hS => ?_)
          have hP : va_P E.1 vwCl (Reader_c E a t3.2) H1 := hP1
          have hD : va_D A (Reader_c E a t3.2) := m_back hD1 hFc
          generalize H1 = H at hP hS ⊢
          refine W.eq (g2 := F0 m 28 ls [.int t3.1]) rfl ?_
          refine lv_if_ne (tgt := 33) hx hb dX4_readLesson_28 (by decide) (fun c4 => ?_) (fun c4 => ?_)
          · have hF := m_pos c4 hF
            refine lv_iinc (v := (y1_2 + 1)) (lv' := [(1, .int (y1_2 + 1)), (0, .ref (Readera_self a))]) hx hb dX4_readLesson_33 hl (k := 1) rfl rfl (by decide) rfl (fun ls hl => ?_)
            refine lv_goto (tgt := 2) hx hb dX4_readLesson_36 (by decide) ?_
            exact ih2 (y1_2 + 1) t3.2 H locs ls hF hP hD hS (lv_sub hl [1, 0] rfl)
          · have hF := m_neg (fun n9 => n9 c4) hF
            refine lv_iconst (v := 0) hx hb dX4_readLesson_31 (by decide) ?_
            have hF := Option.some.inj hF
            subst hF
            rw [hQ]
            exact W.zret hx hb hr rfl (fun t ht _ => ⟨⟨rfl, by rw [ht]; exact hP, hD⟩, hS.F ht⟩) hS.2.2 dX4_readLesson_32
        clear hjd24
        refine lv_if_le (tgt := 24) hx hb dX4_readLesson_9 (by decide) (fun c5 => ?_) (fun c5 => ?_)
        · have hF := m_pos c5 hF
          exact hj24 wy_2 H locs ls hF hP hD hS (lv_sub hl [0, 1] rfl)
        · have hF := m_neg c5 hF
          refine lv_aload_n hx hb dX4_readLesson_12 rfl (lv_at hl 0 rfl) ?_
          refine lv_bipush (v := 59) hx hb dX4_readLesson_13 (by decide) ?_
          obtain ⟨t6, ht6, hF⟩ := m_bnd hF
          have hPc := hP
          have hDc := hD
          have hFc := va_free (wc := (Reader_c E a wy_2)) hD hS hA [0, 1, 2, 3, 4, 5] rfl
          refine mVM (ci := 4) (n := 1) (rest := []) (As := [.int 59]) CC hKN hGl (c_X4_take l E a wy_2 59 t6 ht6 _) gX4_readLesson_X4_take rfl ⟨rfl, rfl⟩ (by decide +kernel) ⟨Nat.le_of_ble_eq_true rfl, Nat.le_of_ble_eq_true rfl⟩ hPc hDc m_nil m_nilA hS hFc rfl rfl rfl rfl hl.1 rfl (Nat.le_of_ble_eq_true rfl) ⟨Nat.zero_le _, Nat.zero_le _⟩ dX4_readLesson_15 (fun H1 locs hP1 hD1 hz1 hk1 hS => ?_)
          have hP : va_P E.1 vwCl (Reader_c E a t6.2) H1 := hP1
          have hD : va_D A (Reader_c E a t6.2) := m_back hD1 hFc
          generalize H1 = H at hP hS ⊢
          refine W.eq (g2 := F0 m 18 ls [.int t6.1]) rfl ?_
          refine lv_if_ne (tgt := 24) hx hb dX4_readLesson_18 (by decide) (fun c7 => ?_) (fun c7 => ?_)
          · have hF := m_pos c7 hF
            exact hj24 t6.2 H locs ls hF hP hD hS (lv_sub hl [0, 1] rfl)
          · have hF := m_neg (fun n9 => n9 c7) hF
            exact hj21 t6.2 H locs ls hF hP hD hS (lv_sub hl [0] rfl)
  exact hL2 m_N 0 v H locs ls hF hP hD hS (lv_sub hl [1, 0] rfl)

abbrev rmX7_on : Room := { frames := 6, cells := 0, slots := 0, locals := 147 }
set_option maxRecDepth 100000 in
set_option maxHeartbeats 400000 in
theorem c_X7_on (l : Launch) (E : mE) (a : OneA) (v : OneV) (e : LessonA) (le : LessonV) (x0 : Int32) (x1 : Int32) (t : (Int32 × OneV)) (hF : fn_X7_on v le (Lessona_self e) x0 x1 = some t) (sz : Nat) : Met l yX7_on wsX7_on rmX7_on (mPm E [.ref (Onea_self a), .int x0, .int x1] sz ((One_c E a v)) ((Lesson_c E e le))) (mSm E (some (.int t.1)) ((One_c E a t.2)) (va_A ((One_c E a v)) sz)) 0 0 (va_A ((One_c E a v)) sz) := by
  refine mOfM (cc := cX7_on) (maxL := 5) (ret := (some .int)) (by decide) rfl (Nat.le_of_ble_eq_true rfl) ?_
  intro p e_ s m args below meth c Q A hQ CC hr hlocks hin hA hP hD hKN hGl hR0 hRA ls hl
  have hS : va_S A s.heap s.heap [] := va_S.rf
  have hK := hKN.1
  have hx := CC.1
  have hb := CC.2.1
  have hml := CC.2.2.1
  have hown : s.vm.findClass RX7 = some m.cls := CC.2.2.2.1
  have hts := CC.2.2.2.2
  have hl : lv_has ls 5 [(0, .ref (Onea_self a)), (1, .int x0), (2, .int x1)] := hl
  have k0 := hts (.fieldLink RX7 28 "OneDidAll" "forecast" "LOneDidAll$Forecast;") (by decide +kernel)
  have k1 := (show ∀ w ∈ u_ws RX7 TX7 5, w ∈ wsX7_on by decide +kernel)
  have k2 := hts (.fieldLink RX7 12 "OneDidAll" "now" "LOneDidAll$Room;") (by decide +kernel)
  have k3 := (va_Nw.use rfl (hKN.2.1 ("OneDidAll", 177, "OneDidAll$Forecast", "trial", "LOneDidAll$Group;", "OneDidAll") (by decide +kernel)) : (Cond.fieldLinkNest "OneDidAll" 177 "OneDidAll$Forecast" "trial" "LOneDidAll$Group;" "OneDidAll").before args s = true)
  have k4 := (show ∀ w ∈ u_ws RX1 TX1 3, w ∈ wsX7_on by decide +kernel)
  have k5 := (va_Nw.use rfl (hKN.2.1 ("OneDidAll", 100, "OneDidAll$Group", "wills", "[I", "OneDidAll") (by decide +kernel)) : (Cond.fieldLinkNest "OneDidAll" 100 "OneDidAll$Group" "wills" "[I" "OneDidAll").before args s = true)
  have k6 := (show ∀ w ∈ u_ws RX2 TX2 11, w ∈ wsX7_on by decide +kernel)
  have hP : va_P E.1 vwCl (One_c E a v) s.heap := hP
  obtain ⟨H, hH⟩ : ∃ H, H = s.heap := ⟨_, rfl⟩
  obtain ⟨locs, hlc⟩ : ∃ z : List Loc, z = [] := ⟨_, rfl⟩
  rw [← hH] at hP
  rw [← hlc] at hS
  have hS : va_S A s.heap H locs := by rw [hH]; exact hS
  rw [← hH, ← hlc]
  unfold fn_X7_on at hF
  refine lv_iload_n hx hb dX7_on_0 rfl (lv_at hl 2 rfl) ?_
  refine lv_bipush (v := 10) hx hb dX7_on_1 (by decide) ?_
  obtain ⟨j22, hjd22, hF⟩ := m_jp hF
  have hj22 : ∀ (z0_22 : Int32) (H : Heap) (locs : List Loc) (ls : Array Slot), j22 z0_22 = some t → va_P E.1 vwCl (One_c E a v) H → va_D A (One_c E a v) → va_S A s.heap H locs → lv_has ls 5 [(0, .ref (Onea_self a)), (1, .int x0), (2, .int x1)] → W p l e_ rmX7_on s m args below meth c H locs 0 0 Q (F0 m 22 ls [.int z0_22]) := by
    intro z0_22 H locs ls hF hP hD hS hl
    rw [hjd22] at hF
    refine lv_istore_n (lv' := [(3, .int z0_22), (0, .ref (Onea_self a)), (1, .int x0), (2, .int x1)]) hx hb dX7_on_22 rfl hl (by decide) rfl (fun ls hl => ?_)
    refine lv_iload_n hx hb dX7_on_23 rfl (lv_at hl 3 rfl) ?_
    refine lv_bipush (v := 20) hx hb dX7_on_24 (by decide) ?_
    obtain ⟨j45, hjd45, hF⟩ := m_jp hF
    have hj45 : ∀ (z0_45 : Int32) (H : Heap) (locs : List Loc) (ls : Array Slot), j45 z0_45 = some t → va_P E.1 vwCl (One_c E a v) H → va_D A (One_c E a v) → va_S A s.heap H locs → lv_has ls 5 [(0, .ref (Onea_self a)), (1, .int x0), (2, .int x1), (3, .int z0_22)] → W p l e_ rmX7_on s m args below meth c H locs 0 0 Q (F0 m 45 ls [.int z0_45]) := by
      intro z0_45 H locs ls hF hP hD hS hl
      rw [hjd45] at hF
      refine lv_istore (lv' := [(4, .int z0_45), (0, .ref (Onea_self a)), (1, .int x0), (2, .int x1), (3, .int z0_22)]) hx hb dX7_on_45 hl (by decide) rfl (fun ls hl => ?_)
      refine lv_iload_n hx hb dX7_on_47 rfl (lv_at hl 3 rfl) ?_
      obtain ⟨j67, hjd67, hF⟩ := m_jp hF
      have hj67 : ∀ (H : Heap) (locs : List Loc) (ls : Array Slot), j67 () = some t → va_P E.1 vwCl (One_c E a v) H → va_D A (One_c E a v) → va_S A s.heap H locs → lv_has ls 5 [(0, .ref (Onea_self a)), (1, .int x0), (2, .int x1), (3, .int z0_22), (4, .int z0_45)] → W p l e_ rmX7_on s m args below meth c H locs 0 0 Q (F0 m 67 ls []) := by
        intro H locs ls hF hP hD hS hl
        rw [hjd67] at hF
        refine lv_iload_n hx hb dX7_on_67 rfl (lv_at hl 1 rfl) ?_
        refine lv_if_lt (tgt := 77) hx hb dX7_on_68 (by decide) (fun c1 => ?_) (fun c1 => ?_)
        · have hF := m_pos c1 hF
          refine lv_bipush (v := (-2)) hx hb dX7_on_77 (by decide) ?_
          have hF := Option.some.inj hF
          subst hF
          rw [hQ]
          exact W.iret hx hb hr (fun t ht _ => ⟨⟨rfl, by rw [ht]; exact hP, hD⟩, hS.F ht⟩) hS.2.2 dX7_on_79
        · have hF := m_neg c1 hF
          refine lv_iload_n hx hb dX7_on_71 rfl (lv_at hl 1 rfl) ?_
          refine lv_bipush (v := 60) hx hb dX7_on_72 (by decide) ?_
          refine lv_icmp_le (tgt := 80) hx hb dX7_on_74 (by decide) (fun c2 => ?_) (fun c2 => ?_)
          · have hF := m_pos c2 hF
            refine lv_aload_n hx hb dX7_on_80 rfl (lv_at hl 0 rfl) ?_
            refine va_get (D := E.1) (ci := 7) (v := .ref (Forecasta_self (Onea_forecast a))) (C := RX7) (T := TX7) (N := 5) hx hb hts k1 hown hK hP 0 rfl rfl 3 (by decide) k0 (fun _ h9 => h9) rfl dX7_on_81 ?_
            refine lv_aload_n hx hb dX7_on_84 rfl (lv_at hl 0 rfl) ?_
            refine va_get (D := E.1) (ci := 7) (v := .ref (Rooma_self (Onea_now a))) (C := RX7) (T := TX7) (N := 5) hx hb hts k1 hown hK hP 0 rfl rfl 0 (by decide) k2 (fun _ h9 => h9) rfl dX7_on_85 ?_
            obtain ⟨t3, ht3, hF⟩ := m_bnd hF
            have hpm : List.Perm (One_c E a v) (((Forecast_c E (Onea_forecast a) (One_forecast v)) ++ (Room_c E (Onea_now a) (One_now v))) ++ ((List.take 1 (One_c E a v)) ++ ((List.take 21 (List.drop 22 (One_c E a v))) ++ (List.drop 62 (One_c E a v))))) := m_p2s (A := (List.take 1 (One_c E a v))) (m1 := (Room_c E (Onea_now a) (One_now v))) (B := (List.take 21 (List.drop 22 (One_c E a v)))) (m2 := (Forecast_c E (Onea_forecast a) (One_forecast v))) (C := (List.drop 62 (One_c E a v)))
            obtain ⟨hPc, hDc, hFc⟩ := m_pre hpm hP hD hS hA
            refine mVM (ci := 1) (n := 1) (rest := []) (As := [.ref (Rooma_self (Onea_now a))]) CC hKN hGl (c_X1_begin l E (Onea_forecast a) (One_forecast v) (Onea_now a) (One_now v) t3 ht3 _) gX7_on_X1_begin rfl ⟨rfl, rfl⟩ (by decide +kernel) ⟨Nat.le_of_ble_eq_true rfl, Nat.le_of_ble_eq_true rfl⟩ hPc hDc m_nil m_nilA hS hFc rfl rfl rfl rfl hl.1 rfl (Nat.le_of_ble_eq_true rfl) ⟨Nat.zero_le _, Nat.zero_le _⟩ dX7_on_88 (fun H1 locs hP1 hD1 hz1 hk1 hS => ?_)
            have hpn : List.Perm (One_c E a (One_forecast_s v t3)) (((Forecast_c E (Onea_forecast a) t3) ++ (Room_c E (Onea_now a) (One_now v))) ++ ((List.take 1 (One_c E a v)) ++ ((List.take 21 (List.drop 22 (One_c E a v))) ++ (List.drop 62 (One_c E a v))))) := m_p2s (A := (List.take 1 (One_c E a v))) (m1 := (Room_c E (Onea_now a) (One_now v))) (B := (List.take 21 (List.drop 22 (One_c E a v)))) (m2 := (Forecast_c E (Onea_forecast a) t3)) (C := (List.drop 62 (One_c E a v)))
            obtain ⟨hP, hD⟩ := m_spl hpm hpn hP hD hk1 hFc hP1 hD1
            generalize H1 = H at hP hS ⊢
            refine W.eq (g2 := F0 m 91 ls []) rfl ?_
            refine lv_aload_n hx hb dX7_on_91 rfl (lv_at hl 0 rfl) ?_
            refine va_get (D := E.1) (ci := 7) (v := .ref (Forecasta_self (Onea_forecast a))) (C := RX7) (T := TX7) (N := 5) hx hb hts k1 hown hK hP 0 rfl rfl 3 (by decide) k0 (fun _ h9 => h9) rfl dX7_on_92 ?_
            refine lv_iload_n hx hb dX7_on_95 rfl (lv_at hl 1 rfl) ?_
            obtain ⟨t4, ht4, hF⟩ := m_bnd hF
            have hpm : List.Perm (One_c E a (One_forecast_s v t3)) ((Forecast_c E (Onea_forecast a) t3) ++ ((List.take 43 (One_c E a (One_forecast_s v t3))) ++ (List.drop 62 (One_c E a (One_forecast_s v t3))))) := m_p1 (A := (List.take 43 (One_c E a (One_forecast_s v t3)))) (m := (Forecast_c E (Onea_forecast a) t3)) (C := (List.drop 62 (One_c E a (One_forecast_s v t3))))
            obtain ⟨hPc, hDc, hFc⟩ := m_pre hpm hP hD hS hA
            have hp5 := (m_ro hR0 hRA hS).sub (ws' := Lesson_c E e le) [0, 1, 2, 3] rfl
            have ha6 := m_roA (wr := Lesson_c E e le) hRA hFc [0, 1, 2, 3] rfl
            refine mVM (ci := 1) (n := 1) (rest := []) (As := [.int x0]) CC hKN hGl (c_X1_go l E (Onea_forecast a) t3 e le x0 t4 ht4 _) gX7_on_X1_go rfl ⟨rfl, rfl⟩ (by decide +kernel) ⟨Nat.le_of_ble_eq_true rfl, Nat.le_of_ble_eq_true rfl⟩ hPc hDc hp5 ha6 hS hFc rfl rfl rfl rfl hl.1 rfl (Nat.le_of_ble_eq_true rfl) ⟨Nat.zero_le _, Nat.zero_le _⟩ dX7_on_96 (fun H1 locs hP1 hD1 hz1 hk1 hS => ?_)
            have hpn : List.Perm (One_c E a (One_forecast_s v t4)) ((Forecast_c E (Onea_forecast a) t4) ++ ((List.take 43 (One_c E a (One_forecast_s v t3))) ++ (List.drop 62 (One_c E a (One_forecast_s v t3))))) := m_p1 (A := (List.take 43 (One_c E a (One_forecast_s v t3)))) (m := (Forecast_c E (Onea_forecast a) t4)) (C := (List.drop 62 (One_c E a (One_forecast_s v t3))))
            obtain ⟨hP, hD⟩ := m_spl hpm hpn hP hD hk1 hFc hP1 hD1
            generalize H1 = H at hP hS ⊢
            refine W.eq (g2 := F0 m 99 ls []) rfl ?_
            refine lv_iload_n hx hb dX7_on_99 rfl (lv_at hl 3 rfl) ?_
            refine lv_if_eq (tgt := 115) hx hb dX7_on_100 (by decide) (fun c7 => ?_) (fun c7 => ?_)
            · have hF := m_pos c7 hF
              refine lv_iload hx hb dX7_on_115 (lv_at hl 4 rfl) ?_
              refine lv_if_eq (tgt := 136) hx hb dX7_on_117 (by decide) (fun c8 => ?_) (fun c8 => ?_)
              · have hF := m_pos c8 hF
                refine lv_iload_n hx hb dX7_on_136 rfl (lv_at hl 2 rfl) ?_
                refine lv_if_ne (tgt := 150) hx hb dX7_on_137 (by decide) (fun c9 => ?_) (fun c9 => ?_)
                · have hF := m_pos c9 hF
                  refine lv_aload_n hx hb dX7_on_150 rfl (lv_at hl 0 rfl) ?_
                  refine va_get (D := E.1) (ci := 7) (v := .ref (Forecasta_self (Onea_forecast a))) (C := RX7) (T := TX7) (N := 5) hx hb hts k1 hown hK hP 0 rfl rfl 3 (by decide) k0 (fun _ h9 => h9) rfl dX7_on_151 ?_
                  obtain ⟨t10, ht10, hF⟩ := m_bnd hF
                  have hPc := m_cutP (mid := (Forecast_c E (Onea_forecast a) t4)) hP 43 19 rfl
                  refine mVP (ci := 1) (n := 0) (rest := []) (As := []) CC hKN hGl hS (c_X1_hoursMore l E (Onea_forecast a) t4 t10 ht10) gX7_on_X1_hoursMore rfl ⟨rfl, rfl⟩ (by decide +kernel) ⟨Nat.le_of_ble_eq_true rfl, Nat.le_of_ble_eq_true rfl⟩ hPc rfl rfl rfl rfl hl.1 rfl (Nat.le_of_ble_eq_true rfl) ⟨Nat.zero_le _, Nat.zero_le _⟩ dX7_on_154 ?_
                  refine W.eq (g2 := F0 m 157 ls [.int t10]) rfl ?_
                  have hF := Option.some.inj hF
                  subst hF
                  rw [hQ]
                  exact W.iret hx hb hr (fun t ht _ => ⟨⟨rfl, by rw [ht]; exact hP, hD⟩, hS.F ht⟩) hS.2.2 dX7_on_157
                · have hF := m_neg (fun n9 => n9 c9) hF
                  refine lv_aload_n hx hb dX7_on_140 rfl (lv_at hl 0 rfl) ?_
                  refine va_get (D := E.1) (ci := 7) (v := .ref (Forecasta_self (Onea_forecast a))) (C := RX7) (T := TX7) (N := 5) hx hb hts k1 hown hK hP 0 rfl rfl 3 (by decide) k0 (fun _ h9 => h9) rfl dX7_on_141 ?_
                  obtain ⟨t11, ht11, hF⟩ := m_bnd hF
                  have hPc := m_cutP (mid := (Forecast_c E (Onea_forecast a) t4)) hP 43 19 rfl
                  refine mVP (ci := 1) (n := 0) (rest := []) (As := []) CC hKN hGl hS (c_X1_workMore l E (Onea_forecast a) t4 t11 ht11) gX7_on_X1_workMore rfl ⟨rfl, rfl⟩ (by decide +kernel) ⟨Nat.le_of_ble_eq_true rfl, Nat.le_of_ble_eq_true rfl⟩ hPc rfl rfl rfl rfl hl.1 rfl (Nat.le_of_ble_eq_true rfl) ⟨Nat.zero_le _, Nat.zero_le _⟩ dX7_on_144 ?_
                  refine W.eq (g2 := F0 m 147 ls [.int t11]) rfl ?_
                  refine lv_goto (tgt := 157) hx hb dX7_on_147 (by decide) ?_
                  have hF := Option.some.inj hF
                  subst hF
                  rw [hQ]
                  exact W.iret hx hb hr (fun t ht _ => ⟨⟨rfl, by rw [ht]; exact hP, hD⟩, hS.F ht⟩) hS.2.2 dX7_on_157
              · have hF := m_neg c8 hF
                refine lv_aload_n hx hb dX7_on_120 rfl (lv_at hl 0 rfl) ?_
                refine va_get (D := E.1) (ci := 7) (v := .ref (Forecasta_self (Onea_forecast a))) (C := RX7) (T := TX7) (N := 5) hx hb hts k1 hown hK hP 0 rfl rfl 3 (by decide) k0 (fun _ h9 => h9) rfl dX7_on_121 ?_
                refine va_getN (D := E.1) (ci := 1) (v := .ref (Groupa_self (Forecasta_trial (Onea_forecast a)))) (C := RX1) (T := TX1) (N := 3) hx hb hts k4 hown hK hP 43 rfl rfl 0 (by decide) k3 (fun _ h9 => h9) rfl dX7_on_124 ?_
                refine va_getN (D := E.1) (ci := 2) (v := .ref (Groupa_wills (Forecasta_trial (Onea_forecast a)))) (C := RX2) (T := TX2) (N := 11) hx hb hts k6 hown hK hP 44 rfl rfl 6 (by decide) k5 (fun _ h9 => h9) rfl dX7_on_127 ?_
                refine lv_iload_n hx hb dX7_on_130 rfl (lv_at hl 2 rfl) ?_
                refine lv_bipush (v := 20) hx hb dX7_on_131 (by decide) ?_
                refine lv_isub hx hb dX7_on_133 ?_
                obtain ⟨h12, hF⟩ := m_chk hF
                refine va_iald (f := (Group_wills (Forecast_trial t4))) hx hb hK hP 48 1 rfl rfl (mIn_ok h12) dX7_on_134 ?_
                refine W.eq (g2 := F0 m 135 ls [.int ((Group_wills (Forecast_trial t4)) ((x1 - 20)).toNatClampNeg)]) rfl ?_
                have hF := Option.some.inj hF
                subst hF
                rw [hQ]
                exact W.iret hx hb hr (fun t ht _ => ⟨⟨rfl, by rw [ht]; exact hP, hD⟩, hS.F ht⟩) hS.2.2 dX7_on_135
            · have hF := m_neg c7 hF
              refine lv_aload_n hx hb dX7_on_103 rfl (lv_at hl 0 rfl) ?_
              refine va_get (D := E.1) (ci := 7) (v := .ref (Forecasta_self (Onea_forecast a))) (C := RX7) (T := TX7) (N := 5) hx hb hts k1 hown hK hP 0 rfl rfl 3 (by decide) k0 (fun _ h9 => h9) rfl dX7_on_104 ?_
              refine lv_iload_n hx hb dX7_on_107 rfl (lv_at hl 2 rfl) ?_
              refine lv_bipush (v := 10) hx hb dX7_on_108 (by decide) ?_
              refine lv_isub hx hb dX7_on_110 ?_
              obtain ⟨t13, ht13, hF⟩ := m_bnd hF
              have hPc := m_cutP (mid := (Forecast_c E (Onea_forecast a) t4)) hP 43 19 rfl
              refine mVP (ci := 1) (n := 1) (rest := []) (As := [.int (x1 - 10)]) CC hKN hGl hS (c_X1_hoursMoreOf l E (Onea_forecast a) t4 (x1 - 10) t13 ht13) gX7_on_X1_hoursMoreOf rfl ⟨rfl, rfl⟩ (by decide +kernel) ⟨Nat.le_of_ble_eq_true rfl, Nat.le_of_ble_eq_true rfl⟩ hPc rfl rfl rfl rfl hl.1 rfl (Nat.le_of_ble_eq_true rfl) ⟨Nat.zero_le _, Nat.zero_le _⟩ dX7_on_111 ?_
              refine W.eq (g2 := F0 m 114 ls [.int t13]) rfl ?_
              have hF := Option.some.inj hF
              subst hF
              rw [hQ]
              exact W.iret hx hb hr (fun t ht _ => ⟨⟨rfl, by rw [ht]; exact hP, hD⟩, hS.F ht⟩) hS.2.2 dX7_on_114
          · have hF := m_neg c2 hF
            refine lv_bipush (v := (-2)) hx hb dX7_on_77 (by decide) ?_
            have hF := Option.some.inj hF
            subst hF
            rw [hQ]
            exact W.iret hx hb hr (fun t ht _ => ⟨⟨rfl, by rw [ht]; exact hP, hD⟩, hS.F ht⟩) hS.2.2 dX7_on_79
      clear hjd67
      refine lv_if_eq (tgt := 67) hx hb dX7_on_48 (by decide) (fun c14 => ?_) (fun c14 => ?_)
      · have hF := m_pos c14 hF
        exact hj67 H locs ls hF hP hD hS (lv_sub hl [1, 2, 3, 4, 0] rfl)
      · have hF := m_neg c14 hF
        refine lv_iload_n hx hb dX7_on_51 rfl (lv_at hl 3 rfl) ?_
        refine lv_iconst (v := 1) hx hb dX7_on_52 (by decide) ?_
        refine lv_icmp_eq (tgt := 67) hx hb dX7_on_53 (by decide) (fun c15 => ?_) (fun c15 => ?_)
        · have hF := m_pos c15 hF
          exact hj67 H locs ls hF hP hD hS (lv_sub hl [1, 2, 3, 4, 0] rfl)
        · have hF := m_neg c15 hF
          refine lv_iload_n hx hb dX7_on_56 rfl (lv_at hl 4 rfl) ?_
          refine lv_if_ne (tgt := 67) hx hb dX7_on_57 (by decide) (fun c16 => ?_) (fun c16 => ?_)
          · have hF := m_pos c16 hF
            exact hj67 H locs ls hF hP hD hS (lv_sub hl [1, 2, 3, 4, 0] rfl)
          · have hF := m_neg (fun n9 => n9 c16) hF
            refine lv_iload hx hb dX7_on_60 (lv_at hl 0 rfl) ?_
            refine lv_if_ne (tgt := 67) hx hb dX7_on_62 (by decide) (fun c17 => ?_) (fun c17 => ?_)
            · have hF := m_pos c17 hF
              exact hj67 H locs ls hF hP hD hS (lv_sub hl [1, 2, 3, 4, 0] rfl)
            · have hF := m_neg (fun n9 => n9 c17) hF
              refine lv_iconst (v := (-1)) hx hb dX7_on_65 (by decide) ?_
              have hF := Option.some.inj hF
              subst hF
              rw [hQ]
              exact W.iret hx hb hr (fun t ht _ => ⟨⟨rfl, by rw [ht]; exact hP, hD⟩, hS.F ht⟩) hS.2.2 dX7_on_66
    clear hjd45
    obtain ⟨j44, hjd44, hF⟩ := m_jp hF
    have hj44 : ∀ (H : Heap) (locs : List Loc) (ls : Array Slot), j44 () = some t → va_P E.1 vwCl (One_c E a v) H → va_D A (One_c E a v) → va_S A s.heap H locs → lv_has ls 5 [(0, .ref (Onea_self a)), (1, .int x0), (2, .int x1), (3, .int z0_22)] → W p l e_ rmX7_on s m args below meth c H locs 0 0 Q (F0 m 44 ls []) := by
      intro H locs ls hF hP hD hS hl
      rw [hjd44] at hF
      refine lv_iconst (v := 0) hx hb dX7_on_44 (by decide) ?_
      exact hj45 0 H locs ls hF hP hD hS (lv_sub hl [0, 1, 2, 3] rfl)
    clear hjd44
    refine lv_icmp_lt (tgt := 44) hx hb dX7_on_26 (by decide) (fun c18 => ?_) (fun c18 => ?_)
    · have hF := m_pos c18 hF
      exact hj44 H locs ls hF hP hD hS (lv_sub hl [1, 2, 3, 0] rfl)
    · have hF := m_neg c18 hF
      refine lv_aload_n hx hb dX7_on_29 rfl (lv_at hl 1 rfl) ?_
      refine lv_iload_n hx hb dX7_on_30 rfl (lv_at hl 3 rfl) ?_
      refine lv_bipush (v := 20) hx hb dX7_on_31 (by decide) ?_
      refine lv_isub hx hb dX7_on_33 ?_
      obtain ⟨t19, ht19, hF⟩ := m_bnd hF
      refine mVP (ci := 7) (n := 1) (rest := []) (As := [.int (x1 - 20)]) CC hKN hGl hS (c_X7_isPupil l E a v (x1 - 20) t19 ht19) gX7_on_X7_isPupil rfl ⟨rfl, rfl⟩ (by decide +kernel) ⟨Nat.le_of_ble_eq_true rfl, Nat.le_of_ble_eq_true rfl⟩ hP rfl rfl rfl rfl hl.1 rfl (Nat.le_of_ble_eq_true rfl) ⟨Nat.zero_le _, Nat.zero_le _⟩ dX7_on_34 ?_
      refine W.eq (g2 := F0 m 37 ls [.int t19]) rfl ?_
      refine lv_if_eq (tgt := 44) hx hb dX7_on_37 (by decide) (fun c20 => ?_) (fun c20 => ?_)
      · have hF := m_pos c20 hF
        exact hj44 H locs ls hF hP hD hS (lv_sub hl [1, 2, 3, 0] rfl)
      · have hF := m_neg c20 hF
        refine lv_iconst (v := 1) hx hb dX7_on_40 (by decide) ?_
        refine lv_goto (tgt := 45) hx hb dX7_on_41 (by decide) ?_
        exact hj45 1 H locs ls hF hP hD hS (lv_sub hl [1, 2, 3, 0] rfl)
  clear hjd22
  obtain ⟨j21, hjd21, hF⟩ := m_jp hF
  have hj21 : ∀ (H : Heap) (locs : List Loc) (ls : Array Slot), j21 () = some t → va_P E.1 vwCl (One_c E a v) H → va_D A (One_c E a v) → va_S A s.heap H locs → lv_has ls 5 [(0, .ref (Onea_self a)), (1, .int x0), (2, .int x1)] → W p l e_ rmX7_on s m args below meth c H locs 0 0 Q (F0 m 21 ls []) := by
    intro H locs ls hF hP hD hS hl
    rw [hjd21] at hF
    refine lv_iconst (v := 0) hx hb dX7_on_21 (by decide) ?_
    exact hj22 0 H locs ls hF hP hD hS (lv_sub hl [0, 1, 2] rfl)
  clear hjd21
  refine lv_icmp_lt (tgt := 21) hx hb dX7_on_3 (by decide) (fun c21 => ?_) (fun c21 => ?_)
  · have hF := m_pos c21 hF
    exact hj21 H locs ls hF hP hD hS (lv_sub hl [0, 1, 2] rfl)
  · have hF := m_neg c21 hF
    refine lv_aload_n hx hb dX7_on_6 rfl (lv_at hl 0 rfl) ?_
    refine lv_iload_n hx hb dX7_on_7 rfl (lv_at hl 2 rfl) ?_
    refine lv_bipush (v := 10) hx hb dX7_on_8 (by decide) ?_
    refine lv_isub hx hb dX7_on_10 ?_
    obtain ⟨t22, ht22, hF⟩ := m_bnd hF
    refine mVP (ci := 7) (n := 1) (rest := []) (As := [.int (x1 - 10)]) CC hKN hGl hS (c_X7_isPupil l E a v (x1 - 10) t22 ht22) gX7_on_X7_isPupil rfl ⟨rfl, rfl⟩ (by decide +kernel) ⟨Nat.le_of_ble_eq_true rfl, Nat.le_of_ble_eq_true rfl⟩ hP rfl rfl rfl rfl hl.1 rfl (Nat.le_of_ble_eq_true rfl) ⟨Nat.zero_le _, Nat.zero_le _⟩ dX7_on_11 ?_
    refine W.eq (g2 := F0 m 14 ls [.int t22]) rfl ?_
    refine lv_if_eq (tgt := 21) hx hb dX7_on_14 (by decide) (fun c23 => ?_) (fun c23 => ?_)
    · have hF := m_pos c23 hF
      exact hj21 H locs ls hF hP hD hS (lv_sub hl [0, 1, 2] rfl)
    · have hF := m_neg c23 hF
      refine lv_iconst (v := 1) hx hb dX7_on_17 (by decide) ?_
      refine lv_goto (tgt := 22) hx hb dX7_on_18 (by decide) ?_
      exact hj22 1 H locs ls hF hP hD hS (lv_sub hl [0, 1, 2] rfl)

abbrev rmX7_ready : Room := { frames := 6, cells := 0, slots := 0, locals := 147 }
set_option maxRecDepth 100000 in
set_option maxHeartbeats 400000 in
theorem c_X7_ready (l : Launch) (E : mE) (a : OneA) (v : OneV) (e : LessonA) (le : LessonV) (t : (Int32 × OneV)) (hF : fn_X7_ready v le (Lessona_self e) = some t) (sz : Nat) : Met l yX7_ready wsX7_ready rmX7_ready (mPm E [.ref (Onea_self a)] sz ((One_c E a v)) ((Lesson_c E e le))) (mSm E (some (.int t.1)) ((One_c E a t.2)) (va_A ((One_c E a v)) sz)) 0 0 (va_A ((One_c E a v)) sz) := by
  refine mOfM (cc := cX7_ready) (maxL := 3) (ret := (some .int)) (by decide) rfl (Nat.le_of_ble_eq_true rfl) ?_
  intro p e_ s m args below meth c Q A hQ CC hr hlocks hin hA hP hD hKN hGl hR0 hRA ls hl
  have hS : va_S A s.heap s.heap [] := va_S.rf
  have hK := hKN.1
  have hx := CC.1
  have hb := CC.2.1
  have hml := CC.2.2.1
  have hown : s.vm.findClass RX7 = some m.cls := CC.2.2.2.1
  have hts := CC.2.2.2.2
  have hl : lv_has ls 3 [(0, .ref (Onea_self a))] := hl
  have k0 := hts (.fieldLink RX7 12 "OneDidAll" "now" "LOneDidAll$Room;") (by decide +kernel)
  have k1 := (show ∀ w ∈ u_ws RX7 TX7 5, w ∈ wsX7_ready by decide +kernel)
  have k2 := hts (.fieldLink RX7 28 "OneDidAll" "forecast" "LOneDidAll$Forecast;") (by decide +kernel)
  have k3 := (va_Nw.use rfl (hKN.2.1 ("OneDidAll", 177, "OneDidAll$Forecast", "trial", "LOneDidAll$Group;", "OneDidAll") (by decide +kernel)) : (Cond.fieldLinkNest "OneDidAll" 177 "OneDidAll$Forecast" "trial" "LOneDidAll$Group;" "OneDidAll").before args s = true)
  have k4 := (show ∀ w ∈ u_ws RX1 TX1 3, w ∈ wsX7_ready by decide +kernel)
  have k5 := (va_Nw.use rfl (hKN.2.1 ("OneDidAll", 136, "OneDidAll$Group", "work", "I", "OneDidAll") (by decide +kernel)) : (Cond.fieldLinkNest "OneDidAll" 136 "OneDidAll$Group" "work" "I" "OneDidAll").before args s = true)
  have k6 := (show ∀ w ∈ u_ws RX2 TX2 11, w ∈ wsX7_ready by decide +kernel)
  have hP : va_P E.1 vwCl (One_c E a v) s.heap := hP
  obtain ⟨H, hH⟩ : ∃ H, H = s.heap := ⟨_, rfl⟩
  obtain ⟨locs, hlc⟩ : ∃ z : List Loc, z = [] := ⟨_, rfl⟩
  rw [← hH] at hP
  rw [← hlc] at hS
  have hS : va_S A s.heap H locs := by rw [hH]; exact hS
  rw [← hH, ← hlc]
  unfold fn_X7_ready at hF
  refine lv_aload_n hx hb dX7_ready_0 rfl (lv_at hl 0 rfl) ?_
  refine va_get (D := E.1) (ci := 7) (v := .ref (Rooma_self (Onea_now a))) (C := RX7) (T := TX7) (N := 5) hx hb hts k1 hown hK hP 0 rfl rfl 0 (by decide) k0 (fun _ h9 => h9) rfl dX7_ready_1 ?_
  obtain ⟨t1, ht1, hF⟩ := m_bnd hF
  have hPc := m_cutP (mid := (Room_c E (Onea_now a) (One_now v))) hP 1 21 rfl
  refine mVP (ci := 5) (n := 0) (rest := []) (As := []) CC hKN hGl hS (c_X5_lesson l E (Onea_now a) (One_now v) t1 ht1) gX7_ready_X5_lesson rfl ⟨rfl, rfl⟩ (by decide +kernel) ⟨Nat.le_of_ble_eq_true rfl, Nat.le_of_ble_eq_true rfl⟩ hPc rfl rfl rfl rfl hl.1 rfl (Nat.le_of_ble_eq_true rfl) ⟨Nat.zero_le _, Nat.zero_le _⟩ dX7_ready_4 ?_
  refine W.eq (g2 := F0 m 7 ls [.ref t1]) rfl ?_
  obtain ⟨h2, hF⟩ := m_chk hF
  refine W.eq (g2 := F0 m 7 ls [.ref (Lessona_self e)]) (by rw [h2]) ?_
  obtain ⟨t3, ht3, hF⟩ := m_bnd hF
  have hp4 := m_cutP (mid := Lesson_c E e le) (m_ro hR0 hRA hS) 0 4 rfl
  refine mVP (ci := 3) (n := 0) (rest := []) (As := []) CC hKN hGl hS (c_X3_goal l E e le t3 ht3) gX7_ready_X3_goal rfl ⟨rfl, rfl⟩ (by decide +kernel) ⟨Nat.le_of_ble_eq_true rfl, Nat.le_of_ble_eq_true rfl⟩ hp4 rfl rfl rfl rfl hl.1 rfl (Nat.le_of_ble_eq_true rfl) ⟨Nat.zero_le _, Nat.zero_le _⟩ dX7_ready_7 ?_
  refine W.eq (g2 := F0 m 10 ls [.int t3]) rfl ?_
  refine lv_istore_n (lv' := [(1, .int t3), (0, .ref (Onea_self a))]) hx hb dX7_ready_10 rfl hl (by decide) rfl (fun ls hl => ?_)
  refine lv_aload_n hx hb dX7_ready_11 rfl (lv_at hl 1 rfl) ?_
  refine va_get (D := E.1) (ci := 7) (v := .ref (Forecasta_self (Onea_forecast a))) (C := RX7) (T := TX7) (N := 5) hx hb hts k1 hown hK hP 0 rfl rfl 3 (by decide) k2 (fun _ h9 => h9) rfl dX7_ready_12 ?_
  refine lv_aload_n hx hb dX7_ready_15 rfl (lv_at hl 1 rfl) ?_
  refine va_get (D := E.1) (ci := 7) (v := .ref (Rooma_self (Onea_now a))) (C := RX7) (T := TX7) (N := 5) hx hb hts k1 hown hK hP 0 rfl rfl 0 (by decide) k0 (fun _ h9 => h9) rfl dX7_ready_16 ?_
  obtain ⟨t5, ht5, hF⟩ := m_bnd hF
  have hpm : List.Perm (One_c E a v) (((Forecast_c E (Onea_forecast a) (One_forecast v)) ++ (Room_c E (Onea_now a) (One_now v))) ++ ((List.take 1 (One_c E a v)) ++ ((List.take 21 (List.drop 22 (One_c E a v))) ++ (List.drop 62 (One_c E a v))))) := m_p2s (A := (List.take 1 (One_c E a v))) (m1 := (Room_c E (Onea_now a) (One_now v))) (B := (List.take 21 (List.drop 22 (One_c E a v)))) (m2 := (Forecast_c E (Onea_forecast a) (One_forecast v))) (C := (List.drop 62 (One_c E a v)))
  obtain ⟨hPc, hDc, hFc⟩ := m_pre hpm hP hD hS hA
  refine mVM (ci := 1) (n := 1) (rest := []) (As := [.ref (Rooma_self (Onea_now a))]) CC hKN hGl (c_X1_begin l E (Onea_forecast a) (One_forecast v) (Onea_now a) (One_now v) t5 ht5 _) gX7_ready_X1_begin rfl ⟨rfl, rfl⟩ (by decide +kernel) ⟨Nat.le_of_ble_eq_true rfl, Nat.le_of_ble_eq_true rfl⟩ hPc hDc m_nil m_nilA hS hFc rfl rfl rfl rfl hl.1 rfl (Nat.le_of_ble_eq_true rfl) ⟨Nat.zero_le _, Nat.zero_le _⟩ dX7_ready_19 (fun H1 locs hP1 hD1 hz1 hk1 hS => ?_)
  have hpn : List.Perm (One_c E a (One_forecast_s v t5)) (((Forecast_c E (Onea_forecast a) t5) ++ (Room_c E (Onea_now a) (One_now v))) ++ ((List.take 1 (One_c E a v)) ++ ((List.take 21 (List.drop 22 (One_c E a v))) ++ (List.drop 62 (One_c E a v))))) := m_p2s (A := (List.take 1 (One_c E a v))) (m1 := (Room_c E (Onea_now a) (One_now v))) (B := (List.take 21 (List.drop 22 (One_c E a v)))) (m2 := (Forecast_c E (Onea_forecast a) t5)) (C := (List.drop 62 (One_c E a v)))
  obtain ⟨hP, hD⟩ := m_spl hpm hpn hP hD hk1 hFc hP1 hD1
  generalize H1 = H at hP hS ⊢
  refine W.eq (g2 := F0 m 22 ls []) rfl ?_
  refine lv_iconst (v := 0) hx hb dX7_ready_22 (by decide) ?_
  refine lv_istore_n (lv' := [(2, .int 0), (1, .int t3), (0, .ref (Onea_self a))]) hx hb dX7_ready_23 rfl hl (by decide) rfl (fun ls hl => ?_)
  have hL24 : ∀ (n : Nat) (y2_24 : Int32) (wy_24 : OneV) (H : Heap) (locs : List Loc) (ls : Array Slot), lp_X7_ready_24 le (Lessona_self e) t3 n y2_24 wy_24 = some t → va_P E.1 vwCl (One_c E a wy_24) H → va_D A (One_c E a wy_24) → va_S A s.heap H locs → lv_has ls 3 [(0, .ref (Onea_self a)), (1, .int t3), (2, .int y2_24)] → W p l e_ rmX7_ready s m args below meth c H locs 0 0 Q (F0 m 24 ls []) := by
    intro n
    induction n with
    | zero =>
      intro y2_24 wy_24 H locs ls hF
      exact nomatch (show (none : Option (Int32 × OneV)) = some t from hF)
    | succ n ih24 =>
      intro y2_24 wy_24 H locs ls hF hP hD hS hl
      have hF : st_X7_ready_24 le (Lessona_self e) t3 (lp_X7_ready_24 le (Lessona_self e) t3 n) y2_24 wy_24 = some t := hF
      unfold st_X7_ready_24 at hF
      refine lv_iload_n hx hb dX7_ready_24 rfl (lv_at hl 2 rfl) ?_
      refine lv_bipush (v := 60) hx hb dX7_ready_25 (by decide) ?_
      refine lv_icmp_gt (tgt := 60) hx hb dX7_ready_27 (by decide) (fun c6 => ?_) (fun c6 => ?_)
      · have hF := m_pos c6 hF
        refine lv_bipush (v := (-5)) hx hb dX7_ready_60 (by decide) ?_
        have hF := Option.some.inj hF
        subst hF
        rw [hQ]
        exact W.iret hx hb hr (fun t ht _ => ⟨⟨rfl, by rw [ht]; exact hP, hD⟩, hS.F ht⟩) hS.2.2 dX7_ready_62
      · have hF := m_neg c6 hF
        refine lv_aload_n hx hb dX7_ready_30 rfl (lv_at hl 0 rfl) ?_
        refine va_get (D := E.1) (ci := 7) (v := .ref (Forecasta_self (Onea_forecast a))) (C := RX7) (T := TX7) (N := 5) hx hb hts k1 hown hK hP 0 rfl rfl 3 (by decide) k2 (fun _ h9 => h9) rfl dX7_ready_31 ?_
        refine va_getN (D := E.1) (ci := 1) (v := .ref (Groupa_self (Forecasta_trial (Onea_forecast a)))) (C := RX1) (T := TX1) (N := 3) hx hb hts k4 hown hK hP 43 rfl rfl 0 (by decide) k3 (fun _ h9 => h9) rfl dX7_ready_34 ?_
        refine va_getN (D := E.1) (ci := 2) (v := .int (Group_work (Forecast_trial (One_forecast wy_24)))) (C := RX2) (T := TX2) (N := 11) hx hb hts k6 hown hK hP 44 rfl rfl 2 (by decide) k5 (fun _ h9 => h9) rfl dX7_ready_37 ?_
        refine lv_iload_n hx hb dX7_ready_40 rfl (lv_at hl 1 rfl) ?_
        refine lv_icmp_lt (tgt := 46) hx hb dX7_ready_41 (by decide) (fun c7 => ?_) (fun c7 => ?_)
        · have hF := m_pos c7 hF
          refine lv_aload_n hx hb dX7_ready_46 rfl (lv_at hl 0 rfl) ?_
          refine va_get (D := E.1) (ci := 7) (v := .ref (Forecasta_self (Onea_forecast a))) (C := RX7) (T := TX7) (N := 5) hx hb hts k1 hown hK hP 0 rfl rfl 3 (by decide) k2 (fun _ h9 => h9) rfl dX7_ready_47 ?_
          refine lv_iconst (v := 1) hx hb dX7_ready_50 (by decide) ?_
          obtain ⟨t8, ht8, hF⟩ := m_bnd hF
          have hpm : List.Perm (One_c E a wy_24) ((Forecast_c E (Onea_forecast a) (One_forecast wy_24)) ++ ((List.take 43 (One_c E a wy_24)) ++ (List.drop 62 (One_c E a wy_24)))) := m_p1 (A := (List.take 43 (One_c E a wy_24))) (m := (Forecast_c E (Onea_forecast a) (One_forecast wy_24))) (C := (List.drop 62 (One_c E a wy_24)))
          obtain ⟨hPc, hDc, hFc⟩ := m_pre hpm hP hD hS hA
          have hp9 := (m_ro hR0 hRA hS).sub (ws' := Lesson_c E e le) [0, 1, 2, 3] rfl
          have ha10 := m_roA (wr := Lesson_c E e le) hRA hFc [0, 1, 2, 3] rfl
          refine mVM (ci := 1) (n := 1) (rest := []) (As := [.int 1]) CC hKN hGl (c_X1_go l E (Onea_forecast a) (One_forecast wy_24) e le 1 t8 ht8 _) gX7_ready_X1_go rfl ⟨rfl, rfl⟩ (by decide +kernel) ⟨Nat.le_of_ble_eq_true rfl, Nat.le_of_ble_eq_true rfl⟩ hPc hDc hp9 ha10 hS hFc rfl rfl rfl rfl hl.1 rfl (Nat.le_of_ble_eq_true rfl) ⟨Nat.zero_le _, Nat.zero_le _⟩ dX7_ready_51 (fun H1 locs hP1 hD1 hz1 hk1 hS => ?_)
          have hpn : List.Perm (One_c E a (One_forecast_s wy_24 t8)) ((Forecast_c E (Onea_forecast a) t8) ++ ((List.take 43 (One_c E a wy_24)) ++ (List.drop 62 (One_c E a wy_24)))) := m_p1 (A := (List.take 43 (One_c E a wy_24))) (m := (Forecast_c E (Onea_forecast a) t8)) (C := (List.drop 62 (One_c E a wy_24)))
          obtain ⟨hP, hD⟩ := m_spl hpm hpn hP hD hk1 hFc hP1 hD1
          generalize H1 = H at hP hS ⊢
          refine W.eq (g2 := F0 m 54 ls []) rfl ?_
          refine lv_iinc (v := (y2_24 + 1)) (lv' := [(2, .int (y2_24 + 1)), (0, .ref (Onea_self a)), (1, .int t3)]) hx hb dX7_ready_54 hl (k := 2) rfl rfl (by decide) rfl (fun ls hl => ?_)
          refine lv_goto (tgt := 24) hx hb dX7_ready_57 (by decide) ?_
          exact ih24 (y2_24 + 1) (One_forecast_s wy_24 t8) H locs ls hF hP hD hS (lv_sub hl [1, 2, 0] rfl)
        · have hF := m_neg c7 hF
          refine lv_iload_n hx hb dX7_ready_44 rfl (lv_at hl 2 rfl) ?_
          have hF := Option.some.inj hF
          subst hF
          rw [hQ]
          exact W.iret hx hb hr (fun t ht _ => ⟨⟨rfl, by rw [ht]; exact hP, hD⟩, hS.F ht⟩) hS.2.2 dX7_ready_45
  exact hL24 m_N 0 (One_forecast_s v t5) H locs ls hF hP hD hS (lv_sub hl [2, 1, 0] rfl)

