abbrev rmX8_zealOf : Room := { frames := 2, cells := 0, slots := 0, locals := 52 }
set_option maxRecDepth 100000 in
set_option maxHeartbeats 400000 in
theorem c_X8_zealOf (l : Launch) (E : mE) (a : ModelA) (v : ModelV) (x0 : Int32) (t : (Int32 × ModelV)) (hF : fn_X8_zealOf v x0 = some t) (sz : Nat) : Met l yX8_zealOf wsX8_zealOf rmX8_zealOf (mPm E [.ref (Modela_self a), .int x0] sz ((Model_c E a v)) (([] : va_W))) (mSm E (some (.int t.1)) ((Model_c E a t.2)) (va_A ((Model_c E a v)) sz)) 0 0 (va_A ((Model_c E a v)) sz) := by
  refine mOfM (cc := cX8_zealOf) (maxL := 3) (ret := (some .int)) (by decide) rfl (Nat.le_of_ble_eq_true rfl) ?_
  intro p e_ s m args below meth c Q A hQ CC hr hlocks hin hA hP hD hKN hGl hR0 hRA ls hl
  have hS : va_S A s.heap s.heap [] := va_S.rf
  have hK := hKN.1
  have hx := CC.1
  have hb := CC.2.1
  have hml := CC.2.2.1
  have hown : s.vm.findClass RX8 = some m.cls := CC.2.2.2.1
  have hts := CC.2.2.2.2
  have hl : lv_has ls 3 [(0, .ref (Modela_self a)), (1, .int x0)] := hl
  have hP : va_P E.1 vwCl (Model_c E a v) s.heap := hP
  obtain ⟨H, hH⟩ : ∃ H, H = s.heap := ⟨_, rfl⟩
  obtain ⟨locs, hlc⟩ : ∃ z : List Loc, z = [] := ⟨_, rfl⟩
  rw [← hH] at hP
  rw [← hlc] at hS
  have hS : va_S A s.heap H locs := by rw [hH]; exact hS
  rw [← hH, ← hlc]
  unfold fn_X8_zealOf at hF
  refine lv_iconst (v := 5) hx hb dX8_zealOf_0 (by decide) ?_
  refine lv_aload_n hx hb dX8_zealOf_1 rfl (lv_at hl 0 rfl) ?_
  refine lv_iload_n hx hb dX8_zealOf_2 rfl (lv_at hl 1 rfl) ?_
  obtain ⟨t1, ht1, hF⟩ := m_bnd hF
  have hPc := hP
  have hDc := hD
  have hFc := va_free (wc := (Model_c E a v)) hD hS hA [0, 1, 2, 3, 4, 5, 6, 7] rfl
  refine mVM (ci := 8) (n := 1) (rest := [.int 5]) (As := [.int x0]) CC hKN hGl (c_X8_looks l E a v x0 t1 ht1 _) gX8_zealOf_X8_looks rfl ⟨rfl, rfl⟩ (by decide +kernel) ⟨Nat.le_of_ble_eq_true rfl, Nat.le_of_ble_eq_true rfl⟩ hPc hDc m_nil m_nilA hS hFc rfl rfl rfl rfl hl.1 rfl (Nat.le_of_ble_eq_true rfl) ⟨Nat.zero_le _, Nat.zero_le _⟩ dX8_zealOf_3 (fun H1 locs hP1 hD1 hz1 hk1 hS => ?_)
  have hP : va_P E.1 vwCl (Model_c E a t1.2) H1 := hP1
  have hD : va_D A (Model_c E a t1.2) := m_back hD1 hFc
  generalize H1 = H at hP hS ⊢
  refine W.eq (g2 := F0 m 6 ls [.int t1.1, .int 5]) rfl ?_
  refine lv_iadd hx hb dX8_zealOf_6 ?_
  refine lv_istore_n (lv' := [(2, .int (5 + t1.1)), (0, .ref (Modela_self a)), (1, .int x0)]) hx hb dX8_zealOf_7 rfl hl (by decide) rfl (fun ls hl => ?_)
  refine lv_iload_n hx hb dX8_zealOf_8 rfl (lv_at hl 0 rfl) ?_
  refine lv_if_ge (tgt := 16) hx hb dX8_zealOf_9 (by decide) (fun c2 => ?_) (fun c2 => ?_)
  · have hF := m_pos c2 hF
    refine lv_iload_n hx hb dX8_zealOf_16 rfl (lv_at hl 0 rfl) ?_
    have hF := Option.some.inj hF
    subst hF
    rw [hQ]
    exact W.iret hx hb hr (fun t ht _ => ⟨⟨rfl, by rw [ht]; exact hP, hD⟩, hS.F ht⟩) hS.2.2 dX8_zealOf_17
  · have hF := m_neg c2 hF
    refine lv_iconst (v := 0) hx hb dX8_zealOf_12 (by decide) ?_
    refine lv_goto (tgt := 17) hx hb dX8_zealOf_13 (by decide) ?_
    have hF := Option.some.inj hF
    subst hF
    rw [hQ]
    exact W.iret hx hb hr (fun t ht _ => ⟨⟨rfl, by rw [ht]; exact hP, hD⟩, hS.F ht⟩) hS.2.2 dX8_zealOf_17

abbrev rmX8_manyIn : Room := { frames := 0, cells := 0, slots := 0, locals := 0 }
set_option maxRecDepth 100000 in
set_option maxHeartbeats 400000 in
theorem c_X8_manyIn (l : Launch) (E : mE) (a : ModelA) (v : ModelV) (t : Int32) (hF : fn_X8_manyIn v = some t) : Met l yX8_manyIn wsX8_manyIn rmX8_manyIn (mPp E [.ref (Modela_self a)] (Model_c E a v)) (mSp (some (.int t))) 0 0 (fun _ => False) := by
  refine mOfP (cc := cX8_manyIn) (maxL := 3) (ret := (some .int)) (by decide) rfl (Nat.le_of_ble_eq_true rfl) ?_
  intro p e_ s m args below meth c Q hQ CC hr hlocks hP hKN hGl ls hl
  have hS : va_S (fun _ => False) s.heap s.heap [] := va_S.rf
  have hK := hKN.1
  have hx := CC.1
  have hb := CC.2.1
  have hml := CC.2.2.1
  have hown : s.vm.findClass RX8 = some m.cls := CC.2.2.2.1
  have hts := CC.2.2.2.2
  have hl : lv_has ls 3 [(0, .ref (Modela_self a))] := hl
  have k0 := hts (.fieldLink RX8 9 "OneDidAllModel" "s" "[I") (by decide +kernel)
  have k1 := (show ∀ w ∈ u_ws RX8 TX8 20, w ∈ wsX8_manyIn by decide +kernel)
  unfold fn_X8_manyIn at hF
  refine lv_iconst (v := 0) hx hb dX8_manyIn_0 (by decide) ?_
  refine lv_istore_n (lv' := [(1, .int 0), (0, .ref (Modela_self a))]) hx hb dX8_manyIn_1 rfl hl (by decide) rfl (fun ls hl => ?_)
  refine lv_iconst (v := 0) hx hb dX8_manyIn_2 (by decide) ?_
  refine lv_istore_n (lv' := [(2, .int 0), (1, .int 0), (0, .ref (Modela_self a))]) hx hb dX8_manyIn_3 rfl hl (by decide) rfl (fun ls hl => ?_)
  have hL4 : ∀ (n : Nat) (y1_4 : Int32) (y2_4 : Int32) (ls : Array Slot), lp_X8_manyIn_4 v n y1_4 y2_4 = some t → lv_has ls 3 [(0, .ref (Modela_self a)), (1, .int y1_4), (2, .int y2_4)] → W p l e_ rmX8_manyIn s m args below meth c s.heap [] 0 0 Q (F0 m 4 ls []) := by
    intro n
    induction n with
    | zero =>
      intro y1_4 y2_4 ls hF
      exact nomatch (show (none : Option Int32) = some t from hF)
    | succ n ih4 =>
      intro y1_4 y2_4 ls hF hl
      have hF : st_X8_manyIn_4 v (lp_X8_manyIn_4 v n) y1_4 y2_4 = some t := hF
      unfold st_X8_manyIn_4 at hF
      refine lv_iload_n hx hb dX8_manyIn_4 rfl (lv_at hl 2 rfl) ?_
      refine lv_aload_n hx hb dX8_manyIn_5 rfl (lv_at hl 0 rfl) ?_
      refine va_get (D := E.1) (ci := 8) (v := .ref (Modela_s a)) (C := RX8) (T := TX8) (N := 20) hx hb hts k1 hown hK hP 0 rfl rfl 1 (by decide) k0 (fun _ h9 => h9) rfl dX8_manyIn_6 ?_
      refine lv_bipush (v := 20) hx hb dX8_manyIn_9 (by decide) ?_
      obtain ⟨h1, hF⟩ := m_chk hF
      refine va_iald (f := (Model_s v)) hx hb hK hP 1 1 rfl rfl (mIn_ok h1) dX8_manyIn_11 ?_
      refine W.eq (g2 := F0 m 12 ls [.int ((Model_s v) (20 : Int32).toNatClampNeg), .int y2_4]) rfl ?_
      refine lv_icmp_ge (tgt := 41) hx hb dX8_manyIn_12 (by decide) (fun c2 => ?_) (fun c2 => ?_)
      · have hF := m_pos c2 hF
        refine lv_iload_n hx hb dX8_manyIn_41 rfl (lv_at hl 1 rfl) ?_
        have hF := Option.some.inj hF
        subst hF
        rw [hQ]
        exact W.iret hx hb hr (fun t ht _ => ⟨rfl, ht⟩) (fun _ h => by cases h) dX8_manyIn_42
      · have hF := m_neg c2 hF
        refine lv_iload_n hx hb dX8_manyIn_15 rfl (lv_at hl 1 rfl) ?_
        refine lv_aload_n hx hb dX8_manyIn_16 rfl (lv_at hl 0 rfl) ?_
        refine va_get (D := E.1) (ci := 8) (v := .ref (Modela_s a)) (C := RX8) (T := TX8) (N := 20) hx hb hts k1 hown hK hP 0 rfl rfl 1 (by decide) k0 (fun _ h9 => h9) rfl dX8_manyIn_17 ?_
        refine lv_bipush (v := 14) hx hb dX8_manyIn_20 (by decide) ?_
        refine lv_iload_n hx hb dX8_manyIn_22 rfl (lv_at hl 2 rfl) ?_
        refine lv_iadd hx hb dX8_manyIn_23 ?_
        obtain ⟨h3, hF⟩ := m_chk hF
        refine va_iald (f := (Model_s v)) hx hb hK hP 1 1 rfl rfl (mIn_ok h3) dX8_manyIn_24 ?_
        refine W.eq (g2 := F0 m 25 ls [.int ((Model_s v) ((14 + y2_4)).toNatClampNeg), .int y1_4]) rfl ?_
        obtain ⟨j33, hjd33, hF⟩ := m_jp hF
        have hj33 : ∀ (z0_33 : Int32) (ls : Array Slot), j33 z0_33 = some t → lv_has ls 3 [(0, .ref (Modela_self a)), (2, .int y2_4)] → W p l e_ rmX8_manyIn s m args below meth c s.heap [] 0 0 Q (F0 m 33 ls [.int z0_33, .int y1_4]) := by
          intro z0_33 ls hF hl
          rw [hjd33] at hF
          refine lv_iadd hx hb dX8_manyIn_33 ?_
          refine lv_istore_n (lv' := [(1, .int (y1_4 + z0_33)), (0, .ref (Modela_self a)), (2, .int y2_4)]) hx hb dX8_manyIn_34 rfl hl (by decide) rfl (fun ls hl => ?_)
          refine lv_iinc (v := (y2_4 + 1)) (lv' := [(2, .int (y2_4 + 1)), (1, .int (y1_4 + z0_33)), (0, .ref (Modela_self a))]) hx hb dX8_manyIn_35 hl (k := 2) rfl rfl (by decide) rfl (fun ls hl => ?_)
          refine lv_goto (tgt := 4) hx hb dX8_manyIn_38 (by decide) ?_
          exact ih4 (y1_4 + z0_33) (y2_4 + 1) ls hF (lv_sub hl [2, 1, 0] rfl)
        clear hjd33
        refine lv_if_ne (tgt := 32) hx hb dX8_manyIn_25 (by decide) (fun c4 => ?_) (fun c4 => ?_)
        · have hF := m_pos c4 hF
          refine lv_iconst (v := 0) hx hb dX8_manyIn_32 (by decide) ?_
          exact hj33 0 ls hF (lv_sub hl [0, 2] rfl)
        · have hF := m_neg (fun n9 => n9 c4) hF
          refine lv_iconst (v := 1) hx hb dX8_manyIn_28 (by decide) ?_
          refine lv_goto (tgt := 33) hx hb dX8_manyIn_29 (by decide) ?_
          exact hj33 1 ls hF (lv_sub hl [0, 2] rfl)
  exact hL4 m_N 0 0 ls hF (lv_sub hl [2, 1, 0] rfl)

abbrev rmX8_moreSkilled : Room := { frames := 0, cells := 0, slots := 0, locals := 0 }
set_option maxRecDepth 100000 in
set_option maxHeartbeats 400000 in
theorem c_X8_moreSkilled (l : Launch) (E : mE) (a : ModelA) (v : ModelV) (x0 : Int32) (t : Int32) (hF : fn_X8_moreSkilled v x0 = some t) : Met l yX8_moreSkilled wsX8_moreSkilled rmX8_moreSkilled (mPp E [.ref (Modela_self a), .int x0] (Model_c E a v)) (mSp (some (.int t))) 0 0 (fun _ => False) := by
  refine mOfP (cc := cX8_moreSkilled) (maxL := 4) (ret := (some .int)) (by decide) rfl (Nat.le_of_ble_eq_true rfl) ?_
  intro p e_ s m args below meth c Q hQ CC hr hlocks hP hKN hGl ls hl
  have hS : va_S (fun _ => False) s.heap s.heap [] := va_S.rf
  have hK := hKN.1
  have hx := CC.1
  have hb := CC.2.1
  have hml := CC.2.2.1
  have hown : s.vm.findClass RX8 = some m.cls := CC.2.2.2.1
  have hts := CC.2.2.2.2
  have hl : lv_has ls 4 [(0, .ref (Modela_self a)), (1, .int x0)] := hl
  have k0 := hts (.fieldLink RX8 9 "OneDidAllModel" "s" "[I") (by decide +kernel)
  have k1 := (show ∀ w ∈ u_ws RX8 TX8 20, w ∈ wsX8_moreSkilled by decide +kernel)
  unfold fn_X8_moreSkilled at hF
  refine lv_iconst (v := 0) hx hb dX8_moreSkilled_0 (by decide) ?_
  refine lv_istore_n (lv' := [(2, .int 0), (0, .ref (Modela_self a)), (1, .int x0)]) hx hb dX8_moreSkilled_1 rfl hl (by decide) rfl (fun ls hl => ?_)
  refine lv_iconst (v := 0) hx hb dX8_moreSkilled_2 (by decide) ?_
  refine lv_istore_n (lv' := [(3, .int 0), (2, .int 0), (0, .ref (Modela_self a)), (1, .int x0)]) hx hb dX8_moreSkilled_3 rfl hl (by decide) rfl (fun ls hl => ?_)
  have hL4 : ∀ (n : Nat) (y2_4 : Int32) (y3_4 : Int32) (ls : Array Slot), lp_X8_moreSkilled_4 v x0 n y2_4 y3_4 = some t → lv_has ls 4 [(0, .ref (Modela_self a)), (1, .int x0), (2, .int y2_4), (3, .int y3_4)] → W p l e_ rmX8_moreSkilled s m args below meth c s.heap [] 0 0 Q (F0 m 4 ls []) := by
    intro n
    induction n with
    | zero =>
      intro y2_4 y3_4 ls hF
      exact nomatch (show (none : Option Int32) = some t from hF)
    | succ n ih4 =>
      intro y2_4 y3_4 ls hF hl
      have hF : st_X8_moreSkilled_4 v x0 (lp_X8_moreSkilled_4 v x0 n) y2_4 y3_4 = some t := hF
      unfold st_X8_moreSkilled_4 at hF
      refine lv_iload_n hx hb dX8_moreSkilled_4 rfl (lv_at hl 3 rfl) ?_
      refine lv_aload_n hx hb dX8_moreSkilled_5 rfl (lv_at hl 0 rfl) ?_
      refine va_get (D := E.1) (ci := 8) (v := .ref (Modela_s a)) (C := RX8) (T := TX8) (N := 20) hx hb hts k1 hown hK hP 0 rfl rfl 1 (by decide) k0 (fun _ h9 => h9) rfl dX8_moreSkilled_6 ?_
      refine lv_bipush (v := 20) hx hb dX8_moreSkilled_9 (by decide) ?_
      obtain ⟨h1, hF⟩ := m_chk hF
      refine va_iald (f := (Model_s v)) hx hb hK hP 1 1 rfl rfl (mIn_ok h1) dX8_moreSkilled_11 ?_
      refine W.eq (g2 := F0 m 12 ls [.int ((Model_s v) (20 : Int32).toNatClampNeg), .int y3_4]) rfl ?_
      refine lv_icmp_ge (tgt := 67) hx hb dX8_moreSkilled_12 (by decide) (fun c2 => ?_) (fun c2 => ?_)
      · have hF := m_pos c2 hF
        refine lv_iload_n hx hb dX8_moreSkilled_67 rfl (lv_at hl 2 rfl) ?_
        have hF := Option.some.inj hF
        subst hF
        rw [hQ]
        exact W.iret hx hb hr (fun t ht _ => ⟨rfl, ht⟩) (fun _ h => by cases h) dX8_moreSkilled_68
      · have hF := m_neg c2 hF
        refine lv_iload_n hx hb dX8_moreSkilled_15 rfl (lv_at hl 2 rfl) ?_
        refine lv_iload_n hx hb dX8_moreSkilled_16 rfl (lv_at hl 3 rfl) ?_
        refine lv_iload_n hx hb dX8_moreSkilled_17 rfl (lv_at hl 1 rfl) ?_
        obtain ⟨j59, hjd59, hF⟩ := m_jp hF
        have hj59 : ∀ (z0_59 : Int32) (ls : Array Slot), j59 z0_59 = some t → lv_has ls 4 [(0, .ref (Modela_self a)), (1, .int x0), (3, .int y3_4)] → W p l e_ rmX8_moreSkilled s m args below meth c s.heap [] 0 0 Q (F0 m 59 ls [.int z0_59, .int y2_4]) := by
          intro z0_59 ls hF hl
          rw [hjd59] at hF
          refine lv_iadd hx hb dX8_moreSkilled_59 ?_
          refine lv_istore_n (lv' := [(2, .int (y2_4 + z0_59)), (0, .ref (Modela_self a)), (1, .int x0), (3, .int y3_4)]) hx hb dX8_moreSkilled_60 rfl hl (by decide) rfl (fun ls hl => ?_)
          refine lv_iinc (v := (y3_4 + 1)) (lv' := [(3, .int (y3_4 + 1)), (2, .int (y2_4 + z0_59)), (0, .ref (Modela_self a)), (1, .int x0)]) hx hb dX8_moreSkilled_61 hl (k := 3) rfl rfl (by decide) rfl (fun ls hl => ?_)
          refine lv_goto (tgt := 4) hx hb dX8_moreSkilled_64 (by decide) ?_
          exact ih4 (y2_4 + z0_59) (y3_4 + 1) ls hF (lv_sub hl [2, 3, 1, 0] rfl)
        clear hjd59
        obtain ⟨j58, hjd58, hF⟩ := m_jp hF
        have hj58 : ∀ (ls : Array Slot), j58 () = some t → lv_has ls 4 [(0, .ref (Modela_self a)), (1, .int x0), (3, .int y3_4)] → W p l e_ rmX8_moreSkilled s m args below meth c s.heap [] 0 0 Q (F0 m 58 ls [.int y2_4]) := by
          intro ls hF hl
          rw [hjd58] at hF
          refine lv_iconst (v := 0) hx hb dX8_moreSkilled_58 (by decide) ?_
          exact hj59 0 ls hF (lv_sub hl [0, 1, 2] rfl)
        clear hjd58
        refine lv_icmp_eq (tgt := 58) hx hb dX8_moreSkilled_18 (by decide) (fun c3 => ?_) (fun c3 => ?_)
        · have hF := m_pos c3 hF
          exact hj58 ls hF (lv_sub hl [0, 1, 3] rfl)
        · have hF := m_neg c3 hF
          refine lv_aload_n hx hb dX8_moreSkilled_21 rfl (lv_at hl 0 rfl) ?_
          refine va_get (D := E.1) (ci := 8) (v := .ref (Modela_s a)) (C := RX8) (T := TX8) (N := 20) hx hb hts k1 hown hK hP 0 rfl rfl 1 (by decide) k0 (fun _ h9 => h9) rfl dX8_moreSkilled_22 ?_
          refine lv_bipush (v := 14) hx hb dX8_moreSkilled_25 (by decide) ?_
          refine lv_iload_n hx hb dX8_moreSkilled_27 rfl (lv_at hl 3 rfl) ?_
          refine lv_iadd hx hb dX8_moreSkilled_28 ?_
          obtain ⟨h4, hF⟩ := m_chk hF
          refine va_iald (f := (Model_s v)) hx hb hK hP 1 1 rfl rfl (mIn_ok h4) dX8_moreSkilled_29 ?_
          refine W.eq (g2 := F0 m 30 ls [.int ((Model_s v) ((14 + y3_4)).toNatClampNeg), .int y2_4]) rfl ?_
          refine lv_if_ne (tgt := 58) hx hb dX8_moreSkilled_30 (by decide) (fun c5 => ?_) (fun c5 => ?_)
          · have hF := m_pos c5 hF
            exact hj58 ls hF (lv_sub hl [0, 1, 3] rfl)
          · have hF := m_neg (fun n9 => n9 c5) hF
            refine lv_aload_n hx hb dX8_moreSkilled_33 rfl (lv_at hl 0 rfl) ?_
            refine va_get (D := E.1) (ci := 8) (v := .ref (Modela_s a)) (C := RX8) (T := TX8) (N := 20) hx hb hts k1 hown hK hP 0 rfl rfl 1 (by decide) k0 (fun _ h9 => h9) rfl dX8_moreSkilled_34 ?_
            refine lv_bipush (v := 39) hx hb dX8_moreSkilled_37 (by decide) ?_
            refine lv_iload_n hx hb dX8_moreSkilled_39 rfl (lv_at hl 3 rfl) ?_
            refine lv_iadd hx hb dX8_moreSkilled_40 ?_
            obtain ⟨h6, hF⟩ := m_chk hF
            refine va_iald (f := (Model_s v)) hx hb hK hP 1 1 rfl rfl (mIn_ok h6) dX8_moreSkilled_41 ?_
            refine W.eq (g2 := F0 m 42 ls [.int ((Model_s v) ((39 + y3_4)).toNatClampNeg), .int y2_4]) rfl ?_
            refine lv_aload_n hx hb dX8_moreSkilled_42 rfl (lv_at hl 0 rfl) ?_
            refine va_get (D := E.1) (ci := 8) (v := .ref (Modela_s a)) (C := RX8) (T := TX8) (N := 20) hx hb hts k1 hown hK hP 0 rfl rfl 1 (by decide) k0 (fun _ h9 => h9) rfl dX8_moreSkilled_43 ?_
            refine lv_bipush (v := 39) hx hb dX8_moreSkilled_46 (by decide) ?_
            refine lv_iload_n hx hb dX8_moreSkilled_48 rfl (lv_at hl 1 rfl) ?_
            refine lv_iadd hx hb dX8_moreSkilled_49 ?_
            obtain ⟨h7, hF⟩ := m_chk hF
            refine va_iald (f := (Model_s v)) hx hb hK hP 1 1 rfl rfl (mIn_ok h7) dX8_moreSkilled_50 ?_
            refine W.eq (g2 := F0 m 51 ls [.int ((Model_s v) ((39 + x0)).toNatClampNeg), .int ((Model_s v) ((39 + y3_4)).toNatClampNeg), .int y2_4]) rfl ?_
            refine lv_icmp_le (tgt := 58) hx hb dX8_moreSkilled_51 (by decide) (fun c8 => ?_) (fun c8 => ?_)
            · have hF := m_pos c8 hF
              exact hj58 ls hF (lv_sub hl [0, 1, 3] rfl)
            · have hF := m_neg c8 hF
              refine lv_iconst (v := 1) hx hb dX8_moreSkilled_54 (by decide) ?_
              refine lv_goto (tgt := 59) hx hb dX8_moreSkilled_55 (by decide) ?_
              exact hj59 1 ls hF (lv_sub hl [0, 1, 3] rfl)
  exact hL4 m_N 0 0 ls hF (lv_sub hl [2, 3, 1, 0] rfl)

abbrev rmX8_doesOf : Room := { frames := 3, cells := 0, slots := 0, locals := 74 }
set_option maxRecDepth 100000 in
set_option maxHeartbeats 400000 in
theorem c_X8_doesOf (l : Launch) (E : mE) (a : ModelA) (v : ModelV) (x0 : Int32) (t : (Int32 × ModelV)) (hF : fn_X8_doesOf v x0 = some t) (sz : Nat) : Met l yX8_doesOf wsX8_doesOf rmX8_doesOf (mPm E [.ref (Modela_self a), .int x0] sz ((Model_c E a v)) (([] : va_W))) (mSm E (some (.int t.1)) ((Model_c E a t.2)) (va_A ((Model_c E a v)) sz)) 0 0 (va_A ((Model_c E a v)) sz) := by
  refine mOfM (cc := cX8_doesOf) (maxL := 4) (ret := (some .int)) (by decide) rfl (Nat.le_of_ble_eq_true rfl) ?_
  intro p e_ s m args below meth c Q A hQ CC hr hlocks hin hA hP hD hKN hGl hR0 hRA ls hl
  have hS : va_S A s.heap s.heap [] := va_S.rf
  have hK := hKN.1
  have hx := CC.1
  have hb := CC.2.1
  have hml := CC.2.2.1
  have hown : s.vm.findClass RX8 = some m.cls := CC.2.2.2.1
  have hts := CC.2.2.2.2
  have hl : lv_has ls 4 [(0, .ref (Modela_self a)), (1, .int x0)] := hl
  have k0 := hts (.fieldLink RX8 9 "OneDidAllModel" "s" "[I") (by decide +kernel)
  have k1 := (show ∀ w ∈ u_ws RX8 TX8 20, w ∈ wsX8_doesOf by decide +kernel)
  have hP : va_P E.1 vwCl (Model_c E a v) s.heap := hP
  obtain ⟨H, hH⟩ : ∃ H, H = s.heap := ⟨_, rfl⟩
  obtain ⟨locs, hlc⟩ : ∃ z : List Loc, z = [] := ⟨_, rfl⟩
  rw [← hH] at hP
  rw [← hlc] at hS
  have hS : va_S A s.heap H locs := by rw [hH]; exact hS
  rw [← hH, ← hlc]
  unfold fn_X8_doesOf at hF
  refine lv_aload_n hx hb dX8_doesOf_0 rfl (lv_at hl 0 rfl) ?_
  refine va_get (D := E.1) (ci := 8) (v := .ref (Modela_s a)) (C := RX8) (T := TX8) (N := 20) hx hb hts k1 hown hK hP 0 rfl rfl 1 (by decide) k0 (fun _ h9 => h9) rfl dX8_doesOf_1 ?_
  refine lv_bipush (v := 14) hx hb dX8_doesOf_4 (by decide) ?_
  refine lv_iload_n hx hb dX8_doesOf_6 rfl (lv_at hl 1 rfl) ?_
  refine lv_iadd hx hb dX8_doesOf_7 ?_
  obtain ⟨h1, hF⟩ := m_chk hF
  refine va_iald (f := (Model_s v)) hx hb hK hP 1 1 rfl rfl (mIn_ok h1) dX8_doesOf_8 ?_
  refine W.eq (g2 := F0 m 9 ls [.int ((Model_s v) ((14 + x0)).toNatClampNeg)]) rfl ?_
  refine lv_iconst (v := 1) hx hb dX8_doesOf_9 (by decide) ?_
  refine lv_icmp_ne (tgt := 15) hx hb dX8_doesOf_10 (by decide) (fun c2 => ?_) (fun c2 => ?_)
  · have hF := m_pos c2 hF
    refine lv_aload_n hx hb dX8_doesOf_15 rfl (lv_at hl 0 rfl) ?_
    refine lv_iload_n hx hb dX8_doesOf_16 rfl (lv_at hl 1 rfl) ?_
    obtain ⟨t3, ht3, hF⟩ := m_bnd hF
    have hPc := hP
    have hDc := hD
    have hFc := va_free (wc := (Model_c E a v)) hD hS hA [0, 1, 2, 3, 4, 5, 6, 7] rfl
    refine mVM (ci := 8) (n := 1) (rest := []) (As := [.int x0]) CC hKN hGl (c_X8_zealOf l E a v x0 t3 ht3 _) gX8_doesOf_X8_zealOf rfl ⟨rfl, rfl⟩ (by decide +kernel) ⟨Nat.le_of_ble_eq_true rfl, Nat.le_of_ble_eq_true rfl⟩ hPc hDc m_nil m_nilA hS hFc rfl rfl rfl rfl hl.1 rfl (Nat.le_of_ble_eq_true rfl) ⟨Nat.zero_le _, Nat.zero_le _⟩ dX8_doesOf_17 (fun H1 locs hP1 hD1 hz1 hk1 hS => ?_)
    have hP : va_P E.1 vwCl (Model_c E a t3.2) H1 := hP1
    have hD : va_D A (Model_c E a t3.2) := m_back hD1 hFc
    generalize H1 = H at hP hS ⊢
    refine W.eq (g2 := F0 m 20 ls [.int t3.1]) rfl ?_
    refine lv_istore_n (lv' := [(2, .int t3.1), (0, .ref (Modela_self a)), (1, .int x0)]) hx hb dX8_doesOf_20 rfl hl (by decide) rfl (fun ls hl => ?_)
    refine lv_iload_n hx hb dX8_doesOf_21 rfl (lv_at hl 0 rfl) ?_
    refine lv_istore_n (lv' := [(3, .int t3.1), (2, .int t3.1), (0, .ref (Modela_self a)), (1, .int x0)]) hx hb dX8_doesOf_22 rfl hl (by decide) rfl (fun ls hl => ?_)
    refine lv_aload_n hx hb dX8_doesOf_23 rfl (lv_at hl 2 rfl) ?_
    refine va_get (D := E.1) (ci := 8) (v := .ref (Modela_s a)) (C := RX8) (T := TX8) (N := 20) hx hb hts k1 hown hK hP 0 rfl rfl 1 (by decide) k0 (fun _ h9 => h9) rfl dX8_doesOf_24 ?_
    refine lv_bipush (v := 27) hx hb dX8_doesOf_27 (by decide) ?_
    refine lv_iload_n hx hb dX8_doesOf_29 rfl (lv_at hl 3 rfl) ?_
    refine lv_iadd hx hb dX8_doesOf_30 ?_
    obtain ⟨h4, hF⟩ := m_chk hF
    refine va_iald (f := (Model_s t3.2)) hx hb hK hP 1 1 rfl rfl (mIn_ok h4) dX8_doesOf_31 ?_
    refine W.eq (g2 := F0 m 32 ls [.int ((Model_s t3.2) ((27 + x0)).toNatClampNeg)]) rfl ?_
    obtain ⟨j165, hjd165, hF⟩ := m_jp hF
    have hj165 : ∀ (x3_165 : Int32) (H : Heap) (locs : List Loc) (ls : Array Slot), j165 x3_165 = some t → va_P E.1 vwCl (Model_c E a t3.2) H → va_D A (Model_c E a t3.2) → va_S A s.heap H locs → lv_has ls 4 [(0, .ref (Modela_self a)), (1, .int x0), (3, .int x3_165)] → W p l e_ rmX8_doesOf s m args below meth c H locs 0 0 Q (F0 m 165 ls []) := by
      intro x3_165 H locs ls hF hP hD hS hl
      rw [hjd165] at hF
      refine lv_iload_n hx hb dX8_doesOf_165 rfl (lv_at hl 2 rfl) ?_
      refine lv_iconst (v := 0) hx hb dX8_doesOf_166 (by decide) ?_
      refine lv_aload_n hx hb dX8_doesOf_167 rfl (lv_at hl 0 rfl) ?_
      refine va_get (D := E.1) (ci := 8) (v := .ref (Modela_s a)) (C := RX8) (T := TX8) (N := 20) hx hb hts k1 hown hK hP 0 rfl rfl 1 (by decide) k0 (fun _ h9 => h9) rfl dX8_doesOf_168 ?_
      refine lv_bipush (v := 8) hx hb dX8_doesOf_171 (by decide) ?_
      refine lv_iload_n hx hb dX8_doesOf_173 rfl (lv_at hl 1 rfl) ?_
      refine lv_iadd hx hb dX8_doesOf_174 ?_
      obtain ⟨h5, hF⟩ := m_chk hF
      refine va_iald (f := (Model_s t3.2)) hx hb hK hP 1 1 rfl rfl (mIn_ok h5) dX8_doesOf_175 ?_
      refine W.eq (g2 := F0 m 176 ls [.int ((Model_s t3.2) ((8 + x0)).toNatClampNeg), .int 0, .int x3_165]) rfl ?_
      obtain ⟨t6, ht6, hF⟩ := m_bnd hF
      refine mSP (n := 3) (rest := []) (As := [.int x3_165, .int 0, .int ((Model_s t3.2) ((8 + x0)).toNatClampNeg)]) CC hKN hGl hS (c_X8_within l E x3_165 0 ((Model_s t3.2) ((8 + x0)).toNatClampNeg) t6 ht6) gX8_doesOf_X8_within rfl ⟨rfl, rfl⟩ (by decide +kernel) ⟨Nat.le_of_ble_eq_true rfl, Nat.le_of_ble_eq_true rfl⟩ m_nil rfl hl.1 rfl (Nat.le_of_ble_eq_true rfl) ⟨Nat.zero_le _, Nat.zero_le _⟩ dX8_doesOf_176 ?_
      refine W.eq (g2 := F0 m 179 ls [.int t6]) rfl ?_
      have hF := Option.some.inj hF
      subst hF
      rw [hQ]
      exact W.iret hx hb hr (fun t ht _ => ⟨⟨rfl, by rw [ht]; exact hP, hD⟩, hS.F ht⟩) hS.2.2 dX8_doesOf_179
    clear hjd165
    by_cases c7 : ((Model_s t3.2) ((27 + x0)).toNatClampNeg) = 1
    · have hF := m_pos c7 hF
      refine lv_tableIn (off := 40) (tgt := 72) hx hb dX8_doesOf_32 (by rw [c7]; decide) (by rw [c7]; decide) (by rw [c7]; rfl) (by decide) ?_
      refine lv_iload_n hx hb dX8_doesOf_72 rfl (lv_at hl 1 rfl) ?_
      refine lv_aload_n hx hb dX8_doesOf_73 rfl (lv_at hl 2 rfl) ?_
      refine va_get (D := E.1) (ci := 8) (v := .ref (Modela_s a)) (C := RX8) (T := TX8) (N := 20) hx hb hts k1 hown hK hP 0 rfl rfl 1 (by decide) k0 (fun _ h9 => h9) rfl dX8_doesOf_74 ?_
      refine lv_bipush (v := 33) hx hb dX8_doesOf_77 (by decide) ?_
      refine lv_iload_n hx hb dX8_doesOf_79 rfl (lv_at hl 3 rfl) ?_
      refine lv_iadd hx hb dX8_doesOf_80 ?_
      obtain ⟨h8, hF⟩ := m_chk hF
      refine va_iald (f := (Model_s t3.2)) hx hb hK hP 1 1 rfl rfl (mIn_ok h8) dX8_doesOf_81 ?_
      refine W.eq (g2 := F0 m 82 ls [.int ((Model_s t3.2) ((33 + x0)).toNatClampNeg), .int t3.1]) rfl ?_
      refine lv_iconst (v := 2) hx hb dX8_doesOf_82 (by decide) ?_
      refine lv_idiv hx hb dX8_doesOf_83 (by decide) ?_
      refine lv_iadd hx hb dX8_doesOf_84 ?_
      refine lv_istore_n (lv' := [(3, .int (t3.1 + (((Model_s t3.2) ((33 + x0)).toNatClampNeg) / 2))), (2, .int t3.1), (0, .ref (Modela_self a)), (1, .int x0)]) hx hb dX8_doesOf_85 rfl hl (by decide) rfl (fun ls hl => ?_)
      refine lv_goto (tgt := 165) hx hb dX8_doesOf_86 (by decide) ?_
      exact hj165 (t3.1 + (((Model_s t3.2) ((33 + x0)).toNatClampNeg) / 2)) H locs ls hF hP hD hS (lv_sub hl [2, 3, 0] rfl)
    · have hF := m_neg c7 hF
      by_cases c9 : ((Model_s t3.2) ((27 + x0)).toNatClampNeg) = 2
      · have hF := m_pos c9 hF
        refine lv_tableIn (off := 57) (tgt := 89) hx hb dX8_doesOf_32 (by rw [c9]; decide) (by rw [c9]; decide) (by rw [c9]; rfl) (by decide) ?_
        refine lv_iload_n hx hb dX8_doesOf_89 rfl (lv_at hl 1 rfl) ?_
        refine lv_iconst (v := 2) hx hb dX8_doesOf_90 (by decide) ?_
        refine lv_idiv hx hb dX8_doesOf_91 (by decide) ?_
        refine lv_istore_n (lv' := [(3, .int (t3.1 / 2)), (2, .int t3.1), (0, .ref (Modela_self a)), (1, .int x0)]) hx hb dX8_doesOf_92 rfl hl (by decide) rfl (fun ls hl => ?_)
        refine lv_goto (tgt := 165) hx hb dX8_doesOf_93 (by decide) ?_
        exact hj165 (t3.1 / 2) H locs ls hF hP hD hS (lv_sub hl [2, 3, 0] rfl)
      · have hF := m_neg c9 hF
        by_cases c10 : ((Model_s t3.2) ((27 + x0)).toNatClampNeg) = 3
        · have hF := m_pos c10 hF
          refine lv_tableIn (off := 133) (tgt := 165) hx hb dX8_doesOf_32 (by rw [c10]; decide) (by rw [c10]; decide) (by rw [c10]; rfl) (by decide) ?_
          exact hj165 t3.1 H locs ls hF hP hD hS (lv_sub hl [2, 3, 0] rfl)
        · have hF := m_neg c10 hF
          by_cases c11 : ((Model_s t3.2) ((27 + x0)).toNatClampNeg) = 4
          · have hF := m_pos c11 hF
            refine lv_tableIn (off := 64) (tgt := 96) hx hb dX8_doesOf_32 (by rw [c11]; decide) (by rw [c11]; decide) (by rw [c11]; rfl) (by decide) ?_
            refine lv_iload_n hx hb dX8_doesOf_96 rfl (lv_at hl 1 rfl) ?_
            refine lv_aload_n hx hb dX8_doesOf_97 rfl (lv_at hl 2 rfl) ?_
            refine va_get (D := E.1) (ci := 8) (v := .ref (Modela_s a)) (C := RX8) (T := TX8) (N := 20) hx hb hts k1 hown hK hP 0 rfl rfl 1 (by decide) k0 (fun _ h9 => h9) rfl dX8_doesOf_98 ?_
            refine lv_bipush (v := 33) hx hb dX8_doesOf_101 (by decide) ?_
            refine lv_iload_n hx hb dX8_doesOf_103 rfl (lv_at hl 3 rfl) ?_
            refine lv_iadd hx hb dX8_doesOf_104 ?_
            obtain ⟨h12, hF⟩ := m_chk hF
            refine va_iald (f := (Model_s t3.2)) hx hb hK hP 1 1 rfl rfl (mIn_ok h12) dX8_doesOf_105 ?_
            refine W.eq (g2 := F0 m 106 ls [.int ((Model_s t3.2) ((33 + x0)).toNatClampNeg), .int t3.1]) rfl ?_
            refine lv_iconst (v := 2) hx hb dX8_doesOf_106 (by decide) ?_
            refine lv_idiv hx hb dX8_doesOf_107 (by decide) ?_
            refine lv_iadd hx hb dX8_doesOf_108 ?_
            refine lv_aload_n hx hb dX8_doesOf_109 rfl (lv_at hl 2 rfl) ?_
            refine va_get (D := E.1) (ci := 8) (v := .ref (Modela_s a)) (C := RX8) (T := TX8) (N := 20) hx hb hts k1 hown hK hP 0 rfl rfl 1 (by decide) k0 (fun _ h9 => h9) rfl dX8_doesOf_110 ?_
            refine lv_bipush (v := 20) hx hb dX8_doesOf_113 (by decide) ?_
            obtain ⟨h13, hF⟩ := m_chk hF
            refine va_iald (f := (Model_s t3.2)) hx hb hK hP 1 1 rfl rfl (mIn_ok h13) dX8_doesOf_115 ?_
            refine W.eq (g2 := F0 m 116 ls [.int ((Model_s t3.2) (20 : Int32).toNatClampNeg), .int (t3.1 + (((Model_s t3.2) ((33 + x0)).toNatClampNeg) / 2))]) rfl ?_
            refine lv_iadd hx hb dX8_doesOf_116 ?_
            refine lv_aload_n hx hb dX8_doesOf_117 rfl (lv_at hl 2 rfl) ?_
            obtain ⟨t14, ht14, hF⟩ := m_bnd hF
            refine mVP (ci := 8) (n := 0) (rest := [.int ((t3.1 + (((Model_s t3.2) ((33 + x0)).toNatClampNeg) / 2)) + ((Model_s t3.2) (20 : Int32).toNatClampNeg))]) (As := []) CC hKN hGl hS (c_X8_manyIn l E a t3.2 t14 ht14) gX8_doesOf_X8_manyIn rfl ⟨rfl, rfl⟩ (by decide +kernel) ⟨Nat.le_of_ble_eq_true rfl, Nat.le_of_ble_eq_true rfl⟩ hP rfl rfl rfl rfl hl.1 rfl (Nat.le_of_ble_eq_true rfl) ⟨Nat.zero_le _, Nat.zero_le _⟩ dX8_doesOf_118 ?_
            refine W.eq (g2 := F0 m 121 ls [.int t14, .int ((t3.1 + (((Model_s t3.2) ((33 + x0)).toNatClampNeg) / 2)) + ((Model_s t3.2) (20 : Int32).toNatClampNeg))]) rfl ?_
            refine lv_isub hx hb dX8_doesOf_121 ?_
            refine lv_istore_n (lv' := [(3, .int (((t3.1 + (((Model_s t3.2) ((33 + x0)).toNatClampNeg) / 2)) + ((Model_s t3.2) (20 : Int32).toNatClampNeg)) - t14)), (2, .int t3.1), (0, .ref (Modela_self a)), (1, .int x0)]) hx hb dX8_doesOf_122 rfl hl (by decide) rfl (fun ls hl => ?_)
            refine lv_goto (tgt := 165) hx hb dX8_doesOf_123 (by decide) ?_
            exact hj165 (((t3.1 + (((Model_s t3.2) ((33 + x0)).toNatClampNeg) / 2)) + ((Model_s t3.2) (20 : Int32).toNatClampNeg)) - t14) H locs ls hF hP hD hS (lv_sub hl [2, 3, 0] rfl)
          · have hF := m_neg c11 hF
            by_cases c15 : ((Model_s t3.2) ((27 + x0)).toNatClampNeg) = 5
            · have hF := m_pos c15 hF
              refine lv_tableIn (off := 94) (tgt := 126) hx hb dX8_doesOf_32 (by rw [c15]; decide) (by rw [c15]; decide) (by rw [c15]; rfl) (by decide) ?_
              refine lv_iload_n hx hb dX8_doesOf_126 rfl (lv_at hl 1 rfl) ?_
              refine lv_iconst (v := 2) hx hb dX8_doesOf_127 (by decide) ?_
              refine lv_idiv hx hb dX8_doesOf_128 (by decide) ?_
              refine lv_aload_n hx hb dX8_doesOf_129 rfl (lv_at hl 2 rfl) ?_
              refine lv_iload_n hx hb dX8_doesOf_130 rfl (lv_at hl 3 rfl) ?_
              obtain ⟨t16, ht16, hF⟩ := m_bnd hF
              refine mVP (ci := 8) (n := 1) (rest := [.int (t3.1 / 2)]) (As := [.int x0]) CC hKN hGl hS (c_X8_moreSkilled l E a t3.2 x0 t16 ht16) gX8_doesOf_X8_moreSkilled rfl ⟨rfl, rfl⟩ (by decide +kernel) ⟨Nat.le_of_ble_eq_true rfl, Nat.le_of_ble_eq_true rfl⟩ hP rfl rfl rfl rfl hl.1 rfl (Nat.le_of_ble_eq_true rfl) ⟨Nat.zero_le _, Nat.zero_le _⟩ dX8_doesOf_131 ?_
              refine W.eq (g2 := F0 m 134 ls [.int t16, .int (t3.1 / 2)]) rfl ?_
              refine lv_isub hx hb dX8_doesOf_134 ?_
              refine lv_istore_n (lv' := [(3, .int ((t3.1 / 2) - t16)), (2, .int t3.1), (0, .ref (Modela_self a)), (1, .int x0)]) hx hb dX8_doesOf_135 rfl hl (by decide) rfl (fun ls hl => ?_)
              refine lv_goto (tgt := 165) hx hb dX8_doesOf_136 (by decide) ?_
              exact hj165 ((t3.1 / 2) - t16) H locs ls hF hP hD hS (lv_sub hl [2, 3, 0] rfl)
            · have hF := m_neg c15 hF
              by_cases c17 : ((Model_s t3.2) ((27 + x0)).toNatClampNeg) = 6
              · have hF := m_pos c17 hF
                refine lv_tableIn (off := 107) (tgt := 139) hx hb dX8_doesOf_32 (by rw [c17]; decide) (by rw [c17]; decide) (by rw [c17]; rfl) (by decide) ?_
                refine lv_iload_n hx hb dX8_doesOf_139 rfl (lv_at hl 1 rfl) ?_
                refine lv_aload_n hx hb dX8_doesOf_140 rfl (lv_at hl 2 rfl) ?_
                refine va_get (D := E.1) (ci := 8) (v := .ref (Modela_s a)) (C := RX8) (T := TX8) (N := 20) hx hb hts k1 hown hK hP 0 rfl rfl 1 (by decide) k0 (fun _ h9 => h9) rfl dX8_doesOf_141 ?_
                refine lv_bipush (v := 45) hx hb dX8_doesOf_144 (by decide) ?_
                refine lv_iconst (v := 4) hx hb dX8_doesOf_146 (by decide) ?_
                refine lv_iload_n hx hb dX8_doesOf_147 rfl (lv_at hl 3 rfl) ?_
                refine lv_imul hx hb dX8_doesOf_148 ?_
                refine lv_iadd hx hb dX8_doesOf_149 ?_
                refine lv_aload_n hx hb dX8_doesOf_150 rfl (lv_at hl 2 rfl) ?_
                refine va_get (D := E.1) (ci := 8) (v := .ref (Modela_s a)) (C := RX8) (T := TX8) (N := 20) hx hb hts k1 hown hK hP 0 rfl rfl 1 (by decide) k0 (fun _ h9 => h9) rfl dX8_doesOf_151 ?_
                refine lv_iconst (v := 0) hx hb dX8_doesOf_154 (by decide) ?_
                obtain ⟨h18, hF⟩ := m_chk hF
                refine va_iald (f := (Model_s t3.2)) hx hb hK hP 1 1 rfl rfl (mIn_ok h18) dX8_doesOf_155 ?_
                refine W.eq (g2 := F0 m 156 ls [.int ((Model_s t3.2) (0 : Int32).toNatClampNeg), .int (45 + (4 * x0)), .ref (Modela_s a), .int t3.1]) rfl ?_
                refine lv_iconst (v := 4) hx hb dX8_doesOf_156 (by decide) ?_
                refine lv_irem hx hb dX8_doesOf_157 (by decide) ?_
                refine W.eq (g2 := F0 m 158 ls [.int (mRem ((Model_s t3.2) (0 : Int32).toNatClampNeg) 4), .int (45 + (4 * x0)), .ref (Modela_s a), .int t3.1]) rfl ?_
                refine lv_iadd hx hb dX8_doesOf_158 ?_
                obtain ⟨h19, hF⟩ := m_chk hF
                refine va_iald (f := (Model_s t3.2)) hx hb hK hP 1 1 rfl rfl (mIn_ok h19) dX8_doesOf_159 ?_
                refine W.eq (g2 := F0 m 160 ls [.int ((Model_s t3.2) (((45 + (4 * x0)) + (mRem ((Model_s t3.2) (0 : Int32).toNatClampNeg) 4))).toNatClampNeg), .int t3.1]) rfl ?_
                refine lv_iadd hx hb dX8_doesOf_160 ?_
                refine lv_istore_n (lv' := [(3, .int (t3.1 + ((Model_s t3.2) (((45 + (4 * x0)) + (mRem ((Model_s t3.2) (0 : Int32).toNatClampNeg) 4))).toNatClampNeg))), (2, .int t3.1), (0, .ref (Modela_self a)), (1, .int x0)]) hx hb dX8_doesOf_161 rfl hl (by decide) rfl (fun ls hl => ?_)
                refine lv_goto (tgt := 165) hx hb dX8_doesOf_162 (by decide) ?_
                exact hj165 (t3.1 + ((Model_s t3.2) (((45 + (4 * x0)) + (mRem ((Model_s t3.2) (0 : Int32).toNatClampNeg) 4))).toNatClampNeg)) H locs ls hF hP hD hS (lv_sub hl [2, 3, 0] rfl)
              · have hF := m_neg c17 hF
                have qc7 := lv_neT (a := 1) c7 rfl
                have qc9 := lv_neT (a := 2) c9 rfl
                have qc10 := lv_neT (a := 3) c10 rfl
                have qc11 := lv_neT (a := 4) c11 rfl
                have qc15 := lv_neT (a := 5) c15 rfl
                have qc17 := lv_neT (a := 6) c17 rfl
                refine lv_tableOut (tgt := 165) hx hb dX8_doesOf_32 (by omega) (by decide) ?_
                exact hj165 t3.1 H locs ls hF hP hD hS (lv_sub hl [2, 3, 0] rfl)
  · have hF := m_neg (fun n9 => n9 c2) hF
    refine lv_iconst (v := 0) hx hb dX8_doesOf_13 (by decide) ?_
    have hF := Option.some.inj hF
    subst hF
    rw [hQ]
    exact W.iret hx hb hr (fun t ht _ => ⟨⟨rfl, by rw [ht]; exact hP, hD⟩, hS.F ht⟩) hS.2.2 dX8_doesOf_14

abbrev rmX8_allHours : Room := { frames := 0, cells := 0, slots := 0, locals := 0 }
set_option maxRecDepth 100000 in
set_option maxHeartbeats 400000 in
theorem c_X8_allHours (l : Launch) (E : mE) (a : ModelA) (v : ModelV) (t : Int32) (hF : fn_X8_allHours v = some t) : Met l yX8_allHours wsX8_allHours rmX8_allHours (mPp E [.ref (Modela_self a)] (Model_c E a v)) (mSp (some (.int t))) 0 0 (fun _ => False) := by
  refine mOfP (cc := cX8_allHours) (maxL := 3) (ret := (some .int)) (by decide) rfl (Nat.le_of_ble_eq_true rfl) ?_
  intro p e_ s m args below meth c Q hQ CC hr hlocks hP hKN hGl ls hl
  have hS : va_S (fun _ => False) s.heap s.heap [] := va_S.rf
  have hK := hKN.1
  have hx := CC.1
  have hb := CC.2.1
  have hml := CC.2.2.1
  have hown : s.vm.findClass RX8 = some m.cls := CC.2.2.2.1
  have hts := CC.2.2.2.2
  have hl : lv_has ls 3 [(0, .ref (Modela_self a))] := hl
  have k0 := hts (.fieldLink RX8 9 "OneDidAllModel" "s" "[I") (by decide +kernel)
  have k1 := (show ∀ w ∈ u_ws RX8 TX8 20, w ∈ wsX8_allHours by decide +kernel)
  unfold fn_X8_allHours at hF
  refine lv_iconst (v := 0) hx hb dX8_allHours_0 (by decide) ?_
  refine lv_istore_n (lv' := [(1, .int 0), (0, .ref (Modela_self a))]) hx hb dX8_allHours_1 rfl hl (by decide) rfl (fun ls hl => ?_)
  refine lv_iconst (v := 0) hx hb dX8_allHours_2 (by decide) ?_
  refine lv_istore_n (lv' := [(2, .int 0), (1, .int 0), (0, .ref (Modela_self a))]) hx hb dX8_allHours_3 rfl hl (by decide) rfl (fun ls hl => ?_)
  have hL4 : ∀ (n : Nat) (y1_4 : Int32) (y2_4 : Int32) (ls : Array Slot), lp_X8_allHours_4 v n y1_4 y2_4 = some t → lv_has ls 3 [(0, .ref (Modela_self a)), (1, .int y1_4), (2, .int y2_4)] → W p l e_ rmX8_allHours s m args below meth c s.heap [] 0 0 Q (F0 m 4 ls []) := by
    intro n
    induction n with
    | zero =>
      intro y1_4 y2_4 ls hF
      exact nomatch (show (none : Option Int32) = some t from hF)
    | succ n ih4 =>
      intro y1_4 y2_4 ls hF hl
      have hF : st_X8_allHours_4 v (lp_X8_allHours_4 v n) y1_4 y2_4 = some t := hF
      unfold st_X8_allHours_4 at hF
      refine lv_iload_n hx hb dX8_allHours_4 rfl (lv_at hl 2 rfl) ?_
      refine lv_aload_n hx hb dX8_allHours_5 rfl (lv_at hl 0 rfl) ?_
      refine va_get (D := E.1) (ci := 8) (v := .ref (Modela_s a)) (C := RX8) (T := TX8) (N := 20) hx hb hts k1 hown hK hP 0 rfl rfl 1 (by decide) k0 (fun _ h9 => h9) rfl dX8_allHours_6 ?_
      refine lv_bipush (v := 20) hx hb dX8_allHours_9 (by decide) ?_
      obtain ⟨h1, hF⟩ := m_chk hF
      refine va_iald (f := (Model_s v)) hx hb hK hP 1 1 rfl rfl (mIn_ok h1) dX8_allHours_11 ?_
      refine W.eq (g2 := F0 m 12 ls [.int ((Model_s v) (20 : Int32).toNatClampNeg), .int y2_4]) rfl ?_
      refine lv_icmp_ge (tgt := 32) hx hb dX8_allHours_12 (by decide) (fun c2 => ?_) (fun c2 => ?_)
      · have hF := m_pos c2 hF
        refine lv_iload_n hx hb dX8_allHours_32 rfl (lv_at hl 1 rfl) ?_
        have hF := Option.some.inj hF
        subst hF
        rw [hQ]
        exact W.iret hx hb hr (fun t ht _ => ⟨rfl, ht⟩) (fun _ h => by cases h) dX8_allHours_33
      · have hF := m_neg c2 hF
        refine lv_iload_n hx hb dX8_allHours_15 rfl (lv_at hl 1 rfl) ?_
        refine lv_aload_n hx hb dX8_allHours_16 rfl (lv_at hl 0 rfl) ?_
        refine va_get (D := E.1) (ci := 8) (v := .ref (Modela_s a)) (C := RX8) (T := TX8) (N := 20) hx hb hts k1 hown hK hP 0 rfl rfl 1 (by decide) k0 (fun _ h9 => h9) rfl dX8_allHours_17 ?_
        refine lv_iconst (v := 2) hx hb dX8_allHours_20 (by decide) ?_
        refine lv_iload_n hx hb dX8_allHours_21 rfl (lv_at hl 2 rfl) ?_
        refine lv_iadd hx hb dX8_allHours_22 ?_
        obtain ⟨h3, hF⟩ := m_chk hF
        refine va_iald (f := (Model_s v)) hx hb hK hP 1 1 rfl rfl (mIn_ok h3) dX8_allHours_23 ?_
        refine W.eq (g2 := F0 m 24 ls [.int ((Model_s v) ((2 + y2_4)).toNatClampNeg), .int y1_4]) rfl ?_
        refine lv_iadd hx hb dX8_allHours_24 ?_
        refine lv_istore_n (lv' := [(1, .int (y1_4 + ((Model_s v) ((2 + y2_4)).toNatClampNeg))), (0, .ref (Modela_self a)), (2, .int y2_4)]) hx hb dX8_allHours_25 rfl hl (by decide) rfl (fun ls hl => ?_)
        refine lv_iinc (v := (y2_4 + 1)) (lv' := [(2, .int (y2_4 + 1)), (1, .int (y1_4 + ((Model_s v) ((2 + y2_4)).toNatClampNeg))), (0, .ref (Modela_self a))]) hx hb dX8_allHours_26 hl (k := 2) rfl rfl (by decide) rfl (fun ls hl => ?_)
        refine lv_goto (tgt := 4) hx hb dX8_allHours_29 (by decide) ?_
        exact ih4 (y1_4 + ((Model_s v) ((2 + y2_4)).toNatClampNeg)) (y2_4 + 1) ls hF (lv_sub hl [2, 1, 0] rfl)
  exact hL4 m_N 0 0 ls hF (lv_sub hl [2, 1, 0] rfl)

abbrev rmX8_shareOf : Room := { frames := 1, cells := 0, slots := 0, locals := 22 }
set_option maxRecDepth 100000 in
set_option maxHeartbeats 400000 in
theorem c_X8_shareOf (l : Launch) (E : mE) (a : ModelA) (v : ModelV) (x0 : Int32) (t : Int32) (hF : fn_X8_shareOf v x0 = some t) : Met l yX8_shareOf wsX8_shareOf rmX8_shareOf (mPp E [.ref (Modela_self a), .int x0] (Model_c E a v)) (mSp (some (.int t))) 0 0 (fun _ => False) := by
  refine mOfP (cc := cX8_shareOf) (maxL := 3) (ret := (some .int)) (by decide) rfl (Nat.le_of_ble_eq_true rfl) ?_
  intro p e_ s m args below meth c Q hQ CC hr hlocks hP hKN hGl ls hl
  have hS : va_S (fun _ => False) s.heap s.heap [] := va_S.rf
  have hK := hKN.1
  have hx := CC.1
  have hb := CC.2.1
  have hml := CC.2.2.1
  have hown : s.vm.findClass RX8 = some m.cls := CC.2.2.2.1
  have hts := CC.2.2.2.2
  have hl : lv_has ls 3 [(0, .ref (Modela_self a)), (1, .int x0)] := hl
  have k0 := hts (.fieldLink RX8 9 "OneDidAllModel" "s" "[I") (by decide +kernel)
  have k1 := (show ∀ w ∈ u_ws RX8 TX8 20, w ∈ wsX8_shareOf by decide +kernel)
  unfold fn_X8_shareOf at hF
  refine lv_aload_n hx hb dX8_shareOf_0 rfl (lv_at hl 0 rfl) ?_
  obtain ⟨t1, ht1, hF⟩ := m_bnd hF
  refine mVP (ci := 8) (n := 0) (rest := []) (As := []) CC hKN hGl hS (c_X8_allHours l E a v t1 ht1) gX8_shareOf_X8_allHours rfl ⟨rfl, rfl⟩ (by decide +kernel) ⟨Nat.le_of_ble_eq_true rfl, Nat.le_of_ble_eq_true rfl⟩ hP rfl rfl rfl rfl hl.1 rfl (Nat.le_of_ble_eq_true rfl) ⟨Nat.zero_le _, Nat.zero_le _⟩ dX8_shareOf_1 ?_
  refine W.eq (g2 := F0 m 4 ls [.int t1]) rfl ?_
  refine lv_istore_n (lv' := [(2, .int t1), (0, .ref (Modela_self a)), (1, .int x0)]) hx hb dX8_shareOf_4 rfl hl (by decide) rfl (fun ls hl => ?_)
  refine lv_iload_n hx hb dX8_shareOf_5 rfl (lv_at hl 0 rfl) ?_
  refine lv_if_ne (tgt := 13) hx hb dX8_shareOf_6 (by decide) (fun c2 => ?_) (fun c2 => ?_)
  · have hF := m_pos c2 hF
    refine lv_bipush (v := 100) hx hb dX8_shareOf_13 (by decide) ?_
    refine lv_aload_n hx hb dX8_shareOf_15 rfl (lv_at hl 1 rfl) ?_
    refine va_get (D := E.1) (ci := 8) (v := .ref (Modela_s a)) (C := RX8) (T := TX8) (N := 20) hx hb hts k1 hown hK hP 0 rfl rfl 1 (by decide) k0 (fun _ h9 => h9) rfl dX8_shareOf_16 ?_
    refine lv_iconst (v := 2) hx hb dX8_shareOf_19 (by decide) ?_
    refine lv_iload_n hx hb dX8_shareOf_20 rfl (lv_at hl 2 rfl) ?_
    refine lv_iadd hx hb dX8_shareOf_21 ?_
    obtain ⟨h3, hF⟩ := m_chk hF
    refine va_iald (f := (Model_s v)) hx hb hK hP 1 1 rfl rfl (mIn_ok h3) dX8_shareOf_22 ?_
    refine W.eq (g2 := F0 m 23 ls [.int ((Model_s v) ((2 + x0)).toNatClampNeg), .int 100]) rfl ?_
    refine lv_imul hx hb dX8_shareOf_23 ?_
    refine lv_iload_n hx hb dX8_shareOf_24 rfl (lv_at hl 0 rfl) ?_
    obtain ⟨h4, hF⟩ := m_chk hF
    refine lv_idiv hx hb dX8_shareOf_25 h4 ?_
    have hF := Option.some.inj hF
    subst hF
    rw [hQ]
    exact W.iret hx hb hr (fun t ht _ => ⟨rfl, ht⟩) (fun _ h => by cases h) dX8_shareOf_26
  · have hF := m_neg (fun n9 => n9 c2) hF
    refine lv_iconst (v := 0) hx hb dX8_shareOf_9 (by decide) ?_
    refine lv_goto (tgt := 26) hx hb dX8_shareOf_10 (by decide) ?_
    have hF := Option.some.inj hF
    subst hF
    rw [hQ]
    exact W.iret hx hb hr (fun t ht _ => ⟨rfl, ht⟩) (fun _ h => by cases h) dX8_shareOf_26

abbrev rmX8_claimOf : Room := { frames := 2, cells := 0, slots := 0, locals := 44 }
set_option maxRecDepth 100000 in
set_option maxHeartbeats 400000 in
theorem c_X8_claimOf (l : Launch) (E : mE) (a : ModelA) (v : ModelV) (x0 : Int32) (t : Int32) (hF : fn_X8_claimOf v x0 = some t) : Met l yX8_claimOf wsX8_claimOf rmX8_claimOf (mPp E [.ref (Modela_self a), .int x0] (Model_c E a v)) (mSp (some (.int t))) 0 0 (fun _ => False) := by
  refine mOfP (cc := cX8_claimOf) (maxL := 4) (ret := (some .int)) (by decide) rfl (Nat.le_of_ble_eq_true rfl) ?_
  intro p e_ s m args below meth c Q hQ CC hr hlocks hP hKN hGl ls hl
  have hS : va_S (fun _ => False) s.heap s.heap [] := va_S.rf
  have hK := hKN.1
  have hx := CC.1
  have hb := CC.2.1
  have hml := CC.2.2.1
  have hown : s.vm.findClass RX8 = some m.cls := CC.2.2.2.1
  have hts := CC.2.2.2.2
  have hl : lv_has ls 4 [(0, .ref (Modela_self a)), (1, .int x0)] := hl
  have k0 := hts (.fieldLink RX8 9 "OneDidAllModel" "s" "[I") (by decide +kernel)
  have k1 := (show ∀ w ∈ u_ws RX8 TX8 20, w ∈ wsX8_claimOf by decide +kernel)
  unfold fn_X8_claimOf at hF
  refine lv_aload_n hx hb dX8_claimOf_0 rfl (lv_at hl 0 rfl) ?_
  refine lv_iload_n hx hb dX8_claimOf_1 rfl (lv_at hl 1 rfl) ?_
  obtain ⟨t1, ht1, hF⟩ := m_bnd hF
  refine mVP (ci := 8) (n := 1) (rest := []) (As := [.int x0]) CC hKN hGl hS (c_X8_shareOf l E a v x0 t1 ht1) gX8_claimOf_X8_shareOf rfl ⟨rfl, rfl⟩ (by decide +kernel) ⟨Nat.le_of_ble_eq_true rfl, Nat.le_of_ble_eq_true rfl⟩ hP rfl rfl rfl rfl hl.1 rfl (Nat.le_of_ble_eq_true rfl) ⟨Nat.zero_le _, Nat.zero_le _⟩ dX8_claimOf_2 ?_
  refine W.eq (g2 := F0 m 5 ls [.int t1]) rfl ?_
  refine lv_istore_n (lv' := [(2, .int t1), (0, .ref (Modela_self a)), (1, .int x0)]) hx hb dX8_claimOf_5 rfl hl (by decide) rfl (fun ls hl => ?_)
  refine lv_aload_n hx hb dX8_claimOf_6 rfl (lv_at hl 1 rfl) ?_
  refine va_get (D := E.1) (ci := 8) (v := .ref (Modela_s a)) (C := RX8) (T := TX8) (N := 20) hx hb hts k1 hown hK hP 0 rfl rfl 1 (by decide) k0 (fun _ h9 => h9) rfl dX8_claimOf_7 ?_
  refine lv_bipush (v := 33) hx hb dX8_claimOf_10 (by decide) ?_
  refine lv_iload_n hx hb dX8_claimOf_12 rfl (lv_at hl 2 rfl) ?_
  refine lv_iadd hx hb dX8_claimOf_13 ?_
  obtain ⟨h2, hF⟩ := m_chk hF
  refine va_iald (f := (Model_s v)) hx hb hK hP 1 1 rfl rfl (mIn_ok h2) dX8_claimOf_14 ?_
  refine W.eq (g2 := F0 m 15 ls [.int ((Model_s v) ((33 + x0)).toNatClampNeg)]) rfl ?_
  refine lv_istore_n (lv' := [(3, .int ((Model_s v) ((33 + x0)).toNatClampNeg)), (2, .int t1), (0, .ref (Modela_self a)), (1, .int x0)]) hx hb dX8_claimOf_15 rfl hl (by decide) rfl (fun ls hl => ?_)
  refine lv_aload_n hx hb dX8_claimOf_16 rfl (lv_at hl 2 rfl) ?_
  refine va_get (D := E.1) (ci := 8) (v := .ref (Modela_s a)) (C := RX8) (T := TX8) (N := 20) hx hb hts k1 hown hK hP 0 rfl rfl 1 (by decide) k0 (fun _ h9 => h9) rfl dX8_claimOf_17 ?_
  refine lv_bipush (v := 27) hx hb dX8_claimOf_20 (by decide) ?_
  refine lv_iload_n hx hb dX8_claimOf_22 rfl (lv_at hl 3 rfl) ?_
  refine lv_iadd hx hb dX8_claimOf_23 ?_
  obtain ⟨h3, hF⟩ := m_chk hF
  refine va_iald (f := (Model_s v)) hx hb hK hP 1 1 rfl rfl (mIn_ok h3) dX8_claimOf_24 ?_
  refine W.eq (g2 := F0 m 25 ls [.int ((Model_s v) ((27 + x0)).toNatClampNeg)]) rfl ?_
  obtain ⟨j64, hjd64, hF⟩ := m_jp hF
  have hj64 : ∀ (ls : Array Slot), j64 () = some t → lv_has ls 4 [(2, .int t1), (3, .int ((Model_s v) ((33 + x0)).toNatClampNeg))] → W p l e_ rmX8_claimOf s m args below meth c s.heap [] 0 0 Q (F0 m 64 ls []) := by
    intro ls hF hl
    rw [hjd64] at hF
    refine lv_iload_n hx hb dX8_claimOf_64 rfl (lv_at hl 0 rfl) ?_
    refine lv_iload_n hx hb dX8_claimOf_65 rfl (lv_at hl 1 rfl) ?_
    refine lv_isub hx hb dX8_claimOf_66 ?_
    refine lv_iconst (v := 0) hx hb dX8_claimOf_67 (by decide) ?_
    refine lv_bipush (v := 100) hx hb dX8_claimOf_68 (by decide) ?_
    obtain ⟨t4, ht4, hF⟩ := m_bnd hF
    refine mSP (n := 3) (rest := []) (As := [.int (t1 - ((Model_s v) ((33 + x0)).toNatClampNeg)), .int 0, .int 100]) CC hKN hGl hS (c_X8_within l E (t1 - ((Model_s v) ((33 + x0)).toNatClampNeg)) 0 100 t4 ht4) gX8_claimOf_X8_within rfl ⟨rfl, rfl⟩ (by decide +kernel) ⟨Nat.le_of_ble_eq_true rfl, Nat.le_of_ble_eq_true rfl⟩ m_nil rfl hl.1 rfl (Nat.le_of_ble_eq_true rfl) ⟨Nat.zero_le _, Nat.zero_le _⟩ dX8_claimOf_70 ?_
    refine W.eq (g2 := F0 m 73 ls [.int t4]) rfl ?_
    have hF := Option.some.inj hF
    subst hF
    rw [hQ]
    exact W.iret hx hb hr (fun t ht _ => ⟨rfl, ht⟩) (fun _ h => by cases h) dX8_claimOf_73
  clear hjd64
  by_cases c5 : ((Model_s v) ((27 + x0)).toNatClampNeg) = 1
  · have hF := m_pos c5 hF
    refine lv_tableIn (off := 39) (tgt := 64) hx hb dX8_claimOf_25 (by rw [c5]; decide) (by rw [c5]; decide) (by rw [c5]; rfl) (by decide) ?_
    exact hj64 ls hF (lv_sub hl [1, 0] rfl)
  · have hF := m_neg c5 hF
    by_cases c6 : ((Model_s v) ((27 + x0)).toNatClampNeg) = 2
    · have hF := m_pos c6 hF
      refine lv_tableIn (off := 49) (tgt := 74) hx hb dX8_claimOf_25 (by rw [c6]; decide) (by rw [c6]; decide) (by rw [c6]; rfl) (by decide) ?_
      refine lv_iload_n hx hb dX8_claimOf_74 rfl (lv_at hl 1 rfl) ?_
      refine lv_iload_n hx hb dX8_claimOf_75 rfl (lv_at hl 0 rfl) ?_
      refine lv_iadd hx hb dX8_claimOf_76 ?_
      refine lv_iconst (v := 0) hx hb dX8_claimOf_77 (by decide) ?_
      refine lv_bipush (v := 100) hx hb dX8_claimOf_78 (by decide) ?_
      obtain ⟨t7, ht7, hF⟩ := m_bnd hF
      refine mSP (n := 3) (rest := []) (As := [.int (t1 + ((Model_s v) ((33 + x0)).toNatClampNeg)), .int 0, .int 100]) CC hKN hGl hS (c_X8_within l E (t1 + ((Model_s v) ((33 + x0)).toNatClampNeg)) 0 100 t7 ht7) gX8_claimOf_X8_within rfl ⟨rfl, rfl⟩ (by decide +kernel) ⟨Nat.le_of_ble_eq_true rfl, Nat.le_of_ble_eq_true rfl⟩ m_nil rfl hl.1 rfl (Nat.le_of_ble_eq_true rfl) ⟨Nat.zero_le _, Nat.zero_le _⟩ dX8_claimOf_80 ?_
      refine W.eq (g2 := F0 m 83 ls [.int t7]) rfl ?_
      have hF := Option.some.inj hF
      subst hF
      rw [hQ]
      exact W.iret hx hb hr (fun t ht _ => ⟨rfl, ht⟩) (fun _ h => by cases h) dX8_claimOf_83
    · have hF := m_neg c6 hF
      by_cases c8 : ((Model_s v) ((27 + x0)).toNatClampNeg) = 3
      · have hF := m_pos c8 hF
        refine lv_tableIn (off := 59) (tgt := 84) hx hb dX8_claimOf_25 (by rw [c8]; decide) (by rw [c8]; decide) (by rw [c8]; rfl) (by decide) ?_
        refine lv_iconst (v := 2) hx hb dX8_claimOf_84 (by decide) ?_
        refine lv_iload_n hx hb dX8_claimOf_85 rfl (lv_at hl 1 rfl) ?_
        refine lv_imul hx hb dX8_claimOf_86 ?_
        refine lv_iconst (v := 0) hx hb dX8_claimOf_87 (by decide) ?_
        refine lv_bipush (v := 100) hx hb dX8_claimOf_88 (by decide) ?_
        obtain ⟨t9, ht9, hF⟩ := m_bnd hF
        refine mSP (n := 3) (rest := []) (As := [.int (2 * t1), .int 0, .int 100]) CC hKN hGl hS (c_X8_within l E (2 * t1) 0 100 t9 ht9) gX8_claimOf_X8_within rfl ⟨rfl, rfl⟩ (by decide +kernel) ⟨Nat.le_of_ble_eq_true rfl, Nat.le_of_ble_eq_true rfl⟩ m_nil rfl hl.1 rfl (Nat.le_of_ble_eq_true rfl) ⟨Nat.zero_le _, Nat.zero_le _⟩ dX8_claimOf_90 ?_
        refine W.eq (g2 := F0 m 93 ls [.int t9]) rfl ?_
        have hF := Option.some.inj hF
        subst hF
        rw [hQ]
        exact W.iret hx hb hr (fun t ht _ => ⟨rfl, ht⟩) (fun _ h => by cases h) dX8_claimOf_93
      · have hF := m_neg c8 hF
        by_cases c10 : ((Model_s v) ((27 + x0)).toNatClampNeg) = 4
        · have hF := m_pos c10 hF
          refine lv_tableIn (off := 39) (tgt := 64) hx hb dX8_claimOf_25 (by rw [c10]; decide) (by rw [c10]; decide) (by rw [c10]; rfl) (by decide) ?_
          exact hj64 ls hF (lv_sub hl [1, 0] rfl)
        · have hF := m_neg c10 hF
          by_cases c11 : ((Model_s v) ((27 + x0)).toNatClampNeg) = 5
          · have hF := m_pos c11 hF
            refine lv_tableIn (off := 69) (tgt := 94) hx hb dX8_claimOf_25 (by rw [c11]; decide) (by rw [c11]; decide) (by rw [c11]; rfl) (by decide) ?_
            refine lv_iload_n hx hb dX8_claimOf_94 rfl (lv_at hl 1 rfl) ?_
            refine lv_iload_n hx hb dX8_claimOf_95 rfl (lv_at hl 0 rfl) ?_
            refine lv_iadd hx hb dX8_claimOf_96 ?_
            refine lv_iconst (v := 0) hx hb dX8_claimOf_97 (by decide) ?_
            refine lv_bipush (v := 100) hx hb dX8_claimOf_98 (by decide) ?_
            obtain ⟨t12, ht12, hF⟩ := m_bnd hF
            refine mSP (n := 3) (rest := []) (As := [.int (t1 + ((Model_s v) ((33 + x0)).toNatClampNeg)), .int 0, .int 100]) CC hKN hGl hS (c_X8_within l E (t1 + ((Model_s v) ((33 + x0)).toNatClampNeg)) 0 100 t12 ht12) gX8_claimOf_X8_within rfl ⟨rfl, rfl⟩ (by decide +kernel) ⟨Nat.le_of_ble_eq_true rfl, Nat.le_of_ble_eq_true rfl⟩ m_nil rfl hl.1 rfl (Nat.le_of_ble_eq_true rfl) ⟨Nat.zero_le _, Nat.zero_le _⟩ dX8_claimOf_100 ?_
            refine W.eq (g2 := F0 m 103 ls [.int t12]) rfl ?_
            refine lv_iconst (v := 2) hx hb dX8_claimOf_103 (by decide) ?_
            refine lv_idiv hx hb dX8_claimOf_104 (by decide) ?_
            have hF := Option.some.inj hF
            subst hF
            rw [hQ]
            exact W.iret hx hb hr (fun t ht _ => ⟨rfl, ht⟩) (fun _ h => by cases h) dX8_claimOf_105
          · have hF := m_neg c11 hF
            by_cases c13 : ((Model_s v) ((27 + x0)).toNatClampNeg) = 6
            · have hF := m_pos c13 hF
              refine lv_tableIn (off := 81) (tgt := 106) hx hb dX8_claimOf_25 (by rw [c13]; decide) (by rw [c13]; decide) (by rw [c13]; rfl) (by decide) ?_
              refine lv_iconst (v := 2) hx hb dX8_claimOf_106 (by decide) ?_
              refine lv_iload_n hx hb dX8_claimOf_107 rfl (lv_at hl 1 rfl) ?_
              refine lv_imul hx hb dX8_claimOf_108 ?_
              refine lv_aload_n hx hb dX8_claimOf_109 rfl (lv_at hl 2 rfl) ?_
              refine va_get (D := E.1) (ci := 8) (v := .ref (Modela_s a)) (C := RX8) (T := TX8) (N := 20) hx hb hts k1 hown hK hP 0 rfl rfl 1 (by decide) k0 (fun _ h9 => h9) rfl dX8_claimOf_110 ?_
              refine lv_bipush (v := 45) hx hb dX8_claimOf_113 (by decide) ?_
              refine lv_iconst (v := 4) hx hb dX8_claimOf_115 (by decide) ?_
              refine lv_iload_n hx hb dX8_claimOf_116 rfl (lv_at hl 3 rfl) ?_
              refine lv_imul hx hb dX8_claimOf_117 ?_
              refine lv_iadd hx hb dX8_claimOf_118 ?_
              refine lv_aload_n hx hb dX8_claimOf_119 rfl (lv_at hl 2 rfl) ?_
              refine va_get (D := E.1) (ci := 8) (v := .ref (Modela_s a)) (C := RX8) (T := TX8) (N := 20) hx hb hts k1 hown hK hP 0 rfl rfl 1 (by decide) k0 (fun _ h9 => h9) rfl dX8_claimOf_120 ?_
              refine lv_iconst (v := 0) hx hb dX8_claimOf_123 (by decide) ?_
              obtain ⟨h14, hF⟩ := m_chk hF
              refine va_iald (f := (Model_s v)) hx hb hK hP 1 1 rfl rfl (mIn_ok h14) dX8_claimOf_124 ?_
              refine W.eq (g2 := F0 m 125 ls [.int ((Model_s v) (0 : Int32).toNatClampNeg), .int (45 + (4 * x0)), .ref (Modela_s a), .int (2 * t1)]) rfl ?_
              refine lv_iconst (v := 4) hx hb dX8_claimOf_125 (by decide) ?_
              refine lv_irem hx hb dX8_claimOf_126 (by decide) ?_
              refine W.eq (g2 := F0 m 127 ls [.int (mRem ((Model_s v) (0 : Int32).toNatClampNeg) 4), .int (45 + (4 * x0)), .ref (Modela_s a), .int (2 * t1)]) rfl ?_
              refine lv_iadd hx hb dX8_claimOf_127 ?_
              obtain ⟨h15, hF⟩ := m_chk hF
              refine va_iald (f := (Model_s v)) hx hb hK hP 1 1 rfl rfl (mIn_ok h15) dX8_claimOf_128 ?_
              refine W.eq (g2 := F0 m 129 ls [.int ((Model_s v) (((45 + (4 * x0)) + (mRem ((Model_s v) (0 : Int32).toNatClampNeg) 4))).toNatClampNeg), .int (2 * t1)]) rfl ?_
              refine lv_iadd hx hb dX8_claimOf_129 ?_
              refine lv_iconst (v := 0) hx hb dX8_claimOf_130 (by decide) ?_
              refine lv_bipush (v := 100) hx hb dX8_claimOf_131 (by decide) ?_
              obtain ⟨t16, ht16, hF⟩ := m_bnd hF
              refine mSP (n := 3) (rest := []) (As := [.int ((2 * t1) + ((Model_s v) (((45 + (4 * x0)) + (mRem ((Model_s v) (0 : Int32).toNatClampNeg) 4))).toNatClampNeg)), .int 0, .int 100]) CC hKN hGl hS (c_X8_within l E ((2 * t1) + ((Model_s v) (((45 + (4 * x0)) + (mRem ((Model_s v) (0 : Int32).toNatClampNeg) 4))).toNatClampNeg)) 0 100 t16 ht16) gX8_claimOf_X8_within rfl ⟨rfl, rfl⟩ (by decide +kernel) ⟨Nat.le_of_ble_eq_true rfl, Nat.le_of_ble_eq_true rfl⟩ m_nil rfl hl.1 rfl (Nat.le_of_ble_eq_true rfl) ⟨Nat.zero_le _, Nat.zero_le _⟩ dX8_claimOf_133 ?_
              refine W.eq (g2 := F0 m 136 ls [.int t16]) rfl ?_
              have hF := Option.some.inj hF
              subst hF
              rw [hQ]
              exact W.iret hx hb hr (fun t ht _ => ⟨rfl, ht⟩) (fun _ h => by cases h) dX8_claimOf_136
            · have hF := m_neg c13 hF
              have qc5 := lv_neT (a := 1) c5 rfl
              have qc6 := lv_neT (a := 2) c6 rfl
              have qc8 := lv_neT (a := 3) c8 rfl
              have qc10 := lv_neT (a := 4) c10 rfl
              have qc11 := lv_neT (a := 5) c11 rfl
              have qc13 := lv_neT (a := 6) c13 rfl
              refine lv_tableOut (tgt := 137) hx hb dX8_claimOf_25 (by omega) (by decide) ?_
              refine lv_iload_n hx hb dX8_claimOf_137 rfl (lv_at hl 1 rfl) ?_
              have hF := Option.some.inj hF
              subst hF
              rw [hQ]
              exact W.iret hx hb hr (fun t ht _ => ⟨rfl, ht⟩) (fun _ h => by cases h) dX8_claimOf_138

abbrev rmX8_allClaims : Room := { frames := 3, cells := 0, slots := 0, locals := 67 }
set_option maxRecDepth 100000 in
set_option maxHeartbeats 400000 in
theorem c_X8_allClaims (l : Launch) (E : mE) (a : ModelA) (v : ModelV) (t : Int32) (hF : fn_X8_allClaims v = some t) : Met l yX8_allClaims wsX8_allClaims rmX8_allClaims (mPp E [.ref (Modela_self a)] (Model_c E a v)) (mSp (some (.int t))) 0 0 (fun _ => False) := by
  refine mOfP (cc := cX8_allClaims) (maxL := 3) (ret := (some .int)) (by decide) rfl (Nat.le_of_ble_eq_true rfl) ?_
  intro p e_ s m args below meth c Q hQ CC hr hlocks hP hKN hGl ls hl
  have hS : va_S (fun _ => False) s.heap s.heap [] := va_S.rf
  have hK := hKN.1
  have hx := CC.1
  have hb := CC.2.1
  have hml := CC.2.2.1
  have hown : s.vm.findClass RX8 = some m.cls := CC.2.2.2.1
  have hts := CC.2.2.2.2
  have hl : lv_has ls 3 [(0, .ref (Modela_self a))] := hl
  have k0 := hts (.fieldLink RX8 9 "OneDidAllModel" "s" "[I") (by decide +kernel)
  have k1 := (show ∀ w ∈ u_ws RX8 TX8 20, w ∈ wsX8_allClaims by decide +kernel)
  unfold fn_X8_allClaims at hF
  refine lv_iconst (v := 0) hx hb dX8_allClaims_0 (by decide) ?_
  refine lv_istore_n (lv' := [(1, .int 0), (0, .ref (Modela_self a))]) hx hb dX8_allClaims_1 rfl hl (by decide) rfl (fun ls hl => ?_)
  refine lv_iconst (v := 0) hx hb dX8_allClaims_2 (by decide) ?_
  refine lv_istore_n (lv' := [(2, .int 0), (1, .int 0), (0, .ref (Modela_self a))]) hx hb dX8_allClaims_3 rfl hl (by decide) rfl (fun ls hl => ?_)
  have hL4 : ∀ (n : Nat) (y1_4 : Int32) (y2_4 : Int32) (ls : Array Slot), lp_X8_allClaims_4 v n y1_4 y2_4 = some t → lv_has ls 3 [(0, .ref (Modela_self a)), (1, .int y1_4), (2, .int y2_4)] → W p l e_ rmX8_allClaims s m args below meth c s.heap [] 0 0 Q (F0 m 4 ls []) := by
    intro n
    induction n with
    | zero =>
      intro y1_4 y2_4 ls hF
      exact nomatch (show (none : Option Int32) = some t from hF)
    | succ n ih4 =>
      intro y1_4 y2_4 ls hF hl
      have hF : st_X8_allClaims_4 v (lp_X8_allClaims_4 v n) y1_4 y2_4 = some t := hF
      unfold st_X8_allClaims_4 at hF
      refine lv_iload_n hx hb dX8_allClaims_4 rfl (lv_at hl 2 rfl) ?_
      refine lv_aload_n hx hb dX8_allClaims_5 rfl (lv_at hl 0 rfl) ?_
      refine va_get (D := E.1) (ci := 8) (v := .ref (Modela_s a)) (C := RX8) (T := TX8) (N := 20) hx hb hts k1 hown hK hP 0 rfl rfl 1 (by decide) k0 (fun _ h9 => h9) rfl dX8_allClaims_6 ?_
      refine lv_bipush (v := 20) hx hb dX8_allClaims_9 (by decide) ?_
      obtain ⟨h1, hF⟩ := m_chk hF
      refine va_iald (f := (Model_s v)) hx hb hK hP 1 1 rfl rfl (mIn_ok h1) dX8_allClaims_11 ?_
      refine W.eq (g2 := F0 m 12 ls [.int ((Model_s v) (20 : Int32).toNatClampNeg), .int y2_4]) rfl ?_
      refine lv_icmp_ge (tgt := 29) hx hb dX8_allClaims_12 (by decide) (fun c2 => ?_) (fun c2 => ?_)
      · have hF := m_pos c2 hF
        refine lv_iload_n hx hb dX8_allClaims_29 rfl (lv_at hl 1 rfl) ?_
        have hF := Option.some.inj hF
        subst hF
        rw [hQ]
        exact W.iret hx hb hr (fun t ht _ => ⟨rfl, ht⟩) (fun _ h => by cases h) dX8_allClaims_30
      · have hF := m_neg c2 hF
        refine lv_iload_n hx hb dX8_allClaims_15 rfl (lv_at hl 1 rfl) ?_
        refine lv_aload_n hx hb dX8_allClaims_16 rfl (lv_at hl 0 rfl) ?_
        refine lv_iload_n hx hb dX8_allClaims_17 rfl (lv_at hl 2 rfl) ?_
        obtain ⟨t3, ht3, hF⟩ := m_bnd hF
        refine mVP (ci := 8) (n := 1) (rest := [.int y1_4]) (As := [.int y2_4]) CC hKN hGl hS (c_X8_claimOf l E a v y2_4 t3 ht3) gX8_allClaims_X8_claimOf rfl ⟨rfl, rfl⟩ (by decide +kernel) ⟨Nat.le_of_ble_eq_true rfl, Nat.le_of_ble_eq_true rfl⟩ hP rfl rfl rfl rfl hl.1 rfl (Nat.le_of_ble_eq_true rfl) ⟨Nat.zero_le _, Nat.zero_le _⟩ dX8_allClaims_18 ?_
        refine W.eq (g2 := F0 m 21 ls [.int t3, .int y1_4]) rfl ?_
        refine lv_iadd hx hb dX8_allClaims_21 ?_
        refine lv_istore_n (lv' := [(1, .int (y1_4 + t3)), (0, .ref (Modela_self a)), (2, .int y2_4)]) hx hb dX8_allClaims_22 rfl hl (by decide) rfl (fun ls hl => ?_)
        refine lv_iinc (v := (y2_4 + 1)) (lv' := [(2, .int (y2_4 + 1)), (1, .int (y1_4 + t3)), (0, .ref (Modela_self a))]) hx hb dX8_allClaims_23 hl (k := 2) rfl rfl (by decide) rfl (fun ls hl => ?_)
        refine lv_goto (tgt := 4) hx hb dX8_allClaims_26 (by decide) ?_
        exact ih4 (y1_4 + t3) (y2_4 + 1) ls hF (lv_sub hl [2, 1, 0] rfl)
  exact hL4 m_N 0 0 ls hF (lv_sub hl [2, 1, 0] rfl)

abbrev rmX8_baseNow : Room := { frames := 2, cells := 0, slots := 0, locals := 42 }
set_option maxRecDepth 100000 in
set_option maxHeartbeats 400000 in
theorem c_X8_baseNow (l : Launch) (E : mE) (a : ModelA) (v : ModelV) (t : Int32) (hF : fn_X8_baseNow v = some t) : Met l yX8_baseNow wsX8_baseNow rmX8_baseNow (mPp E [.ref (Modela_self a)] (Model_c E a v)) (mSp (some (.int t))) 0 0 (fun _ => False) := by
  refine mOfP (cc := cX8_baseNow) (maxL := 1) (ret := (some .int)) (by decide) rfl (Nat.le_of_ble_eq_true rfl) ?_
  intro p e_ s m args below meth c Q hQ CC hr hlocks hP hKN hGl ls hl
  have hS : va_S (fun _ => False) s.heap s.heap [] := va_S.rf
  have hK := hKN.1
  have hx := CC.1
  have hb := CC.2.1
  have hml := CC.2.2.1
  have hown : s.vm.findClass RX8 = some m.cls := CC.2.2.2.1
  have hts := CC.2.2.2.2
  have hl : lv_has ls 1 [(0, .ref (Modela_self a))] := hl
  have k0 := hts (.fieldLink RX8 9 "OneDidAllModel" "s" "[I") (by decide +kernel)
  have k1 := (show ∀ w ∈ u_ws RX8 TX8 20, w ∈ wsX8_baseNow by decide +kernel)
  unfold fn_X8_baseNow at hF
  refine lv_bipush (v := 100) hx hb dX8_baseNow_0 (by decide) ?_
  refine lv_aload_n hx hb dX8_baseNow_2 rfl (lv_at hl 0 rfl) ?_
  refine va_get (D := E.1) (ci := 8) (v := .ref (Modela_s a)) (C := RX8) (T := TX8) (N := 20) hx hb hts k1 hown hK hP 0 rfl rfl 1 (by decide) k0 (fun _ h9 => h9) rfl dX8_baseNow_3 ?_
  refine lv_iconst (v := 1) hx hb dX8_baseNow_6 (by decide) ?_
  obtain ⟨h1, hF⟩ := m_chk hF
  refine va_iald (f := (Model_s v)) hx hb hK hP 1 1 rfl rfl (mIn_ok h1) dX8_baseNow_7 ?_
  refine W.eq (g2 := F0 m 8 ls [.int ((Model_s v) (1 : Int32).toNatClampNeg), .int 100]) rfl ?_
  refine lv_imul hx hb dX8_baseNow_8 ?_
  refine lv_aload_n hx hb dX8_baseNow_9 rfl (lv_at hl 0 rfl) ?_
  obtain ⟨t2, ht2, hF⟩ := m_bnd hF
  refine mVP (ci := 8) (n := 0) (rest := [.int (100 * ((Model_s v) (1 : Int32).toNatClampNeg))]) (As := []) CC hKN hGl hS (c_X8_goalNow l E a v t2 ht2) gX8_baseNow_X8_goalNow rfl ⟨rfl, rfl⟩ (by decide +kernel) ⟨Nat.le_of_ble_eq_true rfl, Nat.le_of_ble_eq_true rfl⟩ hP rfl rfl rfl rfl hl.1 rfl (Nat.le_of_ble_eq_true rfl) ⟨Nat.zero_le _, Nat.zero_le _⟩ dX8_baseNow_10 ?_
  refine W.eq (g2 := F0 m 13 ls [.int t2, .int (100 * ((Model_s v) (1 : Int32).toNatClampNeg))]) rfl ?_
  obtain ⟨h3, hF⟩ := m_chk hF
  refine lv_idiv hx hb dX8_baseNow_13 h3 ?_
  refine lv_iconst (v := 0) hx hb dX8_baseNow_14 (by decide) ?_
  refine lv_bipush (v := 100) hx hb dX8_baseNow_15 (by decide) ?_
  obtain ⟨t4, ht4, hF⟩ := m_bnd hF
  refine mSP (n := 3) (rest := []) (As := [.int ((100 * ((Model_s v) (1 : Int32).toNatClampNeg)) / t2), .int 0, .int 100]) CC hKN hGl hS (c_X8_within l E ((100 * ((Model_s v) (1 : Int32).toNatClampNeg)) / t2) 0 100 t4 ht4) gX8_baseNow_X8_within rfl ⟨rfl, rfl⟩ (by decide +kernel) ⟨Nat.le_of_ble_eq_true rfl, Nat.le_of_ble_eq_true rfl⟩ m_nil rfl hl.1 rfl (Nat.le_of_ble_eq_true rfl) ⟨Nat.zero_le _, Nat.zero_le _⟩ dX8_baseNow_17 ?_
  refine W.eq (g2 := F0 m 20 ls [.int t4]) rfl ?_
  have hF := Option.some.inj hF
  subst hF
  rw [hQ]
  exact W.iret hx hb hr (fun t ht _ => ⟨rfl, ht⟩) (fun _ h => by cases h) dX8_baseNow_20

abbrev rmX8_partOf : Room := { frames := 3, cells := 0, slots := 0, locals := 67 }
set_option maxRecDepth 100000 in
set_option maxHeartbeats 400000 in
theorem c_X8_partOf (l : Launch) (E : mE) (a : ModelA) (v : ModelV) (x0 : Int32) (x1 : Int32) (t : Int32) (hF : fn_X8_partOf v x0 x1 = some t) : Met l yX8_partOf wsX8_partOf rmX8_partOf (mPp E [.ref (Modela_self a), .int x0, .int x1] (Model_c E a v)) (mSp (some (.int t))) 0 0 (fun _ => False) := by
  refine mOfP (cc := cX8_partOf) (maxL := 3) (ret := (some .int)) (by decide) rfl (Nat.le_of_ble_eq_true rfl) ?_
  intro p e_ s m args below meth c Q hQ CC hr hlocks hP hKN hGl ls hl
  have hS : va_S (fun _ => False) s.heap s.heap [] := va_S.rf
  have hK := hKN.1
  have hx := CC.1
  have hb := CC.2.1
  have hml := CC.2.2.1
  have hown : s.vm.findClass RX8 = some m.cls := CC.2.2.2.1
  have hts := CC.2.2.2.2
  have hl : lv_has ls 3 [(0, .ref (Modela_self a)), (1, .int x0), (2, .int x1)] := hl
  have k0 := hts (.fieldLink RX8 9 "OneDidAllModel" "s" "[I") (by decide +kernel)
  have k1 := (show ∀ w ∈ u_ws RX8 TX8 20, w ∈ wsX8_partOf by decide +kernel)
  unfold fn_X8_partOf at hF
  refine lv_iload_n hx hb dX8_partOf_0 rfl (lv_at hl 2 rfl) ?_
  refine lv_iconst (v := 1) hx hb dX8_partOf_1 (by decide) ?_
  refine lv_icmp_ne (tgt := 16) hx hb dX8_partOf_2 (by decide) (fun c1 => ?_) (fun c1 => ?_)
  · have hF := m_pos c1 hF
    refine lv_aload_n hx hb dX8_partOf_16 rfl (lv_at hl 0 rfl) ?_
    refine lv_iload_n hx hb dX8_partOf_17 rfl (lv_at hl 1 rfl) ?_
    obtain ⟨t2, ht2, hF⟩ := m_bnd hF
    refine mVP (ci := 8) (n := 1) (rest := []) (As := [.int x0]) CC hKN hGl hS (c_X8_claimOf l E a v x0 t2 ht2) gX8_partOf_X8_claimOf rfl ⟨rfl, rfl⟩ (by decide +kernel) ⟨Nat.le_of_ble_eq_true rfl, Nat.le_of_ble_eq_true rfl⟩ hP rfl rfl rfl rfl hl.1 rfl (Nat.le_of_ble_eq_true rfl) ⟨Nat.zero_le _, Nat.zero_le _⟩ dX8_partOf_18 ?_
    refine W.eq (g2 := F0 m 21 ls [.int t2]) rfl ?_
    have hF := Option.some.inj hF
    subst hF
    rw [hQ]
    exact W.iret hx hb hr (fun t ht _ => ⟨rfl, ht⟩) (fun _ h => by cases h) dX8_partOf_21
  · have hF := m_neg (fun n9 => n9 c1) hF
    refine lv_aload_n hx hb dX8_partOf_5 rfl (lv_at hl 0 rfl) ?_
    refine va_get (D := E.1) (ci := 8) (v := .ref (Modela_s a)) (C := RX8) (T := TX8) (N := 20) hx hb hts k1 hown hK hP 0 rfl rfl 1 (by decide) k0 (fun _ h9 => h9) rfl dX8_partOf_6 ?_
    refine lv_iconst (v := 2) hx hb dX8_partOf_9 (by decide) ?_
    refine lv_iload_n hx hb dX8_partOf_10 rfl (lv_at hl 1 rfl) ?_
    refine lv_iadd hx hb dX8_partOf_11 ?_
    obtain ⟨h3, hF⟩ := m_chk hF
    refine va_iald (f := (Model_s v)) hx hb hK hP 1 1 rfl rfl (mIn_ok h3) dX8_partOf_12 ?_
    refine W.eq (g2 := F0 m 13 ls [.int ((Model_s v) ((2 + x0)).toNatClampNeg)]) rfl ?_
    refine lv_goto (tgt := 21) hx hb dX8_partOf_13 (by decide) ?_
    have hF := Option.some.inj hF
    subst hF
    rw [hQ]
    exact W.iret hx hb hr (fun t ht _ => ⟨rfl, ht⟩) (fun _ h => by cases h) dX8_partOf_21

abbrev rmX8_leastSkill : Room := { frames := 0, cells := 0, slots := 0, locals := 0 }
set_option maxRecDepth 100000 in
set_option maxHeartbeats 400000 in
theorem c_X8_leastSkill (l : Launch) (E : mE) (a : ModelA) (v : ModelV) (t : Int32) (hF : fn_X8_leastSkill v = some t) : Met l yX8_leastSkill wsX8_leastSkill rmX8_leastSkill (mPp E [.ref (Modela_self a)] (Model_c E a v)) (mSp (some (.int t))) 0 0 (fun _ => False) := by
  refine mOfP (cc := cX8_leastSkill) (maxL := 3) (ret := (some .int)) (by decide) rfl (Nat.le_of_ble_eq_true rfl) ?_
  intro p e_ s m args below meth c Q hQ CC hr hlocks hP hKN hGl ls hl
  have hS : va_S (fun _ => False) s.heap s.heap [] := va_S.rf
  have hK := hKN.1
  have hx := CC.1
  have hb := CC.2.1
  have hml := CC.2.2.1
  have hown : s.vm.findClass RX8 = some m.cls := CC.2.2.2.1
  have hts := CC.2.2.2.2
  have hl : lv_has ls 3 [(0, .ref (Modela_self a))] := hl
  have k0 := hts (.fieldLink RX8 9 "OneDidAllModel" "s" "[I") (by decide +kernel)
  have k1 := (show ∀ w ∈ u_ws RX8 TX8 20, w ∈ wsX8_leastSkill by decide +kernel)
  unfold fn_X8_leastSkill at hF
  refine lv_bipush (v := 99) hx hb dX8_leastSkill_0 (by decide) ?_
  refine lv_istore_n (lv' := [(1, .int 99), (0, .ref (Modela_self a))]) hx hb dX8_leastSkill_2 rfl hl (by decide) rfl (fun ls hl => ?_)
  refine lv_iconst (v := 0) hx hb dX8_leastSkill_3 (by decide) ?_
  refine lv_istore_n (lv' := [(2, .int 0), (1, .int 99), (0, .ref (Modela_self a))]) hx hb dX8_leastSkill_4 rfl hl (by decide) rfl (fun ls hl => ?_)
  have hL5 : ∀ (n : Nat) (y1_5 : Int32) (y2_5 : Int32) (ls : Array Slot), lp_X8_leastSkill_5 v n y1_5 y2_5 = some t → lv_has ls 3 [(0, .ref (Modela_self a)), (1, .int y1_5), (2, .int y2_5)] → W p l e_ rmX8_leastSkill s m args below meth c s.heap [] 0 0 Q (F0 m 5 ls []) := by
    intro n
    induction n with
    | zero =>
      intro y1_5 y2_5 ls hF
      exact nomatch (show (none : Option Int32) = some t from hF)
    | succ n ih5 =>
      intro y1_5 y2_5 ls hF hl
      have hF : st_X8_leastSkill_5 v (lp_X8_leastSkill_5 v n) y1_5 y2_5 = some t := hF
      unfold st_X8_leastSkill_5 at hF
      refine lv_iload_n hx hb dX8_leastSkill_5 rfl (lv_at hl 2 rfl) ?_
      refine lv_aload_n hx hb dX8_leastSkill_6 rfl (lv_at hl 0 rfl) ?_
      refine va_get (D := E.1) (ci := 8) (v := .ref (Modela_s a)) (C := RX8) (T := TX8) (N := 20) hx hb hts k1 hown hK hP 0 rfl rfl 1 (by decide) k0 (fun _ h9 => h9) rfl dX8_leastSkill_7 ?_
      refine lv_bipush (v := 20) hx hb dX8_leastSkill_10 (by decide) ?_
      obtain ⟨h1, hF⟩ := m_chk hF
      refine va_iald (f := (Model_s v)) hx hb hK hP 1 1 rfl rfl (mIn_ok h1) dX8_leastSkill_12 ?_
      refine W.eq (g2 := F0 m 13 ls [.int ((Model_s v) (20 : Int32).toNatClampNeg), .int y2_5]) rfl ?_
      refine lv_icmp_ge (tgt := 61) hx hb dX8_leastSkill_13 (by decide) (fun c2 => ?_) (fun c2 => ?_)
      · have hF := m_pos c2 hF
        refine lv_iload_n hx hb dX8_leastSkill_61 rfl (lv_at hl 1 rfl) ?_
        have hF := Option.some.inj hF
        subst hF
        rw [hQ]
        exact W.iret hx hb hr (fun t ht _ => ⟨rfl, ht⟩) (fun _ h => by cases h) dX8_leastSkill_62
      · have hF := m_neg c2 hF
        refine lv_aload_n hx hb dX8_leastSkill_16 rfl (lv_at hl 0 rfl) ?_
        refine va_get (D := E.1) (ci := 8) (v := .ref (Modela_s a)) (C := RX8) (T := TX8) (N := 20) hx hb hts k1 hown hK hP 0 rfl rfl 1 (by decide) k0 (fun _ h9 => h9) rfl dX8_leastSkill_17 ?_
        refine lv_bipush (v := 14) hx hb dX8_leastSkill_20 (by decide) ?_
        refine lv_iload_n hx hb dX8_leastSkill_22 rfl (lv_at hl 2 rfl) ?_
        refine lv_iadd hx hb dX8_leastSkill_23 ?_
        obtain ⟨h3, hF⟩ := m_chk hF
        refine va_iald (f := (Model_s v)) hx hb hK hP 1 1 rfl rfl (mIn_ok h3) dX8_leastSkill_24 ?_
        refine W.eq (g2 := F0 m 25 ls [.int ((Model_s v) ((14 + y2_5)).toNatClampNeg)]) rfl ?_
        obtain ⟨j54, hjd54, hF⟩ := m_jp hF
        have hj54 : ∀ (z0_54 : Int32) (ls : Array Slot), j54 z0_54 = some t → lv_has ls 3 [(0, .ref (Modela_self a)), (2, .int y2_5)] → W p l e_ rmX8_leastSkill s m args below meth c s.heap [] 0 0 Q (F0 m 54 ls [.int z0_54]) := by
          intro z0_54 ls hF hl
          rw [hjd54] at hF
          refine lv_istore_n (lv' := [(1, .int z0_54), (0, .ref (Modela_self a)), (2, .int y2_5)]) hx hb dX8_leastSkill_54 rfl hl (by decide) rfl (fun ls hl => ?_)
          refine lv_iinc (v := (y2_5 + 1)) (lv' := [(2, .int (y2_5 + 1)), (1, .int z0_54), (0, .ref (Modela_self a))]) hx hb dX8_leastSkill_55 hl (k := 2) rfl rfl (by decide) rfl (fun ls hl => ?_)
          refine lv_goto (tgt := 5) hx hb dX8_leastSkill_58 (by decide) ?_
          exact ih5 z0_54 (y2_5 + 1) ls hF (lv_sub hl [2, 1, 0] rfl)
        clear hjd54
        obtain ⟨j53, hjd53, hF⟩ := m_jp hF
        have hj53 : ∀ (ls : Array Slot), j53 () = some t → lv_has ls 3 [(0, .ref (Modela_self a)), (1, .int y1_5), (2, .int y2_5)] → W p l e_ rmX8_leastSkill s m args below meth c s.heap [] 0 0 Q (F0 m 53 ls []) := by
          intro ls hF hl
          rw [hjd53] at hF
          refine lv_iload_n hx hb dX8_leastSkill_53 rfl (lv_at hl 1 rfl) ?_
          exact hj54 y1_5 ls hF (lv_sub hl [0, 2] rfl)
        clear hjd53
        refine lv_if_ne (tgt := 53) hx hb dX8_leastSkill_25 (by decide) (fun c4 => ?_) (fun c4 => ?_)
        · have hF := m_pos c4 hF
          exact hj53 ls hF (lv_sub hl [0, 1, 2] rfl)
        · have hF := m_neg (fun n9 => n9 c4) hF
          refine lv_aload_n hx hb dX8_leastSkill_28 rfl (lv_at hl 0 rfl) ?_
          refine va_get (D := E.1) (ci := 8) (v := .ref (Modela_s a)) (C := RX8) (T := TX8) (N := 20) hx hb hts k1 hown hK hP 0 rfl rfl 1 (by decide) k0 (fun _ h9 => h9) rfl dX8_leastSkill_29 ?_
          refine lv_bipush (v := 39) hx hb dX8_leastSkill_32 (by decide) ?_
          refine lv_iload_n hx hb dX8_leastSkill_34 rfl (lv_at hl 2 rfl) ?_
          refine lv_iadd hx hb dX8_leastSkill_35 ?_
          obtain ⟨h5, hF⟩ := m_chk hF
          refine va_iald (f := (Model_s v)) hx hb hK hP 1 1 rfl rfl (mIn_ok h5) dX8_leastSkill_36 ?_
          refine W.eq (g2 := F0 m 37 ls [.int ((Model_s v) ((39 + y2_5)).toNatClampNeg)]) rfl ?_
          refine lv_iload_n hx hb dX8_leastSkill_37 rfl (lv_at hl 1 rfl) ?_
          refine lv_icmp_ge (tgt := 53) hx hb dX8_leastSkill_38 (by decide) (fun c6 => ?_) (fun c6 => ?_)
          · have hF := m_pos c6 hF
            exact hj53 ls hF (lv_sub hl [0, 1, 2] rfl)
          · have hF := m_neg c6 hF
            refine lv_aload_n hx hb dX8_leastSkill_41 rfl (lv_at hl 0 rfl) ?_
            refine va_get (D := E.1) (ci := 8) (v := .ref (Modela_s a)) (C := RX8) (T := TX8) (N := 20) hx hb hts k1 hown hK hP 0 rfl rfl 1 (by decide) k0 (fun _ h9 => h9) rfl dX8_leastSkill_42 ?_
            refine lv_bipush (v := 39) hx hb dX8_leastSkill_45 (by decide) ?_
            refine lv_iload_n hx hb dX8_leastSkill_47 rfl (lv_at hl 2 rfl) ?_
            refine lv_iadd hx hb dX8_leastSkill_48 ?_
            obtain ⟨h7, hF⟩ := m_chk hF
            refine va_iald (f := (Model_s v)) hx hb hK hP 1 1 rfl rfl (mIn_ok h7) dX8_leastSkill_49 ?_
            refine W.eq (g2 := F0 m 50 ls [.int ((Model_s v) ((39 + y2_5)).toNatClampNeg)]) rfl ?_
            refine lv_goto (tgt := 54) hx hb dX8_leastSkill_50 (by decide) ?_
            exact hj54 ((Model_s v) ((39 + y2_5)).toNatClampNeg) ls hF (lv_sub hl [0, 2] rfl)
  exact hL5 m_N 99 0 ls hF (lv_sub hl [2, 1, 0] rfl)

abbrev rmX8_markOf : Room := { frames := 4, cells := 0, slots := 0, locals := 89 }
set_option maxRecDepth 100000 in
set_option maxHeartbeats 400000 in
theorem c_X8_markOf (l : Launch) (E : mE) (a : ModelA) (v : ModelV) (x0 : Int32) (x1 : Int32) (t : Int32) (hF : fn_X8_markOf v x0 x1 = some t) : Met l yX8_markOf wsX8_markOf rmX8_markOf (mPp E [.ref (Modela_self a), .int x0, .int x1] (Model_c E a v)) (mSp (some (.int t))) 0 0 (fun _ => False) := by
  refine mOfP (cc := cX8_markOf) (maxL := 6) (ret := (some .int)) (by decide) rfl (Nat.le_of_ble_eq_true rfl) ?_
  intro p e_ s m args below meth c Q hQ CC hr hlocks hP hKN hGl ls hl
  have hS : va_S (fun _ => False) s.heap s.heap [] := va_S.rf
  have hK := hKN.1
  have hx := CC.1
  have hb := CC.2.1
  have hml := CC.2.2.1
  have hown : s.vm.findClass RX8 = some m.cls := CC.2.2.2.1
  have hts := CC.2.2.2.2
  have hl : lv_has ls 6 [(0, .ref (Modela_self a)), (1, .int x0), (2, .int x1)] := hl
  have k0 := hts (.fieldLink RX8 9 "OneDidAllModel" "s" "[I") (by decide +kernel)
  have k1 := (show ∀ w ∈ u_ws RX8 TX8 20, w ∈ wsX8_markOf by decide +kernel)
  unfold fn_X8_markOf at hF
  refine lv_aload_n hx hb dX8_markOf_0 rfl (lv_at hl 0 rfl) ?_
  refine va_get (D := E.1) (ci := 8) (v := .ref (Modela_s a)) (C := RX8) (T := TX8) (N := 20) hx hb hts k1 hown hK hP 0 rfl rfl 1 (by decide) k0 (fun _ h9 => h9) rfl dX8_markOf_1 ?_
  refine lv_bipush (v := 14) hx hb dX8_markOf_4 (by decide) ?_
  refine lv_iload_n hx hb dX8_markOf_6 rfl (lv_at hl 1 rfl) ?_
  refine lv_iadd hx hb dX8_markOf_7 ?_
  obtain ⟨h1, hF⟩ := m_chk hF
  refine va_iald (f := (Model_s v)) hx hb hK hP 1 1 rfl rfl (mIn_ok h1) dX8_markOf_8 ?_
  refine W.eq (g2 := F0 m 9 ls [.int ((Model_s v) ((14 + x0)).toNatClampNeg)]) rfl ?_
  refine lv_iconst (v := 1) hx hb dX8_markOf_9 (by decide) ?_
  refine lv_icmp_ne (tgt := 15) hx hb dX8_markOf_10 (by decide) (fun c2 => ?_) (fun c2 => ?_)
  · have hF := m_pos c2 hF
    refine lv_aload_n hx hb dX8_markOf_15 rfl (lv_at hl 0 rfl) ?_
    obtain ⟨t3, ht3, hF⟩ := m_bnd hF
    refine mVP (ci := 8) (n := 0) (rest := []) (As := []) CC hKN hGl hS (c_X8_baseNow l E a v t3 ht3) gX8_markOf_X8_baseNow rfl ⟨rfl, rfl⟩ (by decide +kernel) ⟨Nat.le_of_ble_eq_true rfl, Nat.le_of_ble_eq_true rfl⟩ hP rfl rfl rfl rfl hl.1 rfl (Nat.le_of_ble_eq_true rfl) ⟨Nat.zero_le _, Nat.zero_le _⟩ dX8_markOf_16 ?_
    refine W.eq (g2 := F0 m 19 ls [.int t3]) rfl ?_
    refine lv_istore_n (lv' := [(3, .int t3), (0, .ref (Modela_self a)), (1, .int x0), (2, .int x1)]) hx hb dX8_markOf_19 rfl hl (by decide) rfl (fun ls hl => ?_)
    refine lv_iload_n hx hb dX8_markOf_20 rfl (lv_at hl 3 rfl) ?_
    refine lv_if_ne (tgt := 26) hx hb dX8_markOf_21 (by decide) (fun c4 => ?_) (fun c4 => ?_)
    · have hF := m_pos c4 hF
      refine lv_iload_n hx hb dX8_markOf_26 rfl (lv_at hl 3 rfl) ?_
      refine lv_iconst (v := 3) hx hb dX8_markOf_27 (by decide) ?_
      refine lv_icmp_ne (tgt := 41) hx hb dX8_markOf_28 (by decide) (fun c5 => ?_) (fun c5 => ?_)
      · have hF := m_pos c5 hF
        refine lv_iconst (v := 0) hx hb dX8_markOf_41 (by decide) ?_
        refine lv_istore (lv' := [(4, .int 0), (3, .int t3), (0, .ref (Modela_self a)), (1, .int x0), (2, .int x1)]) hx hb dX8_markOf_42 hl (by decide) rfl (fun ls hl => ?_)
        refine lv_iconst (v := 0) hx hb dX8_markOf_44 (by decide) ?_
        refine lv_istore (lv' := [(5, .int 0), (4, .int 0), (3, .int t3), (0, .ref (Modela_self a)), (1, .int x0), (2, .int x1)]) hx hb dX8_markOf_45 hl (by decide) rfl (fun ls hl => ?_)
        obtain ⟨j94, hjd94, hF⟩ := m_jp hF
        have hj94 : ∀ (x4_94 : Int32) (ls : Array Slot), j94 x4_94 = some t → lv_has ls 6 [(0, .ref (Modela_self a)), (1, .int x0), (2, .int x1), (3, .int t3), (4, .int x4_94)] → W p l e_ rmX8_markOf s m args below meth c s.heap [] 0 0 Q (F0 m 94 ls []) := by
          intro x4_94 ls hF hl
          rw [hjd94] at hF
          refine lv_iload hx hb dX8_markOf_94 (lv_at hl 4 rfl) ?_
          refine lv_if_ne (tgt := 103) hx hb dX8_markOf_96 (by decide) (fun c6 => ?_) (fun c6 => ?_)
          · have hF := m_pos c6 hF
            refine lv_iload_n hx hb dX8_markOf_103 rfl (lv_at hl 3 rfl) ?_
            refine lv_aload_n hx hb dX8_markOf_104 rfl (lv_at hl 0 rfl) ?_
            refine lv_iload_n hx hb dX8_markOf_105 rfl (lv_at hl 1 rfl) ?_
            refine lv_iload_n hx hb dX8_markOf_106 rfl (lv_at hl 2 rfl) ?_
            obtain ⟨t7, ht7, hF⟩ := m_bnd hF
            refine mVP (ci := 8) (n := 2) (rest := [.int t3]) (As := [.int x0, .int x1]) CC hKN hGl hS (c_X8_partOf l E a v x0 x1 t7 ht7) gX8_markOf_X8_partOf rfl ⟨rfl, rfl⟩ (by decide +kernel) ⟨Nat.le_of_ble_eq_true rfl, Nat.le_of_ble_eq_true rfl⟩ hP rfl rfl rfl rfl hl.1 rfl (Nat.le_of_ble_eq_true rfl) ⟨Nat.zero_le _, Nat.zero_le _⟩ dX8_markOf_107 ?_
            refine W.eq (g2 := F0 m 110 ls [.int t7, .int t3]) rfl ?_
            refine lv_imul hx hb dX8_markOf_110 ?_
            refine lv_aload_n hx hb dX8_markOf_111 rfl (lv_at hl 0 rfl) ?_
            obtain ⟨t8, ht8, hF⟩ := m_bnd hF
            refine mVP (ci := 8) (n := 0) (rest := [.int (t3 * t7)]) (As := []) CC hKN hGl hS (c_X8_manyIn l E a v t8 ht8) gX8_markOf_X8_manyIn rfl ⟨rfl, rfl⟩ (by decide +kernel) ⟨Nat.le_of_ble_eq_true rfl, Nat.le_of_ble_eq_true rfl⟩ hP rfl rfl rfl rfl hl.1 rfl (Nat.le_of_ble_eq_true rfl) ⟨Nat.zero_le _, Nat.zero_le _⟩ dX8_markOf_112 ?_
            refine W.eq (g2 := F0 m 115 ls [.int t8, .int (t3 * t7)]) rfl ?_
            refine lv_imul hx hb dX8_markOf_115 ?_
            refine lv_iload hx hb dX8_markOf_116 (lv_at hl 4 rfl) ?_
            obtain ⟨h9, hF⟩ := m_chk hF
            refine lv_idiv hx hb dX8_markOf_118 h9 ?_
            refine lv_iconst (v := 0) hx hb dX8_markOf_119 (by decide) ?_
            refine lv_bipush (v := 100) hx hb dX8_markOf_120 (by decide) ?_
            obtain ⟨t10, ht10, hF⟩ := m_bnd hF
            refine mSP (n := 3) (rest := []) (As := [.int (((t3 * t7) * t8) / x4_94), .int 0, .int 100]) CC hKN hGl hS (c_X8_within l E (((t3 * t7) * t8) / x4_94) 0 100 t10 ht10) gX8_markOf_X8_within rfl ⟨rfl, rfl⟩ (by decide +kernel) ⟨Nat.le_of_ble_eq_true rfl, Nat.le_of_ble_eq_true rfl⟩ m_nil rfl hl.1 rfl (Nat.le_of_ble_eq_true rfl) ⟨Nat.zero_le _, Nat.zero_le _⟩ dX8_markOf_122 ?_
            refine W.eq (g2 := F0 m 125 ls [.int t10]) rfl ?_
            have hF := Option.some.inj hF
            subst hF
            rw [hQ]
            exact W.iret hx hb hr (fun t ht _ => ⟨rfl, ht⟩) (fun _ h => by cases h) dX8_markOf_125
          · have hF := m_neg (fun n9 => n9 c6) hF
            refine lv_iload_n hx hb dX8_markOf_99 rfl (lv_at hl 3 rfl) ?_
            refine lv_goto (tgt := 125) hx hb dX8_markOf_100 (by decide) ?_
            have hF := Option.some.inj hF
            subst hF
            rw [hQ]
            exact W.iret hx hb hr (fun t ht _ => ⟨rfl, ht⟩) (fun _ h => by cases h) dX8_markOf_125
        clear hjd94
        have hL47 : ∀ (n : Nat) (y4_47 : Int32) (y5_47 : Int32) (ls : Array Slot), lp_X8_markOf_47 v x1 j94 n y4_47 y5_47 = some t → lv_has ls 6 [(0, .ref (Modela_self a)), (1, .int x0), (2, .int x1), (3, .int t3), (4, .int y4_47), (5, .int y5_47)] → W p l e_ rmX8_markOf s m args below meth c s.heap [] 0 0 Q (F0 m 47 ls []) := by
          intro n
          induction n with
          | zero =>
            intro y4_47 y5_47 ls hF
            exact nomatch (show (none : Option Int32) = some t from hF)
          | succ n ih47 =>
            intro y4_47 y5_47 ls hF hl
            have hF : st_X8_markOf_47 v x1 j94 (lp_X8_markOf_47 v x1 j94 n) y4_47 y5_47 = some t := hF
            unfold st_X8_markOf_47 at hF
            refine lv_iload hx hb dX8_markOf_47 (lv_at hl 5 rfl) ?_
            refine lv_aload_n hx hb dX8_markOf_49 rfl (lv_at hl 0 rfl) ?_
            refine va_get (D := E.1) (ci := 8) (v := .ref (Modela_s a)) (C := RX8) (T := TX8) (N := 20) hx hb hts k1 hown hK hP 0 rfl rfl 1 (by decide) k0 (fun _ h9 => h9) rfl dX8_markOf_50 ?_
            refine lv_bipush (v := 20) hx hb dX8_markOf_53 (by decide) ?_
            obtain ⟨h11, hF⟩ := m_chk hF
            refine va_iald (f := (Model_s v)) hx hb hK hP 1 1 rfl rfl (mIn_ok h11) dX8_markOf_55 ?_
            refine W.eq (g2 := F0 m 56 ls [.int ((Model_s v) (20 : Int32).toNatClampNeg), .int y5_47]) rfl ?_
            refine lv_icmp_ge (tgt := 94) hx hb dX8_markOf_56 (by decide) (fun c12 => ?_) (fun c12 => ?_)
            · have hF := m_pos c12 hF
              exact hj94 y4_47 ls hF (lv_sub hl [0, 1, 2, 3, 4] rfl)
            · have hF := m_neg c12 hF
              refine lv_iload hx hb dX8_markOf_59 (lv_at hl 4 rfl) ?_
              refine lv_aload_n hx hb dX8_markOf_61 rfl (lv_at hl 0 rfl) ?_
              refine va_get (D := E.1) (ci := 8) (v := .ref (Modela_s a)) (C := RX8) (T := TX8) (N := 20) hx hb hts k1 hown hK hP 0 rfl rfl 1 (by decide) k0 (fun _ h9 => h9) rfl dX8_markOf_62 ?_
              refine lv_bipush (v := 14) hx hb dX8_markOf_65 (by decide) ?_
              refine lv_iload hx hb dX8_markOf_67 (lv_at hl 5 rfl) ?_
              refine lv_iadd hx hb dX8_markOf_69 ?_
              obtain ⟨h13, hF⟩ := m_chk hF
              refine va_iald (f := (Model_s v)) hx hb hK hP 1 1 rfl rfl (mIn_ok h13) dX8_markOf_70 ?_
              refine W.eq (g2 := F0 m 71 ls [.int ((Model_s v) ((14 + y5_47)).toNatClampNeg), .int y4_47]) rfl ?_
              obtain ⟨j85, hjd85, hF⟩ := m_jp hF
              have hj85 : ∀ (z0_85 : Int32) (ls : Array Slot), j85 z0_85 = some t → lv_has ls 6 [(0, .ref (Modela_self a)), (1, .int x0), (2, .int x1), (3, .int t3), (5, .int y5_47)] → W p l e_ rmX8_markOf s m args below meth c s.heap [] 0 0 Q (F0 m 85 ls [.int z0_85, .int y4_47]) := by
                intro z0_85 ls hF hl
                rw [hjd85] at hF
                refine lv_iadd hx hb dX8_markOf_85 ?_
                refine lv_istore (lv' := [(4, .int (y4_47 + z0_85)), (0, .ref (Modela_self a)), (1, .int x0), (2, .int x1), (3, .int t3), (5, .int y5_47)]) hx hb dX8_markOf_86 hl (by decide) rfl (fun ls hl => ?_)
                refine lv_iinc (v := (y5_47 + 1)) (lv' := [(5, .int (y5_47 + 1)), (4, .int (y4_47 + z0_85)), (0, .ref (Modela_self a)), (1, .int x0), (2, .int x1), (3, .int t3)]) hx hb dX8_markOf_88 hl (k := 5) rfl rfl (by decide) rfl (fun ls hl => ?_)
                refine lv_goto (tgt := 47) hx hb dX8_markOf_91 (by decide) ?_
                exact ih47 (y4_47 + z0_85) (y5_47 + 1) ls hF (lv_sub hl [2, 3, 4, 5, 1, 0] rfl)
              clear hjd85
              refine lv_if_ne (tgt := 84) hx hb dX8_markOf_71 (by decide) (fun c14 => ?_) (fun c14 => ?_)
              · have hF := m_pos c14 hF
                refine lv_iconst (v := 0) hx hb dX8_markOf_84 (by decide) ?_
                exact hj85 0 ls hF (lv_sub hl [0, 1, 2, 3, 5] rfl)
              · have hF := m_neg (fun n9 => n9 c14) hF
                refine lv_aload_n hx hb dX8_markOf_74 rfl (lv_at hl 0 rfl) ?_
                refine lv_iload hx hb dX8_markOf_75 (lv_at hl 5 rfl) ?_
                refine lv_iload_n hx hb dX8_markOf_77 rfl (lv_at hl 2 rfl) ?_
                obtain ⟨t15, ht15, hF⟩ := m_bnd hF
                refine mVP (ci := 8) (n := 2) (rest := [.int y4_47]) (As := [.int y5_47, .int x1]) CC hKN hGl hS (c_X8_partOf l E a v y5_47 x1 t15 ht15) gX8_markOf_X8_partOf rfl ⟨rfl, rfl⟩ (by decide +kernel) ⟨Nat.le_of_ble_eq_true rfl, Nat.le_of_ble_eq_true rfl⟩ hP rfl rfl rfl rfl hl.1 rfl (Nat.le_of_ble_eq_true rfl) ⟨Nat.zero_le _, Nat.zero_le _⟩ dX8_markOf_78 ?_
                refine W.eq (g2 := F0 m 81 ls [.int t15, .int y4_47]) rfl ?_
                refine lv_goto (tgt := 85) hx hb dX8_markOf_81 (by decide) ?_
                exact hj85 t15 ls hF (lv_sub hl [0, 1, 2, 3, 5] rfl)
        exact hL47 m_N 0 0 ls hF (lv_sub hl [3, 4, 5, 2, 1, 0] rfl)
      · have hF := m_neg (fun n9 => n9 c5) hF
        refine lv_iload_n hx hb dX8_markOf_31 rfl (lv_at hl 0 rfl) ?_
        refine lv_aload_n hx hb dX8_markOf_32 rfl (lv_at hl 1 rfl) ?_
        obtain ⟨t16, ht16, hF⟩ := m_bnd hF
        refine mVP (ci := 8) (n := 0) (rest := [.int t3]) (As := []) CC hKN hGl hS (c_X8_leastSkill l E a v t16 ht16) gX8_markOf_X8_leastSkill rfl ⟨rfl, rfl⟩ (by decide +kernel) ⟨Nat.le_of_ble_eq_true rfl, Nat.le_of_ble_eq_true rfl⟩ hP rfl rfl rfl rfl hl.1 rfl (Nat.le_of_ble_eq_true rfl) ⟨Nat.zero_le _, Nat.zero_le _⟩ dX8_markOf_33 ?_
        refine W.eq (g2 := F0 m 36 ls [.int t16, .int t3]) rfl ?_
        refine lv_imul hx hb dX8_markOf_36 ?_
        refine lv_bipush (v := 9) hx hb dX8_markOf_37 (by decide) ?_
        refine lv_idiv hx hb dX8_markOf_39 (by decide) ?_
        have hF := Option.some.inj hF
        subst hF
        rw [hQ]
        exact W.iret hx hb hr (fun t ht _ => ⟨rfl, ht⟩) (fun _ h => by cases h) dX8_markOf_40
    · have hF := m_neg (fun n9 => n9 c4) hF
      refine lv_iload_n hx hb dX8_markOf_24 rfl (lv_at hl 0 rfl) ?_
      have hF := Option.some.inj hF
      subst hF
      rw [hQ]
      exact W.iret hx hb hr (fun t ht _ => ⟨rfl, ht⟩) (fun _ h => by cases h) dX8_markOf_25
  · have hF := m_neg (fun n9 => n9 c2) hF
    refine lv_iconst (v := 0) hx hb dX8_markOf_13 (by decide) ?_
    have hF := Option.some.inj hF
    subst hF
    rw [hQ]
    exact W.iret hx hb hr (fun t ht _ => ⟨rfl, ht⟩) (fun _ h => by cases h) dX8_markOf_14

abbrev rmX8_pupil : Room := { frames := 1, cells := 0, slots := 0, locals := 22 }
set_option maxRecDepth 100000 in
set_option maxHeartbeats 400000 in
theorem c_X8_pupil (l : Launch) (E : mE) (a : ModelA) (v : ModelV) (x0 : Int32) (x1 : Int32) (x2 : Int32) (x3 : Int32) (t : (Int32 × ModelV)) (hF : fn_X8_pupil v x0 x1 x2 x3 = some t) (sz : Nat) : Met l yX8_pupil wsX8_pupil rmX8_pupil (mPm E [.ref (Modela_self a), .int x0, .int x1, .int x2, .int x3] sz ((Model_c E a v)) (([] : va_W))) (mSm E (some (.int t.1)) ((Model_c E a t.2)) (va_A ((Model_c E a v)) sz)) 0 0 (va_A ((Model_c E a v)) sz) := by
  refine mOfM (cc := cX8_pupil) (maxL := 7) (ret := (some .int)) (by decide) rfl (Nat.le_of_ble_eq_true rfl) ?_
  intro p e_ s m args below meth c Q A hQ CC hr hlocks hin hA hP hD hKN hGl hR0 hRA ls hl
  have hS : va_S A s.heap s.heap [] := va_S.rf
  have hK := hKN.1
  have hx := CC.1
  have hb := CC.2.1
  have hml := CC.2.2.1
  have hown : s.vm.findClass RX8 = some m.cls := CC.2.2.2.1
  have hts := CC.2.2.2.2
  have hl : lv_has ls 7 [(0, .ref (Modela_self a)), (1, .int x0), (2, .int x1), (3, .int x2), (4, .int x3)] := hl
  have k0 := hts (.fieldLink RX8 9 "OneDidAllModel" "s" "[I") (by decide +kernel)
  have k1 := (show ∀ w ∈ u_ws RX8 TX8 20, w ∈ wsX8_pupil by decide +kernel)
  have hP : va_P E.1 vwCl (Model_c E a v) s.heap := hP
  obtain ⟨H, hH⟩ : ∃ H, H = s.heap := ⟨_, rfl⟩
  obtain ⟨locs, hlc⟩ : ∃ z : List Loc, z = [] := ⟨_, rfl⟩
  rw [← hH] at hP
  rw [← hlc] at hS
  have hS : va_S A s.heap H locs := by rw [hH]; exact hS
  rw [← hH, ← hlc]
  unfold fn_X8_pupil at hF
  refine lv_iload_n hx hb dX8_pupil_0 rfl (lv_at hl 1 rfl) ?_
  refine lv_iconst (v := 0) hx hb dX8_pupil_1 (by decide) ?_
  refine lv_bipush (v := 6) hx hb dX8_pupil_2 (by decide) ?_
  obtain ⟨t1, ht1, hF⟩ := m_bnd hF
  refine mSP (n := 3) (rest := []) (As := [.int x0, .int 0, .int 6]) CC hKN hGl hS (c_X8_in l E x0 0 6 t1 ht1) gX8_pupil_X8_in rfl ⟨rfl, rfl⟩ (by decide +kernel) ⟨Nat.le_of_ble_eq_true rfl, Nat.le_of_ble_eq_true rfl⟩ m_nil rfl hl.1 rfl (Nat.le_of_ble_eq_true rfl) ⟨Nat.zero_le _, Nat.zero_le _⟩ dX8_pupil_4 ?_
  refine W.eq (g2 := F0 m 7 ls [.int t1]) rfl ?_
  refine lv_if_ne (tgt := 12) hx hb dX8_pupil_7 (by decide) (fun c2 => ?_) (fun c2 => ?_)
  · have hF := m_pos c2 hF
    refine lv_iload_n hx hb dX8_pupil_12 rfl (lv_at hl 2 rfl) ?_
    refine lv_iconst (v := 0) hx hb dX8_pupil_13 (by decide) ?_
    refine lv_bipush (v := 9) hx hb dX8_pupil_14 (by decide) ?_
    obtain ⟨t3, ht3, hF⟩ := m_bnd hF
    refine mSP (n := 3) (rest := []) (As := [.int x1, .int 0, .int 9]) CC hKN hGl hS (c_X8_in l E x1 0 9 t3 ht3) gX8_pupil_X8_in rfl ⟨rfl, rfl⟩ (by decide +kernel) ⟨Nat.le_of_ble_eq_true rfl, Nat.le_of_ble_eq_true rfl⟩ m_nil rfl hl.1 rfl (Nat.le_of_ble_eq_true rfl) ⟨Nat.zero_le _, Nat.zero_le _⟩ dX8_pupil_16 ?_
    refine W.eq (g2 := F0 m 19 ls [.int t3]) rfl ?_
    refine lv_if_eq (tgt := 43) hx hb dX8_pupil_19 (by decide) (fun c4 => ?_) (fun c4 => ?_)
    · have hF := m_pos c4 hF
      refine lv_bipush (v := (-2)) hx hb dX8_pupil_43 (by decide) ?_
      have hF := Option.some.inj hF
      subst hF
      rw [hQ]
      exact W.iret hx hb hr (fun t ht _ => ⟨⟨rfl, by rw [ht]; exact hP, hD⟩, hS.F ht⟩) hS.2.2 dX8_pupil_45
    · have hF := m_neg c4 hF
      refine lv_iload_n hx hb dX8_pupil_22 rfl (lv_at hl 3 rfl) ?_
      refine lv_iconst (v := 1) hx hb dX8_pupil_23 (by decide) ?_
      refine lv_bipush (v := 9) hx hb dX8_pupil_24 (by decide) ?_
      obtain ⟨t5, ht5, hF⟩ := m_bnd hF
      refine mSP (n := 3) (rest := []) (As := [.int x2, .int 1, .int 9]) CC hKN hGl hS (c_X8_in l E x2 1 9 t5 ht5) gX8_pupil_X8_in rfl ⟨rfl, rfl⟩ (by decide +kernel) ⟨Nat.le_of_ble_eq_true rfl, Nat.le_of_ble_eq_true rfl⟩ m_nil rfl hl.1 rfl (Nat.le_of_ble_eq_true rfl) ⟨Nat.zero_le _, Nat.zero_le _⟩ dX8_pupil_26 ?_
      refine W.eq (g2 := F0 m 29 ls [.int t5]) rfl ?_
      refine lv_if_eq (tgt := 43) hx hb dX8_pupil_29 (by decide) (fun c6 => ?_) (fun c6 => ?_)
      · have hF := m_pos c6 hF
        refine lv_bipush (v := (-2)) hx hb dX8_pupil_43 (by decide) ?_
        have hF := Option.some.inj hF
        subst hF
        rw [hQ]
        exact W.iret hx hb hr (fun t ht _ => ⟨⟨rfl, by rw [ht]; exact hP, hD⟩, hS.F ht⟩) hS.2.2 dX8_pupil_45
      · have hF := m_neg c6 hF
        refine lv_iload hx hb dX8_pupil_32 (lv_at hl 4 rfl) ?_
        refine lv_iconst (v := 0) hx hb dX8_pupil_34 (by decide) ?_
        refine lv_bipush (v := 99) hx hb dX8_pupil_35 (by decide) ?_
        obtain ⟨t7, ht7, hF⟩ := m_bnd hF
        refine mSP (n := 3) (rest := []) (As := [.int x3, .int 0, .int 99]) CC hKN hGl hS (c_X8_in l E x3 0 99 t7 ht7) gX8_pupil_X8_in rfl ⟨rfl, rfl⟩ (by decide +kernel) ⟨Nat.le_of_ble_eq_true rfl, Nat.le_of_ble_eq_true rfl⟩ m_nil rfl hl.1 rfl (Nat.le_of_ble_eq_true rfl) ⟨Nat.zero_le _, Nat.zero_le _⟩ dX8_pupil_37 ?_
        refine W.eq (g2 := F0 m 40 ls [.int t7]) rfl ?_
        refine lv_if_ne (tgt := 46) hx hb dX8_pupil_40 (by decide) (fun c8 => ?_) (fun c8 => ?_)
        · have hF := m_pos c8 hF
          refine lv_aload_n hx hb dX8_pupil_46 rfl (lv_at hl 0 rfl) ?_
          refine va_get (D := E.1) (ci := 8) (v := .ref (Modela_s a)) (C := RX8) (T := TX8) (N := 20) hx hb hts k1 hown hK hP 0 rfl rfl 1 (by decide) k0 (fun _ h9 => h9) rfl dX8_pupil_47 ?_
          refine lv_bipush (v := 20) hx hb dX8_pupil_50 (by decide) ?_
          obtain ⟨h9, hF⟩ := m_chk hF
          refine va_iald (f := (Model_s v)) hx hb hK hP 1 1 rfl rfl (mIn_ok h9) dX8_pupil_52 ?_
          refine W.eq (g2 := F0 m 53 ls [.int ((Model_s v) (20 : Int32).toNatClampNeg)]) rfl ?_
          refine lv_bipush (v := 6) hx hb dX8_pupil_53 (by decide) ?_
          refine lv_icmp_ne (tgt := 61) hx hb dX8_pupil_55 (by decide) (fun c10 => ?_) (fun c10 => ?_)
          · have hF := m_pos c10 hF
            refine lv_aload_n hx hb dX8_pupil_61 rfl (lv_at hl 0 rfl) ?_
            refine va_get (D := E.1) (ci := 8) (v := .ref (Modela_s a)) (C := RX8) (T := TX8) (N := 20) hx hb hts k1 hown hK hP 0 rfl rfl 1 (by decide) k0 (fun _ h9 => h9) rfl dX8_pupil_62 ?_
            refine lv_bipush (v := 20) hx hb dX8_pupil_65 (by decide) ?_
            obtain ⟨h11, hF⟩ := m_chk hF
            refine va_iald (f := (Model_s v)) hx hb hK hP 1 1 rfl rfl (mIn_ok h11) dX8_pupil_67 ?_
            refine W.eq (g2 := F0 m 68 ls [.int ((Model_s v) (20 : Int32).toNatClampNeg)]) rfl ?_
            refine lv_istore (lv' := [(5, .int ((Model_s v) (20 : Int32).toNatClampNeg)), (0, .ref (Modela_self a)), (1, .int x0), (2, .int x1), (3, .int x2), (4, .int x3)]) hx hb dX8_pupil_68 hl (by decide) rfl (fun ls hl => ?_)
            refine lv_aload_n hx hb dX8_pupil_70 rfl (lv_at hl 1 rfl) ?_
            refine va_get (D := E.1) (ci := 8) (v := .ref (Modela_s a)) (C := RX8) (T := TX8) (N := 20) hx hb hts k1 hown hK hP 0 rfl rfl 1 (by decide) k0 (fun _ h9 => h9) rfl dX8_pupil_71 ?_
            refine lv_bipush (v := 27) hx hb dX8_pupil_74 (by decide) ?_
            refine lv_iload hx hb dX8_pupil_76 (lv_at hl 0 rfl) ?_
            refine lv_iadd hx hb dX8_pupil_78 ?_
            refine lv_iload_n hx hb dX8_pupil_79 rfl (lv_at hl 2 rfl) ?_
            obtain ⟨h12, hF⟩ := m_chk hF
            refine va_iast (f := (Model_s v)) hx hb hK hP hD hS 1 1 rfl rfl (mIn_ok h12) dX8_pupil_80 (fun H locs hP hD hS => ?_)
            have hP : va_P E.1 vwCl (Model_c E a (Model_s_s v (upd (Model_s v) ((27 + ((Model_s v) (20 : Int32).toNatClampNeg))).toNatClampNeg x0))) H := hP
            have hD : va_D A (Model_c E a (Model_s_s v (upd (Model_s v) ((27 + ((Model_s v) (20 : Int32).toNatClampNeg))).toNatClampNeg x0))) := hD
            refine lv_aload_n hx hb dX8_pupil_81 rfl (lv_at hl 1 rfl) ?_
            refine va_get (D := E.1) (ci := 8) (v := .ref (Modela_s a)) (C := RX8) (T := TX8) (N := 20) hx hb hts k1 hown hK hP 0 rfl rfl 1 (by decide) k0 (fun _ h9 => h9) rfl dX8_pupil_82 ?_
            refine lv_bipush (v := 33) hx hb dX8_pupil_85 (by decide) ?_
            refine lv_iload hx hb dX8_pupil_87 (lv_at hl 0 rfl) ?_
            refine lv_iadd hx hb dX8_pupil_89 ?_
            refine lv_iload_n hx hb dX8_pupil_90 rfl (lv_at hl 3 rfl) ?_
            obtain ⟨h13, hF⟩ := m_chk hF
            refine va_iast (f := (upd (Model_s v) ((27 + ((Model_s v) (20 : Int32).toNatClampNeg))).toNatClampNeg x0)) hx hb hK hP hD hS 1 1 rfl rfl (mIn_ok h13) dX8_pupil_91 (fun H locs hP hD hS => ?_)
            have hP : va_P E.1 vwCl (Model_c E a (Model_s_s v (upd (upd (Model_s v) ((27 + ((Model_s v) (20 : Int32).toNatClampNeg))).toNatClampNeg x0) ((33 + ((Model_s v) (20 : Int32).toNatClampNeg))).toNatClampNeg x1))) H := hP
            have hD : va_D A (Model_c E a (Model_s_s v (upd (upd (Model_s v) ((27 + ((Model_s v) (20 : Int32).toNatClampNeg))).toNatClampNeg x0) ((33 + ((Model_s v) (20 : Int32).toNatClampNeg))).toNatClampNeg x1))) := hD
            refine lv_aload_n hx hb dX8_pupil_92 rfl (lv_at hl 1 rfl) ?_
            refine va_get (D := E.1) (ci := 8) (v := .ref (Modela_s a)) (C := RX8) (T := TX8) (N := 20) hx hb hts k1 hown hK hP 0 rfl rfl 1 (by decide) k0 (fun _ h9 => h9) rfl dX8_pupil_93 ?_
            refine lv_bipush (v := 39) hx hb dX8_pupil_96 (by decide) ?_
            refine lv_iload hx hb dX8_pupil_98 (lv_at hl 0 rfl) ?_
            refine lv_iadd hx hb dX8_pupil_100 ?_
            refine lv_iload_n hx hb dX8_pupil_101 rfl (lv_at hl 4 rfl) ?_
            obtain ⟨h14, hF⟩ := m_chk hF
            refine va_iast (f := (upd (upd (Model_s v) ((27 + ((Model_s v) (20 : Int32).toNatClampNeg))).toNatClampNeg x0) ((33 + ((Model_s v) (20 : Int32).toNatClampNeg))).toNatClampNeg x1)) hx hb hK hP hD hS 1 1 rfl rfl (mIn_ok h14) dX8_pupil_102 (fun H locs hP hD hS => ?_)
            have hP : va_P E.1 vwCl (Model_c E a (Model_s_s v (upd (upd (upd (Model_s v) ((27 + ((Model_s v) (20 : Int32).toNatClampNeg))).toNatClampNeg x0) ((33 + ((Model_s v) (20 : Int32).toNatClampNeg))).toNatClampNeg x1) ((39 + ((Model_s v) (20 : Int32).toNatClampNeg))).toNatClampNeg x2))) H := hP
            have hD : va_D A (Model_c E a (Model_s_s v (upd (upd (upd (Model_s v) ((27 + ((Model_s v) (20 : Int32).toNatClampNeg))).toNatClampNeg x0) ((33 + ((Model_s v) (20 : Int32).toNatClampNeg))).toNatClampNeg x1) ((39 + ((Model_s v) (20 : Int32).toNatClampNeg))).toNatClampNeg x2))) := hD
            refine lv_aload_n hx hb dX8_pupil_103 rfl (lv_at hl 1 rfl) ?_
            refine va_get (D := E.1) (ci := 8) (v := .ref (Modela_s a)) (C := RX8) (T := TX8) (N := 20) hx hb hts k1 hown hK hP 0 rfl rfl 1 (by decide) k0 (fun _ h9 => h9) rfl dX8_pupil_104 ?_
            refine lv_bipush (v := 8) hx hb dX8_pupil_107 (by decide) ?_
            refine lv_iload hx hb dX8_pupil_109 (lv_at hl 0 rfl) ?_
            refine lv_iadd hx hb dX8_pupil_111 ?_
            refine lv_iload hx hb dX8_pupil_112 (lv_at hl 5 rfl) ?_
            obtain ⟨h15, hF⟩ := m_chk hF
            refine va_iast (f := (upd (upd (upd (Model_s v) ((27 + ((Model_s v) (20 : Int32).toNatClampNeg))).toNatClampNeg x0) ((33 + ((Model_s v) (20 : Int32).toNatClampNeg))).toNatClampNeg x1) ((39 + ((Model_s v) (20 : Int32).toNatClampNeg))).toNatClampNeg x2)) hx hb hK hP hD hS 1 1 rfl rfl (mIn_ok h15) dX8_pupil_114 (fun H locs hP hD hS => ?_)
            have hP : va_P E.1 vwCl (Model_c E a (Model_s_s v (upd (upd (upd (upd (Model_s v) ((27 + ((Model_s v) (20 : Int32).toNatClampNeg))).toNatClampNeg x0) ((33 + ((Model_s v) (20 : Int32).toNatClampNeg))).toNatClampNeg x1) ((39 + ((Model_s v) (20 : Int32).toNatClampNeg))).toNatClampNeg x2) ((8 + ((Model_s v) (20 : Int32).toNatClampNeg))).toNatClampNeg x3))) H := hP
            have hD : va_D A (Model_c E a (Model_s_s v (upd (upd (upd (upd (Model_s v) ((27 + ((Model_s v) (20 : Int32).toNatClampNeg))).toNatClampNeg x0) ((33 + ((Model_s v) (20 : Int32).toNatClampNeg))).toNatClampNeg x1) ((39 + ((Model_s v) (20 : Int32).toNatClampNeg))).toNatClampNeg x2) ((8 + ((Model_s v) (20 : Int32).toNatClampNeg))).toNatClampNeg x3))) := hD
            refine lv_aload_n hx hb dX8_pupil_115 rfl (lv_at hl 1 rfl) ?_
            refine va_get (D := E.1) (ci := 8) (v := .ref (Modela_s a)) (C := RX8) (T := TX8) (N := 20) hx hb hts k1 hown hK hP 0 rfl rfl 1 (by decide) k0 (fun _ h9 => h9) rfl dX8_pupil_116 ?_
            refine lv_iconst (v := 2) hx hb dX8_pupil_119 (by decide) ?_
            refine lv_iload hx hb dX8_pupil_120 (lv_at hl 0 rfl) ?_
            refine lv_iadd hx hb dX8_pupil_122 ?_
            refine lv_iconst (v := 0) hx hb dX8_pupil_123 (by decide) ?_
            obtain ⟨h16, hF⟩ := m_chk hF
            refine va_iast (f := (upd (upd (upd (upd (Model_s v) ((27 + ((Model_s v) (20 : Int32).toNatClampNeg))).toNatClampNeg x0) ((33 + ((Model_s v) (20 : Int32).toNatClampNeg))).toNatClampNeg x1) ((39 + ((Model_s v) (20 : Int32).toNatClampNeg))).toNatClampNeg x2) ((8 + ((Model_s v) (20 : Int32).toNatClampNeg))).toNatClampNeg x3)) hx hb hK hP hD hS 1 1 rfl rfl (mIn_ok h16) dX8_pupil_124 (fun H locs hP hD hS => ?_)
            have hP : va_P E.1 vwCl (Model_c E a (Model_s_s v (upd (upd (upd (upd (upd (Model_s v) ((27 + ((Model_s v) (20 : Int32).toNatClampNeg))).toNatClampNeg x0) ((33 + ((Model_s v) (20 : Int32).toNatClampNeg))).toNatClampNeg x1) ((39 + ((Model_s v) (20 : Int32).toNatClampNeg))).toNatClampNeg x2) ((8 + ((Model_s v) (20 : Int32).toNatClampNeg))).toNatClampNeg x3) ((2 + ((Model_s v) (20 : Int32).toNatClampNeg))).toNatClampNeg 0))) H := hP
            have hD : va_D A (Model_c E a (Model_s_s v (upd (upd (upd (upd (upd (Model_s v) ((27 + ((Model_s v) (20 : Int32).toNatClampNeg))).toNatClampNeg x0) ((33 + ((Model_s v) (20 : Int32).toNatClampNeg))).toNatClampNeg x1) ((39 + ((Model_s v) (20 : Int32).toNatClampNeg))).toNatClampNeg x2) ((8 + ((Model_s v) (20 : Int32).toNatClampNeg))).toNatClampNeg x3) ((2 + ((Model_s v) (20 : Int32).toNatClampNeg))).toNatClampNeg 0))) := hD
            refine lv_aload_n hx hb dX8_pupil_125 rfl (lv_at hl 1 rfl) ?_
            refine va_get (D := E.1) (ci := 8) (v := .ref (Modela_s a)) (C := RX8) (T := TX8) (N := 20) hx hb hts k1 hown hK hP 0 rfl rfl 1 (by decide) k0 (fun _ h9 => h9) rfl dX8_pupil_126 ?_
            refine lv_bipush (v := 14) hx hb dX8_pupil_129 (by decide) ?_
            refine lv_iload hx hb dX8_pupil_131 (lv_at hl 0 rfl) ?_
            refine lv_iadd hx hb dX8_pupil_133 ?_
            refine lv_iconst (v := 0) hx hb dX8_pupil_134 (by decide) ?_
            obtain ⟨h17, hF⟩ := m_chk hF
            refine va_iast (f := (upd (upd (upd (upd (upd (Model_s v) ((27 + ((Model_s v) (20 : Int32).toNatClampNeg))).toNatClampNeg x0) ((33 + ((Model_s v) (20 : Int32).toNatClampNeg))).toNatClampNeg x1) ((39 + ((Model_s v) (20 : Int32).toNatClampNeg))).toNatClampNeg x2) ((8 + ((Model_s v) (20 : Int32).toNatClampNeg))).toNatClampNeg x3) ((2 + ((Model_s v) (20 : Int32).toNatClampNeg))).toNatClampNeg 0)) hx hb hK hP hD hS 1 1 rfl rfl (mIn_ok h17) dX8_pupil_135 (fun H locs hP hD hS => ?_)
            have hP : va_P E.1 vwCl (Model_c E a (Model_s_s v (upd (upd (upd (upd (upd (upd (Model_s v) ((27 + ((Model_s v) (20 : Int32).toNatClampNeg))).toNatClampNeg x0) ((33 + ((Model_s v) (20 : Int32).toNatClampNeg))).toNatClampNeg x1) ((39 + ((Model_s v) (20 : Int32).toNatClampNeg))).toNatClampNeg x2) ((8 + ((Model_s v) (20 : Int32).toNatClampNeg))).toNatClampNeg x3) ((2 + ((Model_s v) (20 : Int32).toNatClampNeg))).toNatClampNeg 0) ((14 + ((Model_s v) (20 : Int32).toNatClampNeg))).toNatClampNeg 0))) H := hP
            have hD : va_D A (Model_c E a (Model_s_s v (upd (upd (upd (upd (upd (upd (Model_s v) ((27 + ((Model_s v) (20 : Int32).toNatClampNeg))).toNatClampNeg x0) ((33 + ((Model_s v) (20 : Int32).toNatClampNeg))).toNatClampNeg x1) ((39 + ((Model_s v) (20 : Int32).toNatClampNeg))).toNatClampNeg x2) ((8 + ((Model_s v) (20 : Int32).toNatClampNeg))).toNatClampNeg x3) ((2 + ((Model_s v) (20 : Int32).toNatClampNeg))).toNatClampNeg 0) ((14 + ((Model_s v) (20 : Int32).toNatClampNeg))).toNatClampNeg 0))) := hD
            refine lv_iconst (v := 0) hx hb dX8_pupil_136 (by decide) ?_
            refine lv_istore (lv' := [(6, .int 0), (5, .int ((Model_s v) (20 : Int32).toNatClampNeg)), (0, .ref (Modela_self a)), (1, .int x0), (2, .int x1), (3, .int x2), (4, .int x3)]) hx hb dX8_pupil_137 hl (by decide) rfl (fun ls hl => ?_)
            obtain ⟨j167, hjd167, hF⟩ := m_jp hF
            have hj167 : ∀ (wx_167 : ModelV) (H : Heap) (locs : List Loc) (ls : Array Slot), j167 wx_167 = some t → va_P E.1 vwCl (Model_c E a wx_167) H → va_D A (Model_c E a wx_167) → va_S A s.heap H locs → lv_has ls 7 [(0, .ref (Modela_self a)), (5, .int ((Model_s v) (20 : Int32).toNatClampNeg))] → W p l e_ rmX8_pupil s m args below meth c H locs 0 0 Q (F0 m 167 ls []) := by
              intro wx_167 H locs ls hF hP hD hS hl
              rw [hjd167] at hF
              refine lv_aload_n hx hb dX8_pupil_167 rfl (lv_at hl 0 rfl) ?_
              refine va_get (D := E.1) (ci := 8) (v := .ref (Modela_s a)) (C := RX8) (T := TX8) (N := 20) hx hb hts k1 hown hK hP 0 rfl rfl 1 (by decide) k0 (fun _ h9 => h9) rfl dX8_pupil_168 ?_
              refine lv_bipush (v := 20) hx hb dX8_pupil_171 (by decide) ?_
              refine lv_dup2_11 hx hb dX8_pupil_173 rfl rfl ?_
              obtain ⟨h18, hF⟩ := m_chk hF
              refine va_iald (f := (Model_s wx_167)) hx hb hK hP 1 1 rfl rfl (mIn_ok h18) dX8_pupil_174 ?_
              refine W.eq (g2 := F0 m 175 ls [.int ((Model_s wx_167) (20 : Int32).toNatClampNeg), .int 20, .ref (Modela_s a)]) rfl ?_
              refine lv_iconst (v := 1) hx hb dX8_pupil_175 (by decide) ?_
              refine lv_iadd hx hb dX8_pupil_176 ?_
              obtain ⟨h19, hF⟩ := m_chk hF
              refine va_iast (f := (Model_s wx_167)) hx hb hK hP hD hS 1 1 rfl rfl (mIn_ok h19) dX8_pupil_177 (fun H locs hP hD hS => ?_)
              have hP : va_P E.1 vwCl (Model_c E a (Model_s_s wx_167 (upd (Model_s wx_167) (20 : Int32).toNatClampNeg (((Model_s wx_167) (20 : Int32).toNatClampNeg) + 1)))) H := hP
              have hD : va_D A (Model_c E a (Model_s_s wx_167 (upd (Model_s wx_167) (20 : Int32).toNatClampNeg (((Model_s wx_167) (20 : Int32).toNatClampNeg) + 1)))) := hD
              refine lv_iload hx hb dX8_pupil_178 (lv_at hl 1 rfl) ?_
              have hF := Option.some.inj hF
              subst hF
              rw [hQ]
              exact W.iret hx hb hr (fun t ht _ => ⟨⟨rfl, by rw [ht]; exact hP, hD⟩, hS.F ht⟩) hS.2.2 dX8_pupil_180
            clear hjd167
            have hL139 : ∀ (n : Nat) (y6_139 : Int32) (wy_139 : ModelV) (H : Heap) (locs : List Loc) (ls : Array Slot), lp_X8_pupil_139 v j167 n y6_139 wy_139 = some t → va_P E.1 vwCl (Model_c E a wy_139) H → va_D A (Model_c E a wy_139) → va_S A s.heap H locs → lv_has ls 7 [(0, .ref (Modela_self a)), (5, .int ((Model_s v) (20 : Int32).toNatClampNeg)), (6, .int y6_139)] → W p l e_ rmX8_pupil s m args below meth c H locs 0 0 Q (F0 m 139 ls []) := by
              intro n
              induction n with
              | zero =>
                intro y6_139 wy_139 H locs ls hF
                exact nomatch (show (none : Option (Int32 × ModelV)) = some t from hF)
              | succ n ih139 =>
                intro y6_139 wy_139 H locs ls hF hP hD hS hl
                have hF : st_X8_pupil_139 v j167 (lp_X8_pupil_139 v j167 n) y6_139 wy_139 = some t := hF
                unfold st_X8_pupil_139 at hF
                refine lv_iload hx hb dX8_pupil_139 (lv_at hl 2 rfl) ?_
                refine lv_iconst (v := 4) hx hb dX8_pupil_141 (by decide) ?_
                refine lv_icmp_ge (tgt := 167) hx hb dX8_pupil_142 (by decide) (fun c20 => ?_) (fun c20 => ?_)
                · have hF := m_pos c20 hF
                  exact hj167 wy_139 H locs ls hF hP hD hS (lv_sub hl [0, 1] rfl)
                · have hF := m_neg c20 hF
                  refine lv_aload_n hx hb dX8_pupil_145 rfl (lv_at hl 0 rfl) ?_
                  refine va_get (D := E.1) (ci := 8) (v := .ref (Modela_s a)) (C := RX8) (T := TX8) (N := 20) hx hb hts k1 hown hK hP 0 rfl rfl 1 (by decide) k0 (fun _ h9 => h9) rfl dX8_pupil_146 ?_
                  refine lv_bipush (v := 45) hx hb dX8_pupil_149 (by decide) ?_
                  refine lv_iconst (v := 4) hx hb dX8_pupil_151 (by decide) ?_
                  refine lv_iload hx hb dX8_pupil_152 (lv_at hl 1 rfl) ?_
                  refine lv_imul hx hb dX8_pupil_154 ?_
                  refine lv_iadd hx hb dX8_pupil_155 ?_
                  refine lv_iload hx hb dX8_pupil_156 (lv_at hl 2 rfl) ?_
                  refine lv_iadd hx hb dX8_pupil_158 ?_
                  refine lv_iconst (v := 0) hx hb dX8_pupil_159 (by decide) ?_
                  obtain ⟨h21, hF⟩ := m_chk hF
                  refine va_iast (f := (Model_s wy_139)) hx hb hK hP hD hS 1 1 rfl rfl (mIn_ok h21) dX8_pupil_160 (fun H locs hP hD hS => ?_)
                  have hP : va_P E.1 vwCl (Model_c E a (Model_s_s wy_139 (upd (Model_s wy_139) (((45 + (4 * ((Model_s v) (20 : Int32).toNatClampNeg))) + y6_139)).toNatClampNeg 0))) H := hP
                  have hD : va_D A (Model_c E a (Model_s_s wy_139 (upd (Model_s wy_139) (((45 + (4 * ((Model_s v) (20 : Int32).toNatClampNeg))) + y6_139)).toNatClampNeg 0))) := hD
                  refine lv_iinc (v := (y6_139 + 1)) (lv' := [(6, .int (y6_139 + 1)), (0, .ref (Modela_self a)), (5, .int ((Model_s v) (20 : Int32).toNatClampNeg))]) hx hb dX8_pupil_161 hl (k := 2) rfl rfl (by decide) rfl (fun ls hl => ?_)
                  refine lv_goto (tgt := 139) hx hb dX8_pupil_164 (by decide) ?_
                  exact ih139 (y6_139 + 1) (Model_s_s wy_139 (upd (Model_s wy_139) (((45 + (4 * ((Model_s v) (20 : Int32).toNatClampNeg))) + y6_139)).toNatClampNeg 0)) H locs ls hF hP hD hS (lv_sub hl [1, 2, 0] rfl)
            exact hL139 m_N 0 (Model_s_s v (upd (upd (upd (upd (upd (upd (Model_s v) ((27 + ((Model_s v) (20 : Int32).toNatClampNeg))).toNatClampNeg x0) ((33 + ((Model_s v) (20 : Int32).toNatClampNeg))).toNatClampNeg x1) ((39 + ((Model_s v) (20 : Int32).toNatClampNeg))).toNatClampNeg x2) ((8 + ((Model_s v) (20 : Int32).toNatClampNeg))).toNatClampNeg x3) ((2 + ((Model_s v) (20 : Int32).toNatClampNeg))).toNatClampNeg 0) ((14 + ((Model_s v) (20 : Int32).toNatClampNeg))).toNatClampNeg 0)) H locs ls hF hP hD hS (lv_sub hl [2, 1, 0] rfl)
          · have hF := m_neg (fun n9 => n9 c10) hF
            refine lv_bipush (v := (-4)) hx hb dX8_pupil_58 (by decide) ?_
            have hF := Option.some.inj hF
            subst hF
            rw [hQ]
            exact W.iret hx hb hr (fun t ht _ => ⟨⟨rfl, by rw [ht]; exact hP, hD⟩, hS.F ht⟩) hS.2.2 dX8_pupil_60
        · have hF := m_neg (fun n9 => n9 c8) hF
          refine lv_bipush (v := (-2)) hx hb dX8_pupil_43 (by decide) ?_
          have hF := Option.some.inj hF
          subst hF
          rw [hQ]
          exact W.iret hx hb hr (fun t ht _ => ⟨⟨rfl, by rw [ht]; exact hP, hD⟩, hS.F ht⟩) hS.2.2 dX8_pupil_45
  · have hF := m_neg (fun n9 => n9 c2) hF
    refine lv_iconst (v := (-1)) hx hb dX8_pupil_10 (by decide) ?_
    have hF := Option.some.inj hF
    subst hF
    rw [hQ]
    exact W.iret hx hb hr (fun t ht _ => ⟨⟨rfl, by rw [ht]; exact hP, hD⟩, hS.F ht⟩) hS.2.2 dX8_pupil_11

abbrev rmX8_of : Room := { frames := 4, cells := 0, slots := 0, locals := 97 }
set_option maxRecDepth 100000 in
set_option maxHeartbeats 400000 in
theorem c_X8_of (l : Launch) (E : mE) (a : ModelA) (v : ModelV) (x0 : Int32) (x1 : Int32) (t : (Int32 × ModelV)) (hF : fn_X8_of v x0 x1 = some t) (sz : Nat) : Met l yX8_of wsX8_of rmX8_of (mPm E [.ref (Modela_self a), .int x0, .int x1] sz ((Model_c E a v)) (([] : va_W))) (mSm E (some (.int t.1)) ((Model_c E a t.2)) (va_A ((Model_c E a v)) sz)) 0 0 (va_A ((Model_c E a v)) sz) := by
  refine mOfM (cc := cX8_of) (maxL := 3) (ret := (some .int)) (by decide) rfl (Nat.le_of_ble_eq_true rfl) ?_
  intro p e_ s m args below meth c Q A hQ CC hr hlocks hin hA hP hD hKN hGl hR0 hRA ls hl
  have hS : va_S A s.heap s.heap [] := va_S.rf
  have hK := hKN.1
  have hx := CC.1
  have hb := CC.2.1
  have hml := CC.2.2.1
  have hown : s.vm.findClass RX8 = some m.cls := CC.2.2.2.1
  have hts := CC.2.2.2.2
  have hl : lv_has ls 3 [(0, .ref (Modela_self a)), (1, .int x0), (2, .int x1)] := hl
  have k0 := hts (.fieldLink RX8 9 "OneDidAllModel" "s" "[I") (by decide +kernel)
  have k1 := (show ∀ w ∈ u_ws RX8 TX8 20, w ∈ wsX8_of by decide +kernel)
  have hP : va_P E.1 vwCl (Model_c E a v) s.heap := hP
  obtain ⟨H, hH⟩ : ∃ H, H = s.heap := ⟨_, rfl⟩
  obtain ⟨locs, hlc⟩ : ∃ z : List Loc, z = [] := ⟨_, rfl⟩
  rw [← hH] at hP
  rw [← hlc] at hS
  have hS : va_S A s.heap H locs := by rw [hH]; exact hS
  rw [← hH, ← hlc]
  unfold fn_X8_of at hF
  refine lv_aload_n hx hb dX8_of_0 rfl (lv_at hl 0 rfl) ?_
  refine lv_iload_n hx hb dX8_of_1 rfl (lv_at hl 1 rfl) ?_
  obtain ⟨t1, ht1, hF⟩ := m_bnd hF
  refine mVP (ci := 8) (n := 1) (rest := []) (As := [.int x0]) CC hKN hGl hS (c_X8_isPupil l E a v x0 t1 ht1) gX8_of_X8_isPupil rfl ⟨rfl, rfl⟩ (by decide +kernel) ⟨Nat.le_of_ble_eq_true rfl, Nat.le_of_ble_eq_true rfl⟩ hP rfl rfl rfl rfl hl.1 rfl (Nat.le_of_ble_eq_true rfl) ⟨Nat.zero_le _, Nat.zero_le _⟩ dX8_of_2 ?_
  refine W.eq (g2 := F0 m 5 ls [.int t1]) rfl ?_
  refine lv_if_ne (tgt := 10) hx hb dX8_of_5 (by decide) (fun c2 => ?_) (fun c2 => ?_)
  · have hF := m_pos c2 hF
    refine lv_iload_n hx hb dX8_of_10 rfl (lv_at hl 2 rfl) ?_
    by_cases c3 : x1 = 0
    · have hF := m_pos c3 hF
      refine lv_tableIn (off := 53) (tgt := 64) hx hb dX8_of_11 (by rw [c3]; decide) (by rw [c3]; decide) (by rw [c3]; rfl) (by decide) ?_
      refine lv_aload_n hx hb dX8_of_64 rfl (lv_at hl 0 rfl) ?_
      refine va_get (D := E.1) (ci := 8) (v := .ref (Modela_s a)) (C := RX8) (T := TX8) (N := 20) hx hb hts k1 hown hK hP 0 rfl rfl 1 (by decide) k0 (fun _ h9 => h9) rfl dX8_of_65 ?_
      refine lv_bipush (v := 27) hx hb dX8_of_68 (by decide) ?_
      refine lv_iload_n hx hb dX8_of_70 rfl (lv_at hl 1 rfl) ?_
      refine lv_iadd hx hb dX8_of_71 ?_
      obtain ⟨h4, hF⟩ := m_chk hF
      refine va_iald (f := (Model_s v)) hx hb hK hP 1 1 rfl rfl (mIn_ok h4) dX8_of_72 ?_
      refine W.eq (g2 := F0 m 73 ls [.int ((Model_s v) ((27 + x0)).toNatClampNeg)]) rfl ?_
      have hF := Option.some.inj hF
      subst hF
      rw [hQ]
      exact W.iret hx hb hr (fun t ht _ => ⟨⟨rfl, by rw [ht]; exact hP, hD⟩, hS.F ht⟩) hS.2.2 dX8_of_73
    · have hF := m_neg c3 hF
      by_cases c5 : x1 = 1
      · have hF := m_pos c5 hF
        refine lv_tableIn (off := 63) (tgt := 74) hx hb dX8_of_11 (by rw [c5]; decide) (by rw [c5]; decide) (by rw [c5]; rfl) (by decide) ?_
        refine lv_aload_n hx hb dX8_of_74 rfl (lv_at hl 0 rfl) ?_
        refine va_get (D := E.1) (ci := 8) (v := .ref (Modela_s a)) (C := RX8) (T := TX8) (N := 20) hx hb hts k1 hown hK hP 0 rfl rfl 1 (by decide) k0 (fun _ h9 => h9) rfl dX8_of_75 ?_
        refine lv_bipush (v := 33) hx hb dX8_of_78 (by decide) ?_
        refine lv_iload_n hx hb dX8_of_80 rfl (lv_at hl 1 rfl) ?_
        refine lv_iadd hx hb dX8_of_81 ?_
        obtain ⟨h6, hF⟩ := m_chk hF
        refine va_iald (f := (Model_s v)) hx hb hK hP 1 1 rfl rfl (mIn_ok h6) dX8_of_82 ?_
        refine W.eq (g2 := F0 m 83 ls [.int ((Model_s v) ((33 + x0)).toNatClampNeg)]) rfl ?_
        have hF := Option.some.inj hF
        subst hF
        rw [hQ]
        exact W.iret hx hb hr (fun t ht _ => ⟨⟨rfl, by rw [ht]; exact hP, hD⟩, hS.F ht⟩) hS.2.2 dX8_of_83
      · have hF := m_neg c5 hF
        by_cases c7 : x1 = 2
        · have hF := m_pos c7 hF
          refine lv_tableIn (off := 73) (tgt := 84) hx hb dX8_of_11 (by rw [c7]; decide) (by rw [c7]; decide) (by rw [c7]; rfl) (by decide) ?_
          refine lv_aload_n hx hb dX8_of_84 rfl (lv_at hl 0 rfl) ?_
          refine va_get (D := E.1) (ci := 8) (v := .ref (Modela_s a)) (C := RX8) (T := TX8) (N := 20) hx hb hts k1 hown hK hP 0 rfl rfl 1 (by decide) k0 (fun _ h9 => h9) rfl dX8_of_85 ?_
          refine lv_bipush (v := 39) hx hb dX8_of_88 (by decide) ?_
          refine lv_iload_n hx hb dX8_of_90 rfl (lv_at hl 1 rfl) ?_
          refine lv_iadd hx hb dX8_of_91 ?_
          obtain ⟨h8, hF⟩ := m_chk hF
          refine va_iald (f := (Model_s v)) hx hb hK hP 1 1 rfl rfl (mIn_ok h8) dX8_of_92 ?_
          refine W.eq (g2 := F0 m 93 ls [.int ((Model_s v) ((39 + x0)).toNatClampNeg)]) rfl ?_
          have hF := Option.some.inj hF
          subst hF
          rw [hQ]
          exact W.iret hx hb hr (fun t ht _ => ⟨⟨rfl, by rw [ht]; exact hP, hD⟩, hS.F ht⟩) hS.2.2 dX8_of_93
        · have hF := m_neg c7 hF
          by_cases c9 : x1 = 3
          · have hF := m_pos c9 hF
            refine lv_tableIn (off := 83) (tgt := 94) hx hb dX8_of_11 (by rw [c9]; decide) (by rw [c9]; decide) (by rw [c9]; rfl) (by decide) ?_
            refine lv_aload_n hx hb dX8_of_94 rfl (lv_at hl 0 rfl) ?_
            refine va_get (D := E.1) (ci := 8) (v := .ref (Modela_s a)) (C := RX8) (T := TX8) (N := 20) hx hb hts k1 hown hK hP 0 rfl rfl 1 (by decide) k0 (fun _ h9 => h9) rfl dX8_of_95 ?_
            refine lv_bipush (v := 8) hx hb dX8_of_98 (by decide) ?_
            refine lv_iload_n hx hb dX8_of_100 rfl (lv_at hl 1 rfl) ?_
            refine lv_iadd hx hb dX8_of_101 ?_
            obtain ⟨h10, hF⟩ := m_chk hF
            refine va_iald (f := (Model_s v)) hx hb hK hP 1 1 rfl rfl (mIn_ok h10) dX8_of_102 ?_
            refine W.eq (g2 := F0 m 103 ls [.int ((Model_s v) ((8 + x0)).toNatClampNeg)]) rfl ?_
            have hF := Option.some.inj hF
            subst hF
            rw [hQ]
            exact W.iret hx hb hr (fun t ht _ => ⟨⟨rfl, by rw [ht]; exact hP, hD⟩, hS.F ht⟩) hS.2.2 dX8_of_103
          · have hF := m_neg c9 hF
            by_cases c11 : x1 = 4
            · have hF := m_pos c11 hF
              refine lv_tableIn (off := 93) (tgt := 104) hx hb dX8_of_11 (by rw [c11]; decide) (by rw [c11]; decide) (by rw [c11]; rfl) (by decide) ?_
              refine lv_aload_n hx hb dX8_of_104 rfl (lv_at hl 0 rfl) ?_
              refine va_get (D := E.1) (ci := 8) (v := .ref (Modela_s a)) (C := RX8) (T := TX8) (N := 20) hx hb hts k1 hown hK hP 0 rfl rfl 1 (by decide) k0 (fun _ h9 => h9) rfl dX8_of_105 ?_
              refine lv_iconst (v := 2) hx hb dX8_of_108 (by decide) ?_
              refine lv_iload_n hx hb dX8_of_109 rfl (lv_at hl 1 rfl) ?_
              refine lv_iadd hx hb dX8_of_110 ?_
              obtain ⟨h12, hF⟩ := m_chk hF
              refine va_iald (f := (Model_s v)) hx hb hK hP 1 1 rfl rfl (mIn_ok h12) dX8_of_111 ?_
              refine W.eq (g2 := F0 m 112 ls [.int ((Model_s v) ((2 + x0)).toNatClampNeg)]) rfl ?_
              have hF := Option.some.inj hF
              subst hF
              rw [hQ]
              exact W.iret hx hb hr (fun t ht _ => ⟨⟨rfl, by rw [ht]; exact hP, hD⟩, hS.F ht⟩) hS.2.2 dX8_of_112
            · have hF := m_neg c11 hF
              by_cases c13 : x1 = 5
              · have hF := m_pos c13 hF
                refine lv_tableIn (off := 102) (tgt := 113) hx hb dX8_of_11 (by rw [c13]; decide) (by rw [c13]; decide) (by rw [c13]; rfl) (by decide) ?_
                refine lv_aload_n hx hb dX8_of_113 rfl (lv_at hl 0 rfl) ?_
                refine va_get (D := E.1) (ci := 8) (v := .ref (Modela_s a)) (C := RX8) (T := TX8) (N := 20) hx hb hts k1 hown hK hP 0 rfl rfl 1 (by decide) k0 (fun _ h9 => h9) rfl dX8_of_114 ?_
                refine lv_bipush (v := 14) hx hb dX8_of_117 (by decide) ?_
                refine lv_iload_n hx hb dX8_of_119 rfl (lv_at hl 1 rfl) ?_
                refine lv_iadd hx hb dX8_of_120 ?_
                obtain ⟨h14, hF⟩ := m_chk hF
                refine va_iald (f := (Model_s v)) hx hb hK hP 1 1 rfl rfl (mIn_ok h14) dX8_of_121 ?_
                refine W.eq (g2 := F0 m 122 ls [.int ((Model_s v) ((14 + x0)).toNatClampNeg)]) rfl ?_
                have hF := Option.some.inj hF
                subst hF
                rw [hQ]
                exact W.iret hx hb hr (fun t ht _ => ⟨⟨rfl, by rw [ht]; exact hP, hD⟩, hS.F ht⟩) hS.2.2 dX8_of_122
              · have hF := m_neg c13 hF
                by_cases c15 : x1 = 6
                · have hF := m_pos c15 hF
                  refine lv_tableIn (off := 112) (tgt := 123) hx hb dX8_of_11 (by rw [c15]; decide) (by rw [c15]; decide) (by rw [c15]; rfl) (by decide) ?_
                  refine lv_aload_n hx hb dX8_of_123 rfl (lv_at hl 0 rfl) ?_
                  refine lv_iload_n hx hb dX8_of_124 rfl (lv_at hl 1 rfl) ?_
                  obtain ⟨t16, ht16, hF⟩ := m_bnd hF
                  have hPc := hP
                  have hDc := hD
                  have hFc := va_free (wc := (Model_c E a v)) hD hS hA [0, 1, 2, 3, 4, 5, 6, 7] rfl
                  refine mVM (ci := 8) (n := 1) (rest := []) (As := [.int x0]) CC hKN hGl (c_X8_zealOf l E a v x0 t16 ht16 _) gX8_of_X8_zealOf rfl ⟨rfl, rfl⟩ (by decide +kernel) ⟨Nat.le_of_ble_eq_true rfl, Nat.le_of_ble_eq_true rfl⟩ hPc hDc m_nil m_nilA hS hFc rfl rfl rfl rfl hl.1 rfl (Nat.le_of_ble_eq_true rfl) ⟨Nat.zero_le _, Nat.zero_le _⟩ dX8_of_125 (fun H1 locs hP1 hD1 hz1 hk1 hS => ?_)
                  have hP : va_P E.1 vwCl (Model_c E a t16.2) H1 := hP1
                  have hD : va_D A (Model_c E a t16.2) := m_back hD1 hFc
                  generalize H1 = H at hP hS ⊢
                  refine W.eq (g2 := F0 m 128 ls [.int t16.1]) rfl ?_
                  have hF := Option.some.inj hF
                  subst hF
                  rw [hQ]
                  exact W.iret hx hb hr (fun t ht _ => ⟨⟨rfl, by rw [ht]; exact hP, hD⟩, hS.F ht⟩) hS.2.2 dX8_of_128
                · have hF := m_neg c15 hF
                  by_cases c17 : x1 = 7
                  · have hF := m_pos c17 hF
                    refine lv_tableIn (off := 118) (tgt := 129) hx hb dX8_of_11 (by rw [c17]; decide) (by rw [c17]; decide) (by rw [c17]; rfl) (by decide) ?_
                    refine lv_aload_n hx hb dX8_of_129 rfl (lv_at hl 0 rfl) ?_
                    refine lv_iload_n hx hb dX8_of_130 rfl (lv_at hl 1 rfl) ?_
                    obtain ⟨t18, ht18, hF⟩ := m_bnd hF
                    have hPc := hP
                    have hDc := hD
                    have hFc := va_free (wc := (Model_c E a v)) hD hS hA [0, 1, 2, 3, 4, 5, 6, 7] rfl
                    refine mVM (ci := 8) (n := 1) (rest := []) (As := [.int x0]) CC hKN hGl (c_X8_doesOf l E a v x0 t18 ht18 _) gX8_of_X8_doesOf rfl ⟨rfl, rfl⟩ (by decide +kernel) ⟨Nat.le_of_ble_eq_true rfl, Nat.le_of_ble_eq_true rfl⟩ hPc hDc m_nil m_nilA hS hFc rfl rfl rfl rfl hl.1 rfl (Nat.le_of_ble_eq_true rfl) ⟨Nat.zero_le _, Nat.zero_le _⟩ dX8_of_131 (fun H1 locs hP1 hD1 hz1 hk1 hS => ?_)
                    have hP : va_P E.1 vwCl (Model_c E a t18.2) H1 := hP1
                    have hD : va_D A (Model_c E a t18.2) := m_back hD1 hFc
                    generalize H1 = H at hP hS ⊢
                    refine W.eq (g2 := F0 m 134 ls [.int t18.1]) rfl ?_
                    have hF := Option.some.inj hF
                    subst hF
                    rw [hQ]
                    exact W.iret hx hb hr (fun t ht _ => ⟨⟨rfl, by rw [ht]; exact hP, hD⟩, hS.F ht⟩) hS.2.2 dX8_of_134
                  · have hF := m_neg c17 hF
                    by_cases c19 : x1 = 8
                    · have hF := m_pos c19 hF
                      refine lv_tableIn (off := 124) (tgt := 135) hx hb dX8_of_11 (by rw [c19]; decide) (by rw [c19]; decide) (by rw [c19]; rfl) (by decide) ?_
                      refine lv_aload_n hx hb dX8_of_135 rfl (lv_at hl 0 rfl) ?_
                      refine lv_iload_n hx hb dX8_of_136 rfl (lv_at hl 1 rfl) ?_
                      obtain ⟨t20, ht20, hF⟩ := m_bnd hF
                      refine mVP (ci := 8) (n := 1) (rest := []) (As := [.int x0]) CC hKN hGl hS (c_X8_shareOf l E a v x0 t20 ht20) gX8_of_X8_shareOf rfl ⟨rfl, rfl⟩ (by decide +kernel) ⟨Nat.le_of_ble_eq_true rfl, Nat.le_of_ble_eq_true rfl⟩ hP rfl rfl rfl rfl hl.1 rfl (Nat.le_of_ble_eq_true rfl) ⟨Nat.zero_le _, Nat.zero_le _⟩ dX8_of_137 ?_
                      refine W.eq (g2 := F0 m 140 ls [.int t20]) rfl ?_
                      have hF := Option.some.inj hF
                      subst hF
                      rw [hQ]
                      exact W.iret hx hb hr (fun t ht _ => ⟨⟨rfl, by rw [ht]; exact hP, hD⟩, hS.F ht⟩) hS.2.2 dX8_of_140
                    · have hF := m_neg c19 hF
                      by_cases c21 : x1 = 9
                      · have hF := m_pos c21 hF
                        refine lv_tableIn (off := 130) (tgt := 141) hx hb dX8_of_11 (by rw [c21]; decide) (by rw [c21]; decide) (by rw [c21]; rfl) (by decide) ?_
                        refine lv_aload_n hx hb dX8_of_141 rfl (lv_at hl 0 rfl) ?_
                        refine lv_iload_n hx hb dX8_of_142 rfl (lv_at hl 1 rfl) ?_
                        obtain ⟨t22, ht22, hF⟩ := m_bnd hF
                        refine mVP (ci := 8) (n := 1) (rest := []) (As := [.int x0]) CC hKN hGl hS (c_X8_claimOf l E a v x0 t22 ht22) gX8_of_X8_claimOf rfl ⟨rfl, rfl⟩ (by decide +kernel) ⟨Nat.le_of_ble_eq_true rfl, Nat.le_of_ble_eq_true rfl⟩ hP rfl rfl rfl rfl hl.1 rfl (Nat.le_of_ble_eq_true rfl) ⟨Nat.zero_le _, Nat.zero_le _⟩ dX8_of_143 ?_
                        refine W.eq (g2 := F0 m 146 ls [.int t22]) rfl ?_
                        have hF := Option.some.inj hF
                        subst hF
                        rw [hQ]
                        exact W.iret hx hb hr (fun t ht _ => ⟨⟨rfl, by rw [ht]; exact hP, hD⟩, hS.F ht⟩) hS.2.2 dX8_of_146
                      · have hF := m_neg c21 hF
                        have qc3 := lv_neT (a := 0) c3 rfl
                        have qc5 := lv_neT (a := 1) c5 rfl
                        have qc7 := lv_neT (a := 2) c7 rfl
                        have qc9 := lv_neT (a := 3) c9 rfl
                        have qc11 := lv_neT (a := 4) c11 rfl
                        have qc13 := lv_neT (a := 5) c13 rfl
                        have qc15 := lv_neT (a := 6) c15 rfl
                        have qc17 := lv_neT (a := 7) c17 rfl
                        have qc19 := lv_neT (a := 8) c19 rfl
                        have qc21 := lv_neT (a := 9) c21 rfl
                        refine lv_tableOut (tgt := 147) hx hb dX8_of_11 (by omega) (by decide) ?_
                        refine lv_iconst (v := (-1)) hx hb dX8_of_147 (by decide) ?_
                        have hF := Option.some.inj hF
                        subst hF
                        rw [hQ]
                        exact W.iret hx hb hr (fun t ht _ => ⟨⟨rfl, by rw [ht]; exact hP, hD⟩, hS.F ht⟩) hS.2.2 dX8_of_148
  · have hF := m_neg (fun n9 => n9 c2) hF
    refine lv_iconst (v := (-1)) hx hb dX8_of_8 (by decide) ?_
    have hF := Option.some.inj hF
    subst hF
    rw [hQ]
    exact W.iret hx hb hr (fun t ht _ => ⟨⟨rfl, by rw [ht]; exact hP, hD⟩, hS.F ht⟩) hS.2.2 dX8_of_9

abbrev rmX8_row : Room := { frames := 2, cells := 0, slots := 0, locals := 43 }
set_option maxRecDepth 100000 in
set_option maxHeartbeats 400000 in
theorem c_X8_row (l : Launch) (E : mE) (a : ModelA) (v : ModelV) (x0 : Int32) (x1 : Int32) (x2 : Int32) (t : (Int32 × ModelV)) (hF : fn_X8_row v x0 x1 x2 = some t) (sz : Nat) : Met l yX8_row wsX8_row rmX8_row (mPm E [.ref (Modela_self a), .int x0, .int x1, .int x2] sz ((Model_c E a v)) (([] : va_W))) (mSm E (some (.int t.1)) ((Model_c E a t.2)) (va_A ((Model_c E a v)) sz)) 0 0 (va_A ((Model_c E a v)) sz) := by
  refine mOfM (cc := cX8_row) (maxL := 5) (ret := (some .int)) (by decide) rfl (Nat.le_of_ble_eq_true rfl) ?_
  intro p e_ s m args below meth c Q A hQ CC hr hlocks hin hA hP hD hKN hGl hR0 hRA ls hl
  have hS : va_S A s.heap s.heap [] := va_S.rf
  have hK := hKN.1
  have hx := CC.1
  have hb := CC.2.1
  have hml := CC.2.2.1
  have hown : s.vm.findClass RX8 = some m.cls := CC.2.2.2.1
  have hts := CC.2.2.2.2
  have hl : lv_has ls 5 [(0, .ref (Modela_self a)), (1, .int x0), (2, .int x1), (3, .int x2)] := hl
  have k0 := hts (.fieldLink RX8 9 "OneDidAllModel" "s" "[I") (by decide +kernel)
  have k1 := (show ∀ w ∈ u_ws RX8 TX8 20, w ∈ wsX8_row by decide +kernel)
  have hP : va_P E.1 vwCl (Model_c E a v) s.heap := hP
  obtain ⟨H, hH⟩ : ∃ H, H = s.heap := ⟨_, rfl⟩
  obtain ⟨locs, hlc⟩ : ∃ z : List Loc, z = [] := ⟨_, rfl⟩
  rw [← hH] at hP
  rw [← hlc] at hS
  have hS : va_S A s.heap H locs := by rw [hH]; exact hS
  rw [← hH, ← hlc]
  unfold fn_X8_row at hF
  refine lv_aload_n hx hb dX8_row_0 rfl (lv_at hl 0 rfl) ?_
  refine lv_iload_n hx hb dX8_row_1 rfl (lv_at hl 1 rfl) ?_
  obtain ⟨t1, ht1, hF⟩ := m_bnd hF
  refine mVP (ci := 8) (n := 1) (rest := []) (As := [.int x0]) CC hKN hGl hS (c_X8_isPupil l E a v x0 t1 ht1) gX8_row_X8_isPupil rfl ⟨rfl, rfl⟩ (by decide +kernel) ⟨Nat.le_of_ble_eq_true rfl, Nat.le_of_ble_eq_true rfl⟩ hP rfl rfl rfl rfl hl.1 rfl (Nat.le_of_ble_eq_true rfl) ⟨Nat.zero_le _, Nat.zero_le _⟩ dX8_row_2 ?_
  refine W.eq (g2 := F0 m 5 ls [.int t1]) rfl ?_
  refine lv_if_eq (tgt := 17) hx hb dX8_row_5 (by decide) (fun c2 => ?_) (fun c2 => ?_)
  · have hF := m_pos c2 hF
    refine lv_iconst (v := (-1)) hx hb dX8_row_17 (by decide) ?_
    have hF := Option.some.inj hF
    subst hF
    rw [hQ]
    exact W.iret hx hb hr (fun t ht _ => ⟨⟨rfl, by rw [ht]; exact hP, hD⟩, hS.F ht⟩) hS.2.2 dX8_row_18
  · have hF := m_neg c2 hF
    refine lv_iload_n hx hb dX8_row_8 rfl (lv_at hl 2 rfl) ?_
    refine lv_iconst (v := 0) hx hb dX8_row_9 (by decide) ?_
    refine lv_iconst (v := 3) hx hb dX8_row_10 (by decide) ?_
    obtain ⟨t3, ht3, hF⟩ := m_bnd hF
    refine mSP (n := 3) (rest := []) (As := [.int x1, .int 0, .int 3]) CC hKN hGl hS (c_X8_in l E x1 0 3 t3 ht3) gX8_row_X8_in rfl ⟨rfl, rfl⟩ (by decide +kernel) ⟨Nat.le_of_ble_eq_true rfl, Nat.le_of_ble_eq_true rfl⟩ m_nil rfl hl.1 rfl (Nat.le_of_ble_eq_true rfl) ⟨Nat.zero_le _, Nat.zero_le _⟩ dX8_row_11 ?_
    refine W.eq (g2 := F0 m 14 ls [.int t3]) rfl ?_
    refine lv_if_ne (tgt := 19) hx hb dX8_row_14 (by decide) (fun c4 => ?_) (fun c4 => ?_)
    · have hF := m_pos c4 hF
      refine lv_iload_n hx hb dX8_row_19 rfl (lv_at hl 3 rfl) ?_
      refine lv_iconst (v := 0) hx hb dX8_row_20 (by decide) ?_
      refine lv_bipush (v := 9) hx hb dX8_row_21 (by decide) ?_
      obtain ⟨t5, ht5, hF⟩ := m_bnd hF
      refine mSP (n := 3) (rest := []) (As := [.int x2, .int 0, .int 9]) CC hKN hGl hS (c_X8_in l E x2 0 9 t5 ht5) gX8_row_X8_in rfl ⟨rfl, rfl⟩ (by decide +kernel) ⟨Nat.le_of_ble_eq_true rfl, Nat.le_of_ble_eq_true rfl⟩ m_nil rfl hl.1 rfl (Nat.le_of_ble_eq_true rfl) ⟨Nat.zero_le _, Nat.zero_le _⟩ dX8_row_23 ?_
      refine W.eq (g2 := F0 m 26 ls [.int t5]) rfl ?_
      refine lv_if_ne (tgt := 32) hx hb dX8_row_26 (by decide) (fun c6 => ?_) (fun c6 => ?_)
      · have hF := m_pos c6 hF
        refine lv_aload_n hx hb dX8_row_32 rfl (lv_at hl 0 rfl) ?_
        refine va_get (D := E.1) (ci := 8) (v := .ref (Modela_s a)) (C := RX8) (T := TX8) (N := 20) hx hb hts k1 hown hK hP 0 rfl rfl 1 (by decide) k0 (fun _ h9 => h9) rfl dX8_row_33 ?_
        refine lv_bipush (v := 27) hx hb dX8_row_36 (by decide) ?_
        refine lv_iload_n hx hb dX8_row_38 rfl (lv_at hl 1 rfl) ?_
        refine lv_iadd hx hb dX8_row_39 ?_
        obtain ⟨h7, hF⟩ := m_chk hF
        refine va_iald (f := (Model_s v)) hx hb hK hP 1 1 rfl rfl (mIn_ok h7) dX8_row_40 ?_
        refine W.eq (g2 := F0 m 41 ls [.int ((Model_s v) ((27 + x0)).toNatClampNeg)]) rfl ?_
        refine lv_bipush (v := 6) hx hb dX8_row_41 (by decide) ?_
        refine lv_icmp_eq (tgt := 49) hx hb dX8_row_43 (by decide) (fun c8 => ?_) (fun c8 => ?_)
        · have hF := m_pos c8 hF
          refine lv_aload_n hx hb dX8_row_49 rfl (lv_at hl 0 rfl) ?_
          refine va_get (D := E.1) (ci := 8) (v := .ref (Modela_s a)) (C := RX8) (T := TX8) (N := 20) hx hb hts k1 hown hK hP 0 rfl rfl 1 (by decide) k0 (fun _ h9 => h9) rfl dX8_row_50 ?_
          refine lv_bipush (v := 45) hx hb dX8_row_53 (by decide) ?_
          refine lv_iconst (v := 4) hx hb dX8_row_55 (by decide) ?_
          refine lv_iload_n hx hb dX8_row_56 rfl (lv_at hl 1 rfl) ?_
          refine lv_imul hx hb dX8_row_57 ?_
          refine lv_iadd hx hb dX8_row_58 ?_
          refine lv_iload_n hx hb dX8_row_59 rfl (lv_at hl 2 rfl) ?_
          refine lv_iadd hx hb dX8_row_60 ?_
          obtain ⟨h9, hF⟩ := m_chk hF
          refine va_iald (f := (Model_s v)) hx hb hK hP 1 1 rfl rfl (mIn_ok h9) dX8_row_61 ?_
          refine W.eq (g2 := F0 m 62 ls [.int ((Model_s v) (((45 + (4 * x0)) + x1)).toNatClampNeg)]) rfl ?_
          refine lv_istore (lv' := [(4, .int ((Model_s v) (((45 + (4 * x0)) + x1)).toNatClampNeg)), (0, .ref (Modela_self a)), (1, .int x0), (2, .int x1), (3, .int x2)]) hx hb dX8_row_62 hl (by decide) rfl (fun ls hl => ?_)
          refine lv_aload_n hx hb dX8_row_64 rfl (lv_at hl 1 rfl) ?_
          refine va_get (D := E.1) (ci := 8) (v := .ref (Modela_s a)) (C := RX8) (T := TX8) (N := 20) hx hb hts k1 hown hK hP 0 rfl rfl 1 (by decide) k0 (fun _ h9 => h9) rfl dX8_row_65 ?_
          refine lv_bipush (v := 45) hx hb dX8_row_68 (by decide) ?_
          refine lv_iconst (v := 4) hx hb dX8_row_70 (by decide) ?_
          refine lv_iload_n hx hb dX8_row_71 rfl (lv_at hl 2 rfl) ?_
          refine lv_imul hx hb dX8_row_72 ?_
          refine lv_iadd hx hb dX8_row_73 ?_
          refine lv_iload_n hx hb dX8_row_74 rfl (lv_at hl 3 rfl) ?_
          refine lv_iadd hx hb dX8_row_75 ?_
          refine lv_iload_n hx hb dX8_row_76 rfl (lv_at hl 4 rfl) ?_
          obtain ⟨h10, hF⟩ := m_chk hF
          refine va_iast (f := (Model_s v)) hx hb hK hP hD hS 1 1 rfl rfl (mIn_ok h10) dX8_row_77 (fun H locs hP hD hS => ?_)
          have hP : va_P E.1 vwCl (Model_c E a (Model_s_s v (upd (Model_s v) (((45 + (4 * x0)) + x1)).toNatClampNeg x2))) H := hP
          have hD : va_D A (Model_c E a (Model_s_s v (upd (Model_s v) (((45 + (4 * x0)) + x1)).toNatClampNeg x2))) := hD
          refine lv_iload hx hb dX8_row_78 (lv_at hl 0 rfl) ?_
          have hF := Option.some.inj hF
          subst hF
          rw [hQ]
          exact W.iret hx hb hr (fun t ht _ => ⟨⟨rfl, by rw [ht]; exact hP, hD⟩, hS.F ht⟩) hS.2.2 dX8_row_80
        · have hF := m_neg c8 hF
          refine lv_bipush (v := (-3)) hx hb dX8_row_46 (by decide) ?_
          have hF := Option.some.inj hF
          subst hF
          rw [hQ]
          exact W.iret hx hb hr (fun t ht _ => ⟨⟨rfl, by rw [ht]; exact hP, hD⟩, hS.F ht⟩) hS.2.2 dX8_row_48
      · have hF := m_neg (fun n9 => n9 c6) hF
        refine lv_bipush (v := (-2)) hx hb dX8_row_29 (by decide) ?_
        have hF := Option.some.inj hF
        subst hF
        rw [hQ]
        exact W.iret hx hb hr (fun t ht _ => ⟨⟨rfl, by rw [ht]; exact hP, hD⟩, hS.F ht⟩) hS.2.2 dX8_row_31
    · have hF := m_neg (fun n9 => n9 c4) hF
      refine lv_iconst (v := (-1)) hx hb dX8_row_17 (by decide) ?_
      have hF := Option.some.inj hF
      subst hF
      rw [hQ]
      exact W.iret hx hb hr (fun t ht _ => ⟨⟨rfl, by rw [ht]; exact hP, hD⟩, hS.F ht⟩) hS.2.2 dX8_row_18

abbrev rmX8_will : Room := { frames := 2, cells := 0, slots := 0, locals := 43 }
set_option maxRecDepth 100000 in
set_option maxHeartbeats 400000 in
theorem c_X8_will (l : Launch) (E : mE) (a : ModelA) (v : ModelV) (x0 : Int32) (x1 : Int32) (t : (Int32 × ModelV)) (hF : fn_X8_will v x0 x1 = some t) (sz : Nat) : Met l yX8_will wsX8_will rmX8_will (mPm E [.ref (Modela_self a), .int x0, .int x1] sz ((Model_c E a v)) (([] : va_W))) (mSm E (some (.int t.1)) ((Model_c E a t.2)) (va_A ((Model_c E a v)) sz)) 0 0 (va_A ((Model_c E a v)) sz) := by
  refine mOfM (cc := cX8_will) (maxL := 4) (ret := (some .int)) (by decide) rfl (Nat.le_of_ble_eq_true rfl) ?_
  intro p e_ s m args below meth c Q A hQ CC hr hlocks hin hA hP hD hKN hGl hR0 hRA ls hl
  have hS : va_S A s.heap s.heap [] := va_S.rf
  have hK := hKN.1
  have hx := CC.1
  have hb := CC.2.1
  have hml := CC.2.2.1
  have hown : s.vm.findClass RX8 = some m.cls := CC.2.2.2.1
  have hts := CC.2.2.2.2
  have hl : lv_has ls 4 [(0, .ref (Modela_self a)), (1, .int x0), (2, .int x1)] := hl
  have k0 := hts (.fieldLink RX8 9 "OneDidAllModel" "s" "[I") (by decide +kernel)
  have k1 := (show ∀ w ∈ u_ws RX8 TX8 20, w ∈ wsX8_will by decide +kernel)
  have hP : va_P E.1 vwCl (Model_c E a v) s.heap := hP
  obtain ⟨H, hH⟩ : ∃ H, H = s.heap := ⟨_, rfl⟩
  obtain ⟨locs, hlc⟩ : ∃ z : List Loc, z = [] := ⟨_, rfl⟩
  rw [← hH] at hP
  rw [← hlc] at hS
  have hS : va_S A s.heap H locs := by rw [hH]; exact hS
  rw [← hH, ← hlc]
  unfold fn_X8_will at hF
  refine lv_aload_n hx hb dX8_will_0 rfl (lv_at hl 0 rfl) ?_
  refine lv_iload_n hx hb dX8_will_1 rfl (lv_at hl 1 rfl) ?_
  obtain ⟨t1, ht1, hF⟩ := m_bnd hF
  refine mVP (ci := 8) (n := 1) (rest := []) (As := [.int x0]) CC hKN hGl hS (c_X8_isPupil l E a v x0 t1 ht1) gX8_will_X8_isPupil rfl ⟨rfl, rfl⟩ (by decide +kernel) ⟨Nat.le_of_ble_eq_true rfl, Nat.le_of_ble_eq_true rfl⟩ hP rfl rfl rfl rfl hl.1 rfl (Nat.le_of_ble_eq_true rfl) ⟨Nat.zero_le _, Nat.zero_le _⟩ dX8_will_2 ?_
  refine W.eq (g2 := F0 m 5 ls [.int t1]) rfl ?_
  refine lv_if_ne (tgt := 10) hx hb dX8_will_5 (by decide) (fun c2 => ?_) (fun c2 => ?_)
  · have hF := m_pos c2 hF
    refine lv_iload_n hx hb dX8_will_10 rfl (lv_at hl 2 rfl) ?_
    refine lv_iconst (v := 0) hx hb dX8_will_11 (by decide) ?_
    refine lv_bipush (v := 99) hx hb dX8_will_12 (by decide) ?_
    obtain ⟨t3, ht3, hF⟩ := m_bnd hF
    refine mSP (n := 3) (rest := []) (As := [.int x1, .int 0, .int 99]) CC hKN hGl hS (c_X8_in l E x1 0 99 t3 ht3) gX8_will_X8_in rfl ⟨rfl, rfl⟩ (by decide +kernel) ⟨Nat.le_of_ble_eq_true rfl, Nat.le_of_ble_eq_true rfl⟩ m_nil rfl hl.1 rfl (Nat.le_of_ble_eq_true rfl) ⟨Nat.zero_le _, Nat.zero_le _⟩ dX8_will_14 ?_
    refine W.eq (g2 := F0 m 17 ls [.int t3]) rfl ?_
    refine lv_if_ne (tgt := 23) hx hb dX8_will_17 (by decide) (fun c4 => ?_) (fun c4 => ?_)
    · have hF := m_pos c4 hF
      refine lv_aload_n hx hb dX8_will_23 rfl (lv_at hl 0 rfl) ?_
      refine va_get (D := E.1) (ci := 8) (v := .ref (Modela_s a)) (C := RX8) (T := TX8) (N := 20) hx hb hts k1 hown hK hP 0 rfl rfl 1 (by decide) k0 (fun _ h9 => h9) rfl dX8_will_24 ?_
      refine lv_bipush (v := 8) hx hb dX8_will_27 (by decide) ?_
      refine lv_iload_n hx hb dX8_will_29 rfl (lv_at hl 1 rfl) ?_
      refine lv_iadd hx hb dX8_will_30 ?_
      obtain ⟨h5, hF⟩ := m_chk hF
      refine va_iald (f := (Model_s v)) hx hb hK hP 1 1 rfl rfl (mIn_ok h5) dX8_will_31 ?_
      refine W.eq (g2 := F0 m 32 ls [.int ((Model_s v) ((8 + x0)).toNatClampNeg)]) rfl ?_
      refine lv_istore_n (lv' := [(3, .int ((Model_s v) ((8 + x0)).toNatClampNeg)), (0, .ref (Modela_self a)), (1, .int x0), (2, .int x1)]) hx hb dX8_will_32 rfl hl (by decide) rfl (fun ls hl => ?_)
      refine lv_aload_n hx hb dX8_will_33 rfl (lv_at hl 1 rfl) ?_
      refine va_get (D := E.1) (ci := 8) (v := .ref (Modela_s a)) (C := RX8) (T := TX8) (N := 20) hx hb hts k1 hown hK hP 0 rfl rfl 1 (by decide) k0 (fun _ h9 => h9) rfl dX8_will_34 ?_
      refine lv_bipush (v := 8) hx hb dX8_will_37 (by decide) ?_
      refine lv_iload_n hx hb dX8_will_39 rfl (lv_at hl 2 rfl) ?_
      refine lv_iadd hx hb dX8_will_40 ?_
      refine lv_iload_n hx hb dX8_will_41 rfl (lv_at hl 3 rfl) ?_
      obtain ⟨h6, hF⟩ := m_chk hF
      refine va_iast (f := (Model_s v)) hx hb hK hP hD hS 1 1 rfl rfl (mIn_ok h6) dX8_will_42 (fun H locs hP hD hS => ?_)
      have hP : va_P E.1 vwCl (Model_c E a (Model_s_s v (upd (Model_s v) ((8 + x0)).toNatClampNeg x1))) H := hP
      have hD : va_D A (Model_c E a (Model_s_s v (upd (Model_s v) ((8 + x0)).toNatClampNeg x1))) := hD
      refine lv_iload_n hx hb dX8_will_43 rfl (lv_at hl 0 rfl) ?_
      have hF := Option.some.inj hF
      subst hF
      rw [hQ]
      exact W.iret hx hb hr (fun t ht _ => ⟨⟨rfl, by rw [ht]; exact hP, hD⟩, hS.F ht⟩) hS.2.2 dX8_will_44
    · have hF := m_neg (fun n9 => n9 c4) hF
      refine lv_bipush (v := (-2)) hx hb dX8_will_20 (by decide) ?_
      have hF := Option.some.inj hF
      subst hF
      rw [hQ]
      exact W.iret hx hb hr (fun t ht _ => ⟨⟨rfl, by rw [ht]; exact hP, hD⟩, hS.F ht⟩) hS.2.2 dX8_will_22
  · have hF := m_neg (fun n9 => n9 c2) hF
    refine lv_iconst (v := (-1)) hx hb dX8_will_8 (by decide) ?_
    have hF := Option.some.inj hF
    subst hF
    rw [hQ]
    exact W.iret hx hb hr (fun t ht _ => ⟨⟨rfl, by rw [ht]; exact hP, hD⟩, hS.F ht⟩) hS.2.2 dX8_will_9

abbrev rmX8_out : Room := { frames := 2, cells := 0, slots := 0, locals := 43 }
set_option maxRecDepth 100000 in
set_option maxHeartbeats 400000 in
theorem c_X8_out (l : Launch) (E : mE) (a : ModelA) (v : ModelV) (x0 : Int32) (x1 : Int32) (t : (Int32 × ModelV)) (hF : fn_X8_out v x0 x1 = some t) (sz : Nat) : Met l yX8_out wsX8_out rmX8_out (mPm E [.ref (Modela_self a), .int x0, .int x1] sz ((Model_c E a v)) (([] : va_W))) (mSm E (some (.int t.1)) ((Model_c E a t.2)) (va_A ((Model_c E a v)) sz)) 0 0 (va_A ((Model_c E a v)) sz) := by
  refine mOfM (cc := cX8_out) (maxL := 4) (ret := (some .int)) (by decide) rfl (Nat.le_of_ble_eq_true rfl) ?_
  intro p e_ s m args below meth c Q A hQ CC hr hlocks hin hA hP hD hKN hGl hR0 hRA ls hl
  have hS : va_S A s.heap s.heap [] := va_S.rf
  have hK := hKN.1
  have hx := CC.1
  have hb := CC.2.1
  have hml := CC.2.2.1
  have hown : s.vm.findClass RX8 = some m.cls := CC.2.2.2.1
  have hts := CC.2.2.2.2
  have hl : lv_has ls 4 [(0, .ref (Modela_self a)), (1, .int x0), (2, .int x1)] := hl
  have k0 := hts (.fieldLink RX8 9 "OneDidAllModel" "s" "[I") (by decide +kernel)
  have k1 := (show ∀ w ∈ u_ws RX8 TX8 20, w ∈ wsX8_out by decide +kernel)
  have hP : va_P E.1 vwCl (Model_c E a v) s.heap := hP
  obtain ⟨H, hH⟩ : ∃ H, H = s.heap := ⟨_, rfl⟩
  obtain ⟨locs, hlc⟩ : ∃ z : List Loc, z = [] := ⟨_, rfl⟩
  rw [← hH] at hP
  rw [← hlc] at hS
  have hS : va_S A s.heap H locs := by rw [hH]; exact hS
  rw [← hH, ← hlc]
  unfold fn_X8_out at hF
  refine lv_aload_n hx hb dX8_out_0 rfl (lv_at hl 0 rfl) ?_
  refine lv_iload_n hx hb dX8_out_1 rfl (lv_at hl 1 rfl) ?_
  obtain ⟨t1, ht1, hF⟩ := m_bnd hF
  refine mVP (ci := 8) (n := 1) (rest := []) (As := [.int x0]) CC hKN hGl hS (c_X8_isPupil l E a v x0 t1 ht1) gX8_out_X8_isPupil rfl ⟨rfl, rfl⟩ (by decide +kernel) ⟨Nat.le_of_ble_eq_true rfl, Nat.le_of_ble_eq_true rfl⟩ hP rfl rfl rfl rfl hl.1 rfl (Nat.le_of_ble_eq_true rfl) ⟨Nat.zero_le _, Nat.zero_le _⟩ dX8_out_2 ?_
  refine W.eq (g2 := F0 m 5 ls [.int t1]) rfl ?_
  refine lv_if_ne (tgt := 10) hx hb dX8_out_5 (by decide) (fun c2 => ?_) (fun c2 => ?_)
  · have hF := m_pos c2 hF
    refine lv_aload_n hx hb dX8_out_10 rfl (lv_at hl 0 rfl) ?_
    refine va_get (D := E.1) (ci := 8) (v := .ref (Modela_s a)) (C := RX8) (T := TX8) (N := 20) hx hb hts k1 hown hK hP 0 rfl rfl 1 (by decide) k0 (fun _ h9 => h9) rfl dX8_out_11 ?_
    refine lv_bipush (v := 14) hx hb dX8_out_14 (by decide) ?_
    refine lv_iload_n hx hb dX8_out_16 rfl (lv_at hl 1 rfl) ?_
    refine lv_iadd hx hb dX8_out_17 ?_
    obtain ⟨h3, hF⟩ := m_chk hF
    refine va_iald (f := (Model_s v)) hx hb hK hP 1 1 rfl rfl (mIn_ok h3) dX8_out_18 ?_
    refine W.eq (g2 := F0 m 19 ls [.int ((Model_s v) ((14 + x0)).toNatClampNeg)]) rfl ?_
    refine lv_istore_n (lv' := [(3, .int ((Model_s v) ((14 + x0)).toNatClampNeg)), (0, .ref (Modela_self a)), (1, .int x0), (2, .int x1)]) hx hb dX8_out_19 rfl hl (by decide) rfl (fun ls hl => ?_)
    refine lv_aload_n hx hb dX8_out_20 rfl (lv_at hl 1 rfl) ?_
    refine va_get (D := E.1) (ci := 8) (v := .ref (Modela_s a)) (C := RX8) (T := TX8) (N := 20) hx hb hts k1 hown hK hP 0 rfl rfl 1 (by decide) k0 (fun _ h9 => h9) rfl dX8_out_21 ?_
    refine lv_bipush (v := 14) hx hb dX8_out_24 (by decide) ?_
    refine lv_iload_n hx hb dX8_out_26 rfl (lv_at hl 2 rfl) ?_
    refine lv_iadd hx hb dX8_out_27 ?_
    refine lv_iload_n hx hb dX8_out_28 rfl (lv_at hl 3 rfl) ?_
    obtain ⟨j37, hjd37, hF⟩ := m_jp hF
    have hj37 : ∀ (z0_37 : Int32) (H : Heap) (locs : List Loc) (ls : Array Slot), j37 z0_37 = some t → va_P E.1 vwCl (Model_c E a v) H → va_D A (Model_c E a v) → va_S A s.heap H locs → lv_has ls 4 [(3, .int ((Model_s v) ((14 + x0)).toNatClampNeg))] → W p l e_ rmX8_out s m args below meth c H locs 0 0 Q (F0 m 37 ls [.int z0_37, .int (14 + x0), .ref (Modela_s a)]) := by
      intro z0_37 H locs ls hF hP hD hS hl
      rw [hjd37] at hF
      obtain ⟨h4, hF⟩ := m_chk hF
      refine va_iast (f := (Model_s v)) hx hb hK hP hD hS 1 1 rfl rfl (mIn_ok h4) dX8_out_37 (fun H locs hP hD hS => ?_)
      have hP : va_P E.1 vwCl (Model_c E a (Model_s_s v (upd (Model_s v) ((14 + x0)).toNatClampNeg z0_37))) H := hP
      have hD : va_D A (Model_c E a (Model_s_s v (upd (Model_s v) ((14 + x0)).toNatClampNeg z0_37))) := hD
      refine lv_iload_n hx hb dX8_out_38 rfl (lv_at hl 0 rfl) ?_
      have hF := Option.some.inj hF
      subst hF
      rw [hQ]
      exact W.iret hx hb hr (fun t ht _ => ⟨⟨rfl, by rw [ht]; exact hP, hD⟩, hS.F ht⟩) hS.2.2 dX8_out_39
    clear hjd37
    refine lv_if_eq (tgt := 36) hx hb dX8_out_29 (by decide) (fun c5 => ?_) (fun c5 => ?_)
    · have hF := m_pos c5 hF
      refine lv_iconst (v := 0) hx hb dX8_out_36 (by decide) ?_
      exact hj37 0 H locs ls hF hP hD hS (lv_sub hl [0] rfl)
    · have hF := m_neg c5 hF
      refine lv_iconst (v := 1) hx hb dX8_out_32 (by decide) ?_
      refine lv_goto (tgt := 37) hx hb dX8_out_33 (by decide) ?_
      exact hj37 1 H locs ls hF hP hD hS (lv_sub hl [0] rfl)
  · have hF := m_neg (fun n9 => n9 c2) hF
    refine lv_iconst (v := (-1)) hx hb dX8_out_8 (by decide) ?_
    have hF := Option.some.inj hF
    subst hF
    rw [hQ]
    exact W.iret hx hb hr (fun t ht _ => ⟨⟨rfl, by rw [ht]; exact hP, hD⟩, hS.F ht⟩) hS.2.2 dX8_out_9

abbrev rmX8_told : Room := { frames := 4, cells := 0, slots := 0, locals := 89 }
set_option maxRecDepth 100000 in
set_option maxHeartbeats 400000 in
theorem c_X8_told (l : Launch) (E : mE) (a : ModelA) (v : ModelV) (x0 : Int32) (t : Int32) (hF : fn_X8_told v x0 = some t) : Met l yX8_told wsX8_told rmX8_told (mPp E [.ref (Modela_self a), .int x0] (Model_c E a v)) (mSp (some (.int t))) 0 0 (fun _ => False) := by
  refine mOfP (cc := cX8_told) (maxL := 2) (ret := (some .int)) (by decide) rfl (Nat.le_of_ble_eq_true rfl) ?_
  intro p e_ s m args below meth c Q hQ CC hr hlocks hP hKN hGl ls hl
  have hS : va_S (fun _ => False) s.heap s.heap [] := va_S.rf
  have hK := hKN.1
  have hx := CC.1
  have hb := CC.2.1
  have hml := CC.2.2.1
  have hown : s.vm.findClass RX8 = some m.cls := CC.2.2.2.1
  have hts := CC.2.2.2.2
  have hl : lv_has ls 2 [(0, .ref (Modela_self a)), (1, .int x0)] := hl
  have k0 := hts (.fieldLink RX8 9 "OneDidAllModel" "s" "[I") (by decide +kernel)
  have k1 := (show ∀ w ∈ u_ws RX8 TX8 20, w ∈ wsX8_told by decide +kernel)
  unfold fn_X8_told at hF
  refine lv_iload_n hx hb dX8_told_0 rfl (lv_at hl 1 rfl) ?_
  by_cases c1 : x0 = 0
  · have hF := m_pos c1 hF
    refine lv_tableIn (off := 43) (tgt := 44) hx hb dX8_told_1 (by rw [c1]; decide) (by rw [c1]; decide) (by rw [c1]; rfl) (by decide) ?_
    refine lv_aload_n hx hb dX8_told_44 rfl (lv_at hl 0 rfl) ?_
    refine va_get (D := E.1) (ci := 8) (v := .ref (Modela_s a)) (C := RX8) (T := TX8) (N := 20) hx hb hts k1 hown hK hP 0 rfl rfl 1 (by decide) k0 (fun _ h9 => h9) rfl dX8_told_45 ?_
    refine lv_iconst (v := 0) hx hb dX8_told_48 (by decide) ?_
    obtain ⟨h2, hF⟩ := m_chk hF
    refine va_iald (f := (Model_s v)) hx hb hK hP 1 1 rfl rfl (mIn_ok h2) dX8_told_49 ?_
    refine W.eq (g2 := F0 m 50 ls [.int ((Model_s v) (0 : Int32).toNatClampNeg)]) rfl ?_
    have hF := Option.some.inj hF
    subst hF
    rw [hQ]
    exact W.iret hx hb hr (fun t ht _ => ⟨rfl, ht⟩) (fun _ h => by cases h) dX8_told_50
  · have hF := m_neg c1 hF
    by_cases c3 : x0 = 1
    · have hF := m_pos c3 hF
      refine lv_tableIn (off := 50) (tgt := 51) hx hb dX8_told_1 (by rw [c3]; decide) (by rw [c3]; decide) (by rw [c3]; rfl) (by decide) ?_
      refine lv_aload_n hx hb dX8_told_51 rfl (lv_at hl 0 rfl) ?_
      refine va_get (D := E.1) (ci := 8) (v := .ref (Modela_s a)) (C := RX8) (T := TX8) (N := 20) hx hb hts k1 hown hK hP 0 rfl rfl 1 (by decide) k0 (fun _ h9 => h9) rfl dX8_told_52 ?_
      refine lv_iconst (v := 1) hx hb dX8_told_55 (by decide) ?_
      obtain ⟨h4, hF⟩ := m_chk hF
      refine va_iald (f := (Model_s v)) hx hb hK hP 1 1 rfl rfl (mIn_ok h4) dX8_told_56 ?_
      refine W.eq (g2 := F0 m 57 ls [.int ((Model_s v) (1 : Int32).toNatClampNeg)]) rfl ?_
      have hF := Option.some.inj hF
      subst hF
      rw [hQ]
      exact W.iret hx hb hr (fun t ht _ => ⟨rfl, ht⟩) (fun _ h => by cases h) dX8_told_57
    · have hF := m_neg c3 hF
      by_cases c5 : x0 = 2
      · have hF := m_pos c5 hF
        refine lv_tableIn (off := 57) (tgt := 58) hx hb dX8_told_1 (by rw [c5]; decide) (by rw [c5]; decide) (by rw [c5]; rfl) (by decide) ?_
        refine lv_aload_n hx hb dX8_told_58 rfl (lv_at hl 0 rfl) ?_
        obtain ⟨t6, ht6, hF⟩ := m_bnd hF
        refine mVP (ci := 8) (n := 0) (rest := []) (As := []) CC hKN hGl hS (c_X8_goalNow l E a v t6 ht6) gX8_told_X8_goalNow rfl ⟨rfl, rfl⟩ (by decide +kernel) ⟨Nat.le_of_ble_eq_true rfl, Nat.le_of_ble_eq_true rfl⟩ hP rfl rfl rfl rfl hl.1 rfl (Nat.le_of_ble_eq_true rfl) ⟨Nat.zero_le _, Nat.zero_le _⟩ dX8_told_59 ?_
        refine W.eq (g2 := F0 m 62 ls [.int t6]) rfl ?_
        have hF := Option.some.inj hF
        subst hF
        rw [hQ]
        exact W.iret hx hb hr (fun t ht _ => ⟨rfl, ht⟩) (fun _ h => by cases h) dX8_told_62
      · have hF := m_neg c5 hF
        by_cases c7 : x0 = 3
        · have hF := m_pos c7 hF
          refine lv_tableIn (off := 62) (tgt := 63) hx hb dX8_told_1 (by rw [c7]; decide) (by rw [c7]; decide) (by rw [c7]; rfl) (by decide) ?_
          refine lv_aload_n hx hb dX8_told_63 rfl (lv_at hl 0 rfl) ?_
          refine lv_sipush (v := 216) hx hb dX8_told_64 (by decide) ?_
          refine lv_iconst (v := 2) hx hb dX8_told_67 (by decide) ?_
          obtain ⟨t8, ht8, hF⟩ := m_bnd hF
          refine mVP (ci := 8) (n := 2) (rest := []) (As := [.int 216, .int 2]) CC hKN hGl hS (c_X8_tellsOf l E a v 216 2 t8 ht8) gX8_told_X8_tellsOf rfl ⟨rfl, rfl⟩ (by decide +kernel) ⟨Nat.le_of_ble_eq_true rfl, Nat.le_of_ble_eq_true rfl⟩ hP rfl rfl rfl rfl hl.1 rfl (Nat.le_of_ble_eq_true rfl) ⟨Nat.zero_le _, Nat.zero_le _⟩ dX8_told_68 ?_
          refine W.eq (g2 := F0 m 71 ls [.int t8]) rfl ?_
          have hF := Option.some.inj hF
          subst hF
          rw [hQ]
          exact W.iret hx hb hr (fun t ht _ => ⟨rfl, ht⟩) (fun _ h => by cases h) dX8_told_71
        · have hF := m_neg c7 hF
          by_cases c9 : x0 = 4
          · have hF := m_pos c9 hF
            refine lv_tableIn (off := 71) (tgt := 72) hx hb dX8_told_1 (by rw [c9]; decide) (by rw [c9]; decide) (by rw [c9]; rfl) (by decide) ?_
            refine lv_aload_n hx hb dX8_told_72 rfl (lv_at hl 0 rfl) ?_
            obtain ⟨t10, ht10, hF⟩ := m_bnd hF
            refine mVP (ci := 8) (n := 0) (rest := []) (As := []) CC hKN hGl hS (c_X8_allHours l E a v t10 ht10) gX8_told_X8_allHours rfl ⟨rfl, rfl⟩ (by decide +kernel) ⟨Nat.le_of_ble_eq_true rfl, Nat.le_of_ble_eq_true rfl⟩ hP rfl rfl rfl rfl hl.1 rfl (Nat.le_of_ble_eq_true rfl) ⟨Nat.zero_le _, Nat.zero_le _⟩ dX8_told_73 ?_
            refine W.eq (g2 := F0 m 76 ls [.int t10]) rfl ?_
            have hF := Option.some.inj hF
            subst hF
            rw [hQ]
            exact W.iret hx hb hr (fun t ht _ => ⟨rfl, ht⟩) (fun _ h => by cases h) dX8_told_76
          · have hF := m_neg c9 hF
            by_cases c11 : x0 = 5
            · have hF := m_pos c11 hF
              refine lv_tableIn (off := 76) (tgt := 77) hx hb dX8_told_1 (by rw [c11]; decide) (by rw [c11]; decide) (by rw [c11]; rfl) (by decide) ?_
              refine lv_aload_n hx hb dX8_told_77 rfl (lv_at hl 0 rfl) ?_
              obtain ⟨t12, ht12, hF⟩ := m_bnd hF
              refine mVP (ci := 8) (n := 0) (rest := []) (As := []) CC hKN hGl hS (c_X8_allClaims l E a v t12 ht12) gX8_told_X8_allClaims rfl ⟨rfl, rfl⟩ (by decide +kernel) ⟨Nat.le_of_ble_eq_true rfl, Nat.le_of_ble_eq_true rfl⟩ hP rfl rfl rfl rfl hl.1 rfl (Nat.le_of_ble_eq_true rfl) ⟨Nat.zero_le _, Nat.zero_le _⟩ dX8_told_78 ?_
              refine W.eq (g2 := F0 m 81 ls [.int t12]) rfl ?_
              have hF := Option.some.inj hF
              subst hF
              rw [hQ]
              exact W.iret hx hb hr (fun t ht _ => ⟨rfl, ht⟩) (fun _ h => by cases h) dX8_told_81
            · have hF := m_neg c11 hF
              by_cases c13 : x0 = 6
              · have hF := m_pos c13 hF
                refine lv_tableIn (off := 81) (tgt := 82) hx hb dX8_told_1 (by rw [c13]; decide) (by rw [c13]; decide) (by rw [c13]; rfl) (by decide) ?_
                refine lv_aload_n hx hb dX8_told_82 rfl (lv_at hl 0 rfl) ?_
                obtain ⟨t14, ht14, hF⟩ := m_bnd hF
                refine mVP (ci := 8) (n := 0) (rest := []) (As := []) CC hKN hGl hS (c_X8_baseNow l E a v t14 ht14) gX8_told_X8_baseNow rfl ⟨rfl, rfl⟩ (by decide +kernel) ⟨Nat.le_of_ble_eq_true rfl, Nat.le_of_ble_eq_true rfl⟩ hP rfl rfl rfl rfl hl.1 rfl (Nat.le_of_ble_eq_true rfl) ⟨Nat.zero_le _, Nat.zero_le _⟩ dX8_told_83 ?_
                refine W.eq (g2 := F0 m 86 ls [.int t14]) rfl ?_
                have hF := Option.some.inj hF
                subst hF
                rw [hQ]
                exact W.iret hx hb hr (fun t ht _ => ⟨rfl, ht⟩) (fun _ h => by cases h) dX8_told_86
              · have hF := m_neg c13 hF
                have qc1 := lv_neT (a := 0) c1 rfl
                have qc3 := lv_neT (a := 1) c3 rfl
                have qc5 := lv_neT (a := 2) c5 rfl
                have qc7 := lv_neT (a := 3) c7 rfl
                have qc9 := lv_neT (a := 4) c9 rfl
                have qc11 := lv_neT (a := 5) c11 rfl
                have qc13 := lv_neT (a := 6) c13 rfl
                refine lv_tableOut (tgt := 87) hx hb dX8_told_1 (by omega) (by decide) ?_
                refine lv_iconst (v := (-1)) hx hb dX8_told_87 (by decide) ?_
                have hF := Option.some.inj hF
                subst hF
                rw [hQ]
                exact W.iret hx hb hr (fun t ht _ => ⟨rfl, ht⟩) (fun _ h => by cases h) dX8_told_88

abbrev rmX8_isRule : Room := { frames := 1, cells := 0, slots := 0, locals := 22 }
set_option maxRecDepth 100000 in
set_option maxHeartbeats 400000 in
theorem c_X8_isRule (l : Launch) (E : mE) (x0 : Int32) (t : Int32) (hF : fn_X8_isRule x0 = some t) : Met l yX8_isRule wsX8_isRule rmX8_isRule (mPp E [.int x0] ([] : va_W)) (mSp (some (.int t))) 0 0 (fun _ => False) := by
  refine mOfP (cc := cX8_isRule) (maxL := 1) (ret := (some .boolean)) (by decide) rfl (Nat.le_of_ble_eq_true rfl) ?_
  intro p e_ s m args below meth c Q hQ CC hr hlocks hP hKN hGl ls hl
  have hS : va_S (fun _ => False) s.heap s.heap [] := va_S.rf
  have hK := hKN.1
  have hx := CC.1
  have hb := CC.2.1
  have hml := CC.2.2.1
  have hown : s.vm.findClass RX8 = some m.cls := CC.2.2.2.1
  have hts := CC.2.2.2.2
  have hl : lv_has ls 1 [(0, .int x0)] := hl
  unfold fn_X8_isRule at hF
  refine lv_iload_n hx hb dX8_isRule_0 rfl (lv_at hl 0 rfl) ?_
  refine lv_iconst (v := 0) hx hb dX8_isRule_1 (by decide) ?_
  refine lv_iconst (v := 3) hx hb dX8_isRule_2 (by decide) ?_
  obtain ⟨t1, ht1, hF⟩ := m_bnd hF
  refine mSP (n := 3) (rest := []) (As := [.int x0, .int 0, .int 3]) CC hKN hGl hS (c_X8_in l E x0 0 3 t1 ht1) gX8_isRule_X8_in rfl ⟨rfl, rfl⟩ (by decide +kernel) ⟨Nat.le_of_ble_eq_true rfl, Nat.le_of_ble_eq_true rfl⟩ m_nil rfl hl.1 rfl (Nat.le_of_ble_eq_true rfl) ⟨Nat.zero_le _, Nat.zero_le _⟩ dX8_isRule_3 ?_
  refine W.eq (g2 := F0 m 6 ls [.int t1]) rfl ?_
  obtain ⟨h2, hF⟩ := m_chk hF
  have hF := Option.some.inj hF
  subst hF
  rw [hQ]
  exact W.zret hx hb hr (mBit_nar h2) (fun t ht _ => ⟨rfl, ht⟩) (fun _ h => by cases h) dX8_isRule_6

abbrev rmX8_mark : Room := { frames := 5, cells := 0, slots := 0, locals := 114 }
set_option maxRecDepth 100000 in
set_option maxHeartbeats 400000 in
theorem c_X8_mark (l : Launch) (E : mE) (a : ModelA) (v : ModelV) (x0 : Int32) (x1 : Int32) (t : Int32) (hF : fn_X8_mark v x0 x1 = some t) : Met l yX8_mark wsX8_mark rmX8_mark (mPp E [.ref (Modela_self a), .int x0, .int x1] (Model_c E a v)) (mSp (some (.int t))) 0 0 (fun _ => False) := by
  refine mOfP (cc := cX8_mark) (maxL := 3) (ret := (some .int)) (by decide) rfl (Nat.le_of_ble_eq_true rfl) ?_
  intro p e_ s m args below meth c Q hQ CC hr hlocks hP hKN hGl ls hl
  have hS : va_S (fun _ => False) s.heap s.heap [] := va_S.rf
  have hK := hKN.1
  have hx := CC.1
  have hb := CC.2.1
  have hml := CC.2.2.1
  have hown : s.vm.findClass RX8 = some m.cls := CC.2.2.2.1
  have hts := CC.2.2.2.2
  have hl : lv_has ls 3 [(0, .ref (Modela_self a)), (1, .int x0), (2, .int x1)] := hl
  unfold fn_X8_mark at hF
  refine lv_aload_n hx hb dX8_mark_0 rfl (lv_at hl 0 rfl) ?_
  refine lv_iload_n hx hb dX8_mark_1 rfl (lv_at hl 1 rfl) ?_
  obtain ⟨t1, ht1, hF⟩ := m_bnd hF
  refine mVP (ci := 8) (n := 1) (rest := []) (As := [.int x0]) CC hKN hGl hS (c_X8_isPupil l E a v x0 t1 ht1) gX8_mark_X8_isPupil rfl ⟨rfl, rfl⟩ (by decide +kernel) ⟨Nat.le_of_ble_eq_true rfl, Nat.le_of_ble_eq_true rfl⟩ hP rfl rfl rfl rfl hl.1 rfl (Nat.le_of_ble_eq_true rfl) ⟨Nat.zero_le _, Nat.zero_le _⟩ dX8_mark_2 ?_
  refine W.eq (g2 := F0 m 5 ls [.int t1]) rfl ?_
  refine lv_if_eq (tgt := 24) hx hb dX8_mark_5 (by decide) (fun c2 => ?_) (fun c2 => ?_)
  · have hF := m_pos c2 hF
    refine lv_iconst (v := (-1)) hx hb dX8_mark_24 (by decide) ?_
    have hF := Option.some.inj hF
    subst hF
    rw [hQ]
    exact W.iret hx hb hr (fun t ht _ => ⟨rfl, ht⟩) (fun _ h => by cases h) dX8_mark_25
  · have hF := m_neg c2 hF
    refine lv_iload_n hx hb dX8_mark_8 rfl (lv_at hl 2 rfl) ?_
    obtain ⟨t3, ht3, hF⟩ := m_bnd hF
    refine mSP (n := 1) (rest := []) (As := [.int x1]) CC hKN hGl hS (c_X8_isRule l E x1 t3 ht3) gX8_mark_X8_isRule rfl ⟨rfl, rfl⟩ (by decide +kernel) ⟨Nat.le_of_ble_eq_true rfl, Nat.le_of_ble_eq_true rfl⟩ m_nil rfl hl.1 rfl (Nat.le_of_ble_eq_true rfl) ⟨Nat.zero_le _, Nat.zero_le _⟩ dX8_mark_9 ?_
    refine W.eq (g2 := F0 m 12 ls [.int t3]) rfl ?_
    refine lv_if_eq (tgt := 24) hx hb dX8_mark_12 (by decide) (fun c4 => ?_) (fun c4 => ?_)
    · have hF := m_pos c4 hF
      refine lv_iconst (v := (-1)) hx hb dX8_mark_24 (by decide) ?_
      have hF := Option.some.inj hF
      subst hF
      rw [hQ]
      exact W.iret hx hb hr (fun t ht _ => ⟨rfl, ht⟩) (fun _ h => by cases h) dX8_mark_25
    · have hF := m_neg c4 hF
      refine lv_aload_n hx hb dX8_mark_15 rfl (lv_at hl 0 rfl) ?_
      refine lv_iload_n hx hb dX8_mark_16 rfl (lv_at hl 1 rfl) ?_
      refine lv_iload_n hx hb dX8_mark_17 rfl (lv_at hl 2 rfl) ?_
      obtain ⟨t5, ht5, hF⟩ := m_bnd hF
      refine mVP (ci := 8) (n := 2) (rest := []) (As := [.int x0, .int x1]) CC hKN hGl hS (c_X8_markOf l E a v x0 x1 t5 ht5) gX8_mark_X8_markOf rfl ⟨rfl, rfl⟩ (by decide +kernel) ⟨Nat.le_of_ble_eq_true rfl, Nat.le_of_ble_eq_true rfl⟩ hP rfl rfl rfl rfl hl.1 rfl (Nat.le_of_ble_eq_true rfl) ⟨Nat.zero_le _, Nat.zero_le _⟩ dX8_mark_18 ?_
      refine W.eq (g2 := F0 m 21 ls [.int t5]) rfl ?_
      refine lv_goto (tgt := 25) hx hb dX8_mark_21 (by decide) ?_
      have hF := Option.some.inj hF
      subst hF
      rw [hQ]
      exact W.iret hx hb hr (fun t ht _ => ⟨rfl, ht⟩) (fun _ h => by cases h) dX8_mark_25

abbrev rmX8_goes : Room := { frames := 4, cells := 0, slots := 0, locals := 97 }
set_option maxRecDepth 100000 in
set_option maxHeartbeats 400000 in
theorem c_X8_goes (l : Launch) (E : mE) (a : ModelA) (v : ModelV) (t : ModelV) (hF : fn_X8_goes v = some t) (sz : Nat) : Met l yX8_goes wsX8_goes rmX8_goes (mPm E [.ref (Modela_self a)] sz ((Model_c E a v)) (([] : va_W))) (mSm E (none) ((Model_c E a t)) (va_A ((Model_c E a v)) sz)) 0 0 (va_A ((Model_c E a v)) sz) := by
  refine mOfM (cc := cX8_goes) (maxL := 4) (ret := none) (by decide) rfl (Nat.le_of_ble_eq_true rfl) ?_
  intro p e_ s m args below meth c Q A hQ CC hr hlocks hin hA hP hD hKN hGl hR0 hRA ls hl
  have hS : va_S A s.heap s.heap [] := va_S.rf
  have hK := hKN.1
  have hx := CC.1
  have hb := CC.2.1
  have hml := CC.2.2.1
  have hown : s.vm.findClass RX8 = some m.cls := CC.2.2.2.1
  have hts := CC.2.2.2.2
  have hl : lv_has ls 4 [(0, .ref (Modela_self a))] := hl
  have k0 := hts (.fieldLink RX8 9 "OneDidAllModel" "s" "[I") (by decide +kernel)
  have k1 := (show ∀ w ∈ u_ws RX8 TX8 20, w ∈ wsX8_goes by decide +kernel)
  have k2 := hts (.fieldLink RX8 28 "OneDidAllModel" "does" "[I") (by decide +kernel)
  have hP : va_P E.1 vwCl (Model_c E a v) s.heap := hP
  obtain ⟨H, hH⟩ : ∃ H, H = s.heap := ⟨_, rfl⟩
  obtain ⟨locs, hlc⟩ : ∃ z : List Loc, z = [] := ⟨_, rfl⟩
  rw [← hH] at hP
  rw [← hlc] at hS
  have hS : va_S A s.heap H locs := by rw [hH]; exact hS
  rw [← hH, ← hlc]
  unfold fn_X8_goes at hF
  refine lv_iconst (v := 0) hx hb dX8_goes_0 (by decide) ?_
  refine lv_istore_n (lv' := [(1, .int 0), (0, .ref (Modela_self a))]) hx hb dX8_goes_1 rfl hl (by decide) rfl (fun ls hl => ?_)
  refine lv_iconst (v := 0) hx hb dX8_goes_2 (by decide) ?_
  refine lv_istore_n (lv' := [(2, .int 0), (1, .int 0), (0, .ref (Modela_self a))]) hx hb dX8_goes_3 rfl hl (by decide) rfl (fun ls hl => ?_)
  obtain ⟨j41, hjd41, hF⟩ := m_jp hF
  have hj41 : ∀ (x1_41 : Int32) (wx_41 : ModelV) (H : Heap) (locs : List Loc) (ls : Array Slot), j41 x1_41 wx_41 = some t → va_P E.1 vwCl (Model_c E a wx_41) H → va_D A (Model_c E a wx_41) → va_S A s.heap H locs → lv_has ls 4 [(0, .ref (Modela_self a)), (1, .int x1_41)] → W p l e_ rmX8_goes s m args below meth c H locs 0 0 Q (F0 m 41 ls []) := by
    intro x1_41 wx_41 H locs ls hF hP hD hS hl
    rw [hjd41] at hF
    refine lv_aload_n hx hb dX8_goes_41 rfl (lv_at hl 0 rfl) ?_
    obtain ⟨t1, ht1, hF⟩ := m_bnd hF
    refine mVP (ci := 8) (n := 0) (rest := []) (As := []) CC hKN hGl hS (c_X8_manyIn l E a wx_41 t1 ht1) gX8_goes_X8_manyIn rfl ⟨rfl, rfl⟩ (by decide +kernel) ⟨Nat.le_of_ble_eq_true rfl, Nat.le_of_ble_eq_true rfl⟩ hP rfl rfl rfl rfl hl.1 rfl (Nat.le_of_ble_eq_true rfl) ⟨Nat.zero_le _, Nat.zero_le _⟩ dX8_goes_42 ?_
    refine W.eq (g2 := F0 m 45 ls [.int t1]) rfl ?_
    obtain ⟨j58, hjd58, hF⟩ := m_jp hF
    have hj58 : ∀ (z0_58 : Int32) (H : Heap) (locs : List Loc) (ls : Array Slot), j58 z0_58 = some t → va_P E.1 vwCl (Model_c E a wx_41) H → va_D A (Model_c E a wx_41) → va_S A s.heap H locs → lv_has ls 4 [(0, .ref (Modela_self a))] → W p l e_ rmX8_goes s m args below meth c H locs 0 0 Q (F0 m 58 ls [.int z0_58]) := by
      intro z0_58 H locs ls hF hP hD hS hl
      rw [hjd58] at hF
      refine lv_istore_n (lv' := [(2, .int z0_58), (0, .ref (Modela_self a))]) hx hb dX8_goes_58 rfl hl (by decide) rfl (fun ls hl => ?_)
      refine lv_iconst (v := 0) hx hb dX8_goes_59 (by decide) ?_
      refine lv_istore_n (lv' := [(3, .int 0), (2, .int z0_58), (0, .ref (Modela_self a))]) hx hb dX8_goes_60 rfl hl (by decide) rfl (fun ls hl => ?_)
      obtain ⟨j226, hjd226, hF⟩ := m_jp hF
      have hj226 : ∀ (wx_226 : ModelV) (H : Heap) (locs : List Loc) (ls : Array Slot), j226 wx_226 = some t → va_P E.1 vwCl (Model_c E a wx_226) H → va_D A (Model_c E a wx_226) → va_S A s.heap H locs → lv_has ls 4 [(0, .ref (Modela_self a))] → W p l e_ rmX8_goes s m args below meth c H locs 0 0 Q (F0 m 226 ls []) := by
        intro wx_226 H locs ls hF hP hD hS hl
        rw [hjd226] at hF
        refine lv_aload_n hx hb dX8_goes_226 rfl (lv_at hl 0 rfl) ?_
        refine va_get (D := E.1) (ci := 8) (v := .ref (Modela_s a)) (C := RX8) (T := TX8) (N := 20) hx hb hts k1 hown hK hP 0 rfl rfl 1 (by decide) k0 (fun _ h9 => h9) rfl dX8_goes_227 ?_
        refine lv_iconst (v := 0) hx hb dX8_goes_230 (by decide) ?_
        refine lv_dup2_11 hx hb dX8_goes_231 rfl rfl ?_
        obtain ⟨h2, hF⟩ := m_chk hF
        refine va_iald (f := (Model_s wx_226)) hx hb hK hP 1 1 rfl rfl (mIn_ok h2) dX8_goes_232 ?_
        refine W.eq (g2 := F0 m 233 ls [.int ((Model_s wx_226) (0 : Int32).toNatClampNeg), .int 0, .ref (Modela_s a)]) rfl ?_
        refine lv_iconst (v := 1) hx hb dX8_goes_233 (by decide) ?_
        refine lv_iadd hx hb dX8_goes_234 ?_
        obtain ⟨h3, hF⟩ := m_chk hF
        refine va_iast (f := (Model_s wx_226)) hx hb hK hP hD hS 1 1 rfl rfl (mIn_ok h3) dX8_goes_235 (fun H locs hP hD hS => ?_)
        have hP : va_P E.1 vwCl (Model_c E a (Model_s_s wx_226 (upd (Model_s wx_226) (0 : Int32).toNatClampNeg (((Model_s wx_226) (0 : Int32).toNatClampNeg) + 1)))) H := hP
        have hD : va_D A (Model_c E a (Model_s_s wx_226 (upd (Model_s wx_226) (0 : Int32).toNatClampNeg (((Model_s wx_226) (0 : Int32).toNatClampNeg) + 1)))) := hD
        have hF := Option.some.inj hF
        subst hF
        rw [hQ]
        exact W.vret hx hb hr (fun t ht _ => ⟨⟨rfl, by rw [ht]; exact hP, hD⟩, hS.F ht⟩) hS.2.2 dX8_goes_236
      clear hjd226
      have hL61 : ∀ (n : Nat) (y3_61 : Int32) (wy_61 : ModelV) (H : Heap) (locs : List Loc) (ls : Array Slot), lp_X8_goes_61 z0_58 j226 n y3_61 wy_61 = some t → va_P E.1 vwCl (Model_c E a wy_61) H → va_D A (Model_c E a wy_61) → va_S A s.heap H locs → lv_has ls 4 [(0, .ref (Modela_self a)), (2, .int z0_58), (3, .int y3_61)] → W p l e_ rmX8_goes s m args below meth c H locs 0 0 Q (F0 m 61 ls []) := by
        intro n
        induction n with
        | zero =>
          intro y3_61 wy_61 H locs ls hF
          exact nomatch (show (none : Option ModelV) = some t from hF)
        | succ n ih61 =>
          intro y3_61 wy_61 H locs ls hF hP hD hS hl
          have hF : st_X8_goes_61 z0_58 j226 (lp_X8_goes_61 z0_58 j226 n) y3_61 wy_61 = some t := hF
          unfold st_X8_goes_61 at hF
          refine lv_iload_n hx hb dX8_goes_61 rfl (lv_at hl 2 rfl) ?_
          refine lv_aload_n hx hb dX8_goes_62 rfl (lv_at hl 0 rfl) ?_
          refine va_get (D := E.1) (ci := 8) (v := .ref (Modela_s a)) (C := RX8) (T := TX8) (N := 20) hx hb hts k1 hown hK hP 0 rfl rfl 1 (by decide) k0 (fun _ h9 => h9) rfl dX8_goes_63 ?_
          refine lv_bipush (v := 20) hx hb dX8_goes_66 (by decide) ?_
          obtain ⟨h4, hF⟩ := m_chk hF
          refine va_iald (f := (Model_s wy_61)) hx hb hK hP 1 1 rfl rfl (mIn_ok h4) dX8_goes_68 ?_
          refine W.eq (g2 := F0 m 69 ls [.int ((Model_s wy_61) (20 : Int32).toNatClampNeg), .int y3_61]) rfl ?_
          refine lv_icmp_ge (tgt := 226) hx hb dX8_goes_69 (by decide) (fun c5 => ?_) (fun c5 => ?_)
          · have hF := m_pos c5 hF
            exact hj226 wy_61 H locs ls hF hP hD hS (lv_sub hl [0] rfl)
          · have hF := m_neg c5 hF
            refine lv_aload_n hx hb dX8_goes_72 rfl (lv_at hl 0 rfl) ?_
            refine va_get (D := E.1) (ci := 8) (v := .ref (Modela_s a)) (C := RX8) (T := TX8) (N := 20) hx hb hts k1 hown hK hP 0 rfl rfl 1 (by decide) k0 (fun _ h9 => h9) rfl dX8_goes_73 ?_
            refine lv_iconst (v := 2) hx hb dX8_goes_76 (by decide) ?_
            refine lv_iload_n hx hb dX8_goes_77 rfl (lv_at hl 2 rfl) ?_
            refine lv_iadd hx hb dX8_goes_78 ?_
            refine lv_dup2_11 hx hb dX8_goes_79 rfl rfl ?_
            obtain ⟨h6, hF⟩ := m_chk hF
            refine va_iald (f := (Model_s wy_61)) hx hb hK hP 1 1 rfl rfl (mIn_ok h6) dX8_goes_80 ?_
            refine W.eq (g2 := F0 m 81 ls [.int ((Model_s wy_61) ((2 + y3_61)).toNatClampNeg), .int (2 + y3_61), .ref (Modela_s a)]) rfl ?_
            refine lv_aload_n hx hb dX8_goes_81 rfl (lv_at hl 0 rfl) ?_
            refine va_get (D := E.1) (ci := 8) (v := .ref (Modela_does a)) (C := RX8) (T := TX8) (N := 20) hx hb hts k1 hown hK hP 0 rfl rfl 12 (by decide) k2 (fun _ h9 => h9) rfl dX8_goes_82 ?_
            refine lv_iload_n hx hb dX8_goes_85 rfl (lv_at hl 2 rfl) ?_
            obtain ⟨h7, hF⟩ := m_chk hF
            refine va_iald (f := (Model_does wy_61)) hx hb hK hP 6 1 rfl rfl (mIn_ok h7) dX8_goes_86 ?_
            refine W.eq (g2 := F0 m 87 ls [.int ((Model_does wy_61) (y3_61).toNatClampNeg), .int ((Model_s wy_61) ((2 + y3_61)).toNatClampNeg), .int (2 + y3_61), .ref (Modela_s a)]) rfl ?_
            refine lv_iadd hx hb dX8_goes_87 ?_
            obtain ⟨h8, hF⟩ := m_chk hF
            refine va_iast (f := (Model_s wy_61)) hx hb hK hP hD hS 1 1 rfl rfl (mIn_ok h8) dX8_goes_88 (fun H locs hP hD hS => ?_)
            have hP : va_P E.1 vwCl (Model_c E a (Model_s_s wy_61 (upd (Model_s wy_61) ((2 + y3_61)).toNatClampNeg (((Model_s wy_61) ((2 + y3_61)).toNatClampNeg) + ((Model_does wy_61) (y3_61).toNatClampNeg))))) H := hP
            have hD : va_D A (Model_c E a (Model_s_s wy_61 (upd (Model_s wy_61) ((2 + y3_61)).toNatClampNeg (((Model_s wy_61) ((2 + y3_61)).toNatClampNeg) + ((Model_does wy_61) (y3_61).toNatClampNeg))))) := hD
            refine lv_aload_n hx hb dX8_goes_89 rfl (lv_at hl 0 rfl) ?_
            refine va_get (D := E.1) (ci := 8) (v := .ref (Modela_s a)) (C := RX8) (T := TX8) (N := 20) hx hb hts k1 hown hK hP 0 rfl rfl 1 (by decide) k0 (fun _ h9 => h9) rfl dX8_goes_90 ?_
            refine lv_iconst (v := 1) hx hb dX8_goes_93 (by decide) ?_
            refine lv_dup2_11 hx hb dX8_goes_94 rfl rfl ?_
            obtain ⟨h9, hF⟩ := m_chk hF
            refine va_iald (f := (upd (Model_s wy_61) ((2 + y3_61)).toNatClampNeg (((Model_s wy_61) ((2 + y3_61)).toNatClampNeg) + ((Model_does wy_61) (y3_61).toNatClampNeg)))) hx hb hK hP 1 1 rfl rfl (mIn_ok h9) dX8_goes_95 ?_
            refine W.eq (g2 := F0 m 96 ls [.int ((upd (Model_s wy_61) ((2 + y3_61)).toNatClampNeg (((Model_s wy_61) ((2 + y3_61)).toNatClampNeg) + ((Model_does wy_61) (y3_61).toNatClampNeg))) (1 : Int32).toNatClampNeg), .int 1, .ref (Modela_s a)]) rfl ?_
            refine lv_aload_n hx hb dX8_goes_96 rfl (lv_at hl 0 rfl) ?_
            refine va_get (D := E.1) (ci := 8) (v := .ref (Modela_does a)) (C := RX8) (T := TX8) (N := 20) hx hb hts k1 hown hK hP 0 rfl rfl 12 (by decide) k2 (fun _ h9 => h9) rfl dX8_goes_97 ?_
            refine lv_iload_n hx hb dX8_goes_100 rfl (lv_at hl 2 rfl) ?_
            obtain ⟨h10, hF⟩ := m_chk hF
            refine va_iald (f := (Model_does wy_61)) hx hb hK hP 6 1 rfl rfl (mIn_ok h10) dX8_goes_101 ?_
            refine W.eq (g2 := F0 m 102 ls [.int ((Model_does wy_61) (y3_61).toNatClampNeg), .int ((upd (Model_s wy_61) ((2 + y3_61)).toNatClampNeg (((Model_s wy_61) ((2 + y3_61)).toNatClampNeg) + ((Model_does wy_61) (y3_61).toNatClampNeg))) (1 : Int32).toNatClampNeg), .int 1, .ref (Modela_s a)]) rfl ?_
            refine lv_aload_n hx hb dX8_goes_102 rfl (lv_at hl 0 rfl) ?_
            refine va_get (D := E.1) (ci := 8) (v := .ref (Modela_s a)) (C := RX8) (T := TX8) (N := 20) hx hb hts k1 hown hK hP 0 rfl rfl 1 (by decide) k0 (fun _ h9 => h9) rfl dX8_goes_103 ?_
            refine lv_bipush (v := 39) hx hb dX8_goes_106 (by decide) ?_
            refine lv_iload_n hx hb dX8_goes_108 rfl (lv_at hl 2 rfl) ?_
            refine lv_iadd hx hb dX8_goes_109 ?_
            obtain ⟨h11, hF⟩ := m_chk hF
            refine va_iald (f := (upd (Model_s wy_61) ((2 + y3_61)).toNatClampNeg (((Model_s wy_61) ((2 + y3_61)).toNatClampNeg) + ((Model_does wy_61) (y3_61).toNatClampNeg)))) hx hb hK hP 1 1 rfl rfl (mIn_ok h11) dX8_goes_110 ?_
            refine W.eq (g2 := F0 m 111 ls [.int ((upd (Model_s wy_61) ((2 + y3_61)).toNatClampNeg (((Model_s wy_61) ((2 + y3_61)).toNatClampNeg) + ((Model_does wy_61) (y3_61).toNatClampNeg))) ((39 + y3_61)).toNatClampNeg), .int ((Model_does wy_61) (y3_61).toNatClampNeg), .int ((upd (Model_s wy_61) ((2 + y3_61)).toNatClampNeg (((Model_s wy_61) ((2 + y3_61)).toNatClampNeg) + ((Model_does wy_61) (y3_61).toNatClampNeg))) (1 : Int32).toNatClampNeg), .int 1, .ref (Modela_s a)]) rfl ?_
            refine lv_imul hx hb dX8_goes_111 ?_
            refine lv_iadd hx hb dX8_goes_112 ?_
            obtain ⟨h12, hF⟩ := m_chk hF
            refine va_iast (f := (upd (Model_s wy_61) ((2 + y3_61)).toNatClampNeg (((Model_s wy_61) ((2 + y3_61)).toNatClampNeg) + ((Model_does wy_61) (y3_61).toNatClampNeg)))) hx hb hK hP hD hS 1 1 rfl rfl (mIn_ok h12) dX8_goes_113 (fun H locs hP hD hS => ?_)
            have hP : va_P E.1 vwCl (Model_c E a (Model_s_s wy_61 (upd (upd (Model_s wy_61) ((2 + y3_61)).toNatClampNeg (((Model_s wy_61) ((2 + y3_61)).toNatClampNeg) + ((Model_does wy_61) (y3_61).toNatClampNeg))) (1 : Int32).toNatClampNeg (((upd (Model_s wy_61) ((2 + y3_61)).toNatClampNeg (((Model_s wy_61) ((2 + y3_61)).toNatClampNeg) + ((Model_does wy_61) (y3_61).toNatClampNeg))) (1 : Int32).toNatClampNeg) + (((Model_does wy_61) (y3_61).toNatClampNeg) * ((upd (Model_s wy_61) ((2 + y3_61)).toNatClampNeg (((Model_s wy_61) ((2 + y3_61)).toNatClampNeg) + ((Model_does wy_61) (y3_61).toNatClampNeg))) ((39 + y3_61)).toNatClampNeg)))))) H := hP
            have hD : va_D A (Model_c E a (Model_s_s wy_61 (upd (upd (Model_s wy_61) ((2 + y3_61)).toNatClampNeg (((Model_s wy_61) ((2 + y3_61)).toNatClampNeg) + ((Model_does wy_61) (y3_61).toNatClampNeg))) (1 : Int32).toNatClampNeg (((upd (Model_s wy_61) ((2 + y3_61)).toNatClampNeg (((Model_s wy_61) ((2 + y3_61)).toNatClampNeg) + ((Model_does wy_61) (y3_61).toNatClampNeg))) (1 : Int32).toNatClampNeg) + (((Model_does wy_61) (y3_61).toNatClampNeg) * ((upd (Model_s wy_61) ((2 + y3_61)).toNatClampNeg (((Model_s wy_61) ((2 + y3_61)).toNatClampNeg) + ((Model_does wy_61) (y3_61).toNatClampNeg))) ((39 + y3_61)).toNatClampNeg)))))) := hD
            refine lv_aload_n hx hb dX8_goes_114 rfl (lv_at hl 0 rfl) ?_
            refine va_get (D := E.1) (ci := 8) (v := .ref (Modela_s a)) (C := RX8) (T := TX8) (N := 20) hx hb hts k1 hown hK hP 0 rfl rfl 1 (by decide) k0 (fun _ h9 => h9) rfl dX8_goes_115 ?_
            refine lv_bipush (v := 14) hx hb dX8_goes_118 (by decide) ?_
            refine lv_iload_n hx hb dX8_goes_120 rfl (lv_at hl 2 rfl) ?_
            refine lv_iadd hx hb dX8_goes_121 ?_
            obtain ⟨h13, hF⟩ := m_chk hF
            refine va_iald (f := (upd (upd (Model_s wy_61) ((2 + y3_61)).toNatClampNeg (((Model_s wy_61) ((2 + y3_61)).toNatClampNeg) + ((Model_does wy_61) (y3_61).toNatClampNeg))) (1 : Int32).toNatClampNeg (((upd (Model_s wy_61) ((2 + y3_61)).toNatClampNeg (((Model_s wy_61) ((2 + y3_61)).toNatClampNeg) + ((Model_does wy_61) (y3_61).toNatClampNeg))) (1 : Int32).toNatClampNeg) + (((Model_does wy_61) (y3_61).toNatClampNeg) * ((upd (Model_s wy_61) ((2 + y3_61)).toNatClampNeg (((Model_s wy_61) ((2 + y3_61)).toNatClampNeg) + ((Model_does wy_61) (y3_61).toNatClampNeg))) ((39 + y3_61)).toNatClampNeg))))) hx hb hK hP 1 1 rfl rfl (mIn_ok h13) dX8_goes_122 ?_
            refine W.eq (g2 := F0 m 123 ls [.int ((upd (upd (Model_s wy_61) ((2 + y3_61)).toNatClampNeg (((Model_s wy_61) ((2 + y3_61)).toNatClampNeg) + ((Model_does wy_61) (y3_61).toNatClampNeg))) (1 : Int32).toNatClampNeg (((upd (Model_s wy_61) ((2 + y3_61)).toNatClampNeg (((Model_s wy_61) ((2 + y3_61)).toNatClampNeg) + ((Model_does wy_61) (y3_61).toNatClampNeg))) (1 : Int32).toNatClampNeg) + (((Model_does wy_61) (y3_61).toNatClampNeg) * ((upd (Model_s wy_61) ((2 + y3_61)).toNatClampNeg (((Model_s wy_61) ((2 + y3_61)).toNatClampNeg) + ((Model_does wy_61) (y3_61).toNatClampNeg))) ((39 + y3_61)).toNatClampNeg)))) ((14 + y3_61)).toNatClampNeg)]) rfl ?_
            obtain ⟨j220, hjd220, hF⟩ := m_jp hF
            have hj220 : ∀ (wx_220 : ModelV) (H : Heap) (locs : List Loc) (ls : Array Slot), j220 wx_220 = some t → va_P E.1 vwCl (Model_c E a wx_220) H → va_D A (Model_c E a wx_220) → va_S A s.heap H locs → lv_has ls 4 [(0, .ref (Modela_self a)), (2, .int z0_58), (3, .int y3_61)] → W p l e_ rmX8_goes s m args below meth c H locs 0 0 Q (F0 m 220 ls []) := by
              intro wx_220 H locs ls hF hP hD hS hl
              rw [hjd220] at hF
              refine lv_iinc (v := (y3_61 + 1)) (lv' := [(3, .int (y3_61 + 1)), (0, .ref (Modela_self a)), (2, .int z0_58)]) hx hb dX8_goes_220 hl (k := 2) rfl rfl (by decide) rfl (fun ls hl => ?_)
              refine lv_goto (tgt := 61) hx hb dX8_goes_223 (by decide) ?_
              exact ih61 (y3_61 + 1) wx_220 H locs ls hF hP hD hS (lv_sub hl [1, 2, 0] rfl)
            clear hjd220
            obtain ⟨j172, hjd172, hF⟩ := m_jp hF
            have hj172 : ∀ (H : Heap) (locs : List Loc) (ls : Array Slot), j172 () = some t → va_P E.1 vwCl (Model_c E a (Model_s_s wy_61 (upd (upd (Model_s wy_61) ((2 + y3_61)).toNatClampNeg (((Model_s wy_61) ((2 + y3_61)).toNatClampNeg) + ((Model_does wy_61) (y3_61).toNatClampNeg))) (1 : Int32).toNatClampNeg (((upd (Model_s wy_61) ((2 + y3_61)).toNatClampNeg (((Model_s wy_61) ((2 + y3_61)).toNatClampNeg) + ((Model_does wy_61) (y3_61).toNatClampNeg))) (1 : Int32).toNatClampNeg) + (((Model_does wy_61) (y3_61).toNatClampNeg) * ((upd (Model_s wy_61) ((2 + y3_61)).toNatClampNeg (((Model_s wy_61) ((2 + y3_61)).toNatClampNeg) + ((Model_does wy_61) (y3_61).toNatClampNeg))) ((39 + y3_61)).toNatClampNeg)))))) H → va_D A (Model_c E a (Model_s_s wy_61 (upd (upd (Model_s wy_61) ((2 + y3_61)).toNatClampNeg (((Model_s wy_61) ((2 + y3_61)).toNatClampNeg) + ((Model_does wy_61) (y3_61).toNatClampNeg))) (1 : Int32).toNatClampNeg (((upd (Model_s wy_61) ((2 + y3_61)).toNatClampNeg (((Model_s wy_61) ((2 + y3_61)).toNatClampNeg) + ((Model_does wy_61) (y3_61).toNatClampNeg))) (1 : Int32).toNatClampNeg) + (((Model_does wy_61) (y3_61).toNatClampNeg) * ((upd (Model_s wy_61) ((2 + y3_61)).toNatClampNeg (((Model_s wy_61) ((2 + y3_61)).toNatClampNeg) + ((Model_does wy_61) (y3_61).toNatClampNeg))) ((39 + y3_61)).toNatClampNeg)))))) → va_S A s.heap H locs → lv_has ls 4 [(0, .ref (Modela_self a)), (2, .int z0_58), (3, .int y3_61)] → W p l e_ rmX8_goes s m args below meth c H locs 0 0 Q (F0 m 172 ls []) := by
              intro H locs ls hF hP hD hS hl
              rw [hjd172] at hF
              refine lv_aload_n hx hb dX8_goes_172 rfl (lv_at hl 0 rfl) ?_
              refine va_get (D := E.1) (ci := 8) (v := .ref (Modela_s a)) (C := RX8) (T := TX8) (N := 20) hx hb hts k1 hown hK hP 0 rfl rfl 1 (by decide) k0 (fun _ h9 => h9) rfl dX8_goes_173 ?_
              refine lv_bipush (v := 14) hx hb dX8_goes_176 (by decide) ?_
              refine lv_iload_n hx hb dX8_goes_178 rfl (lv_at hl 2 rfl) ?_
              refine lv_iadd hx hb dX8_goes_179 ?_
              obtain ⟨h14, hF⟩ := m_chk hF
              refine va_iald (f := (upd (upd (Model_s wy_61) ((2 + y3_61)).toNatClampNeg (((Model_s wy_61) ((2 + y3_61)).toNatClampNeg) + ((Model_does wy_61) (y3_61).toNatClampNeg))) (1 : Int32).toNatClampNeg (((upd (Model_s wy_61) ((2 + y3_61)).toNatClampNeg (((Model_s wy_61) ((2 + y3_61)).toNatClampNeg) + ((Model_does wy_61) (y3_61).toNatClampNeg))) (1 : Int32).toNatClampNeg) + (((Model_does wy_61) (y3_61).toNatClampNeg) * ((upd (Model_s wy_61) ((2 + y3_61)).toNatClampNeg (((Model_s wy_61) ((2 + y3_61)).toNatClampNeg) + ((Model_does wy_61) (y3_61).toNatClampNeg))) ((39 + y3_61)).toNatClampNeg))))) hx hb hK hP 1 1 rfl rfl (mIn_ok h14) dX8_goes_180 ?_
              refine W.eq (g2 := F0 m 181 ls [.int ((upd (upd (Model_s wy_61) ((2 + y3_61)).toNatClampNeg (((Model_s wy_61) ((2 + y3_61)).toNatClampNeg) + ((Model_does wy_61) (y3_61).toNatClampNeg))) (1 : Int32).toNatClampNeg (((upd (Model_s wy_61) ((2 + y3_61)).toNatClampNeg (((Model_s wy_61) ((2 + y3_61)).toNatClampNeg) + ((Model_does wy_61) (y3_61).toNatClampNeg))) (1 : Int32).toNatClampNeg) + (((Model_does wy_61) (y3_61).toNatClampNeg) * ((upd (Model_s wy_61) ((2 + y3_61)).toNatClampNeg (((Model_s wy_61) ((2 + y3_61)).toNatClampNeg) + ((Model_does wy_61) (y3_61).toNatClampNeg))) ((39 + y3_61)).toNatClampNeg)))) ((14 + y3_61)).toNatClampNeg)]) rfl ?_
              refine lv_if_ne (tgt := 220) hx hb dX8_goes_181 (by decide) (fun c15 => ?_) (fun c15 => ?_)
              · have hF := m_pos c15 hF
                exact hj220 (Model_s_s wy_61 (upd (upd (Model_s wy_61) ((2 + y3_61)).toNatClampNeg (((Model_s wy_61) ((2 + y3_61)).toNatClampNeg) + ((Model_does wy_61) (y3_61).toNatClampNeg))) (1 : Int32).toNatClampNeg (((upd (Model_s wy_61) ((2 + y3_61)).toNatClampNeg (((Model_s wy_61) ((2 + y3_61)).toNatClampNeg) + ((Model_does wy_61) (y3_61).toNatClampNeg))) (1 : Int32).toNatClampNeg) + (((Model_does wy_61) (y3_61).toNatClampNeg) * ((upd (Model_s wy_61) ((2 + y3_61)).toNatClampNeg (((Model_s wy_61) ((2 + y3_61)).toNatClampNeg) + ((Model_does wy_61) (y3_61).toNatClampNeg))) ((39 + y3_61)).toNatClampNeg))))) H locs ls hF hP hD hS (lv_sub hl [0, 1, 2] rfl)
              · have hF := m_neg (fun n9 => n9 c15) hF
                refine lv_aload_n hx hb dX8_goes_184 rfl (lv_at hl 0 rfl) ?_
                refine va_get (D := E.1) (ci := 8) (v := .ref (Modela_does a)) (C := RX8) (T := TX8) (N := 20) hx hb hts k1 hown hK hP 0 rfl rfl 12 (by decide) k2 (fun _ h9 => h9) rfl dX8_goes_185 ?_
                refine lv_iload_n hx hb dX8_goes_188 rfl (lv_at hl 2 rfl) ?_
                obtain ⟨h16, hF⟩ := m_chk hF
                refine va_iald (f := (Model_does wy_61)) hx hb hK hP 6 1 rfl rfl (mIn_ok h16) dX8_goes_189 ?_
                refine W.eq (g2 := F0 m 190 ls [.int ((Model_does wy_61) (y3_61).toNatClampNeg)]) rfl ?_
                refine lv_iload_n hx hb dX8_goes_190 rfl (lv_at hl 1 rfl) ?_
                refine lv_icmp_ge (tgt := 220) hx hb dX8_goes_191 (by decide) (fun c17 => ?_) (fun c17 => ?_)
                · have hF := m_pos c17 hF
                  exact hj220 (Model_s_s wy_61 (upd (upd (Model_s wy_61) ((2 + y3_61)).toNatClampNeg (((Model_s wy_61) ((2 + y3_61)).toNatClampNeg) + ((Model_does wy_61) (y3_61).toNatClampNeg))) (1 : Int32).toNatClampNeg (((upd (Model_s wy_61) ((2 + y3_61)).toNatClampNeg (((Model_s wy_61) ((2 + y3_61)).toNatClampNeg) + ((Model_does wy_61) (y3_61).toNatClampNeg))) (1 : Int32).toNatClampNeg) + (((Model_does wy_61) (y3_61).toNatClampNeg) * ((upd (Model_s wy_61) ((2 + y3_61)).toNatClampNeg (((Model_s wy_61) ((2 + y3_61)).toNatClampNeg) + ((Model_does wy_61) (y3_61).toNatClampNeg))) ((39 + y3_61)).toNatClampNeg))))) H locs ls hF hP hD hS (lv_sub hl [0, 1, 2] rfl)
                · have hF := m_neg c17 hF
                  refine lv_aload_n hx hb dX8_goes_194 rfl (lv_at hl 0 rfl) ?_
                  refine va_get (D := E.1) (ci := 8) (v := .ref (Modela_s a)) (C := RX8) (T := TX8) (N := 20) hx hb hts k1 hown hK hP 0 rfl rfl 1 (by decide) k0 (fun _ h9 => h9) rfl dX8_goes_195 ?_
                  refine lv_bipush (v := 8) hx hb dX8_goes_198 (by decide) ?_
                  refine lv_iload_n hx hb dX8_goes_200 rfl (lv_at hl 2 rfl) ?_
                  refine lv_iadd hx hb dX8_goes_201 ?_
                  refine lv_aload_n hx hb dX8_goes_202 rfl (lv_at hl 0 rfl) ?_
                  refine va_get (D := E.1) (ci := 8) (v := .ref (Modela_s a)) (C := RX8) (T := TX8) (N := 20) hx hb hts k1 hown hK hP 0 rfl rfl 1 (by decide) k0 (fun _ h9 => h9) rfl dX8_goes_203 ?_
                  refine lv_bipush (v := 8) hx hb dX8_goes_206 (by decide) ?_
                  refine lv_iload_n hx hb dX8_goes_208 rfl (lv_at hl 2 rfl) ?_
                  refine lv_iadd hx hb dX8_goes_209 ?_
                  obtain ⟨h18, hF⟩ := m_chk hF
                  refine va_iald (f := (upd (upd (Model_s wy_61) ((2 + y3_61)).toNatClampNeg (((Model_s wy_61) ((2 + y3_61)).toNatClampNeg) + ((Model_does wy_61) (y3_61).toNatClampNeg))) (1 : Int32).toNatClampNeg (((upd (Model_s wy_61) ((2 + y3_61)).toNatClampNeg (((Model_s wy_61) ((2 + y3_61)).toNatClampNeg) + ((Model_does wy_61) (y3_61).toNatClampNeg))) (1 : Int32).toNatClampNeg) + (((Model_does wy_61) (y3_61).toNatClampNeg) * ((upd (Model_s wy_61) ((2 + y3_61)).toNatClampNeg (((Model_s wy_61) ((2 + y3_61)).toNatClampNeg) + ((Model_does wy_61) (y3_61).toNatClampNeg))) ((39 + y3_61)).toNatClampNeg))))) hx hb hK hP 1 1 rfl rfl (mIn_ok h18) dX8_goes_210 ?_
                  refine W.eq (g2 := F0 m 211 ls [.int ((upd (upd (Model_s wy_61) ((2 + y3_61)).toNatClampNeg (((Model_s wy_61) ((2 + y3_61)).toNatClampNeg) + ((Model_does wy_61) (y3_61).toNatClampNeg))) (1 : Int32).toNatClampNeg (((upd (Model_s wy_61) ((2 + y3_61)).toNatClampNeg (((Model_s wy_61) ((2 + y3_61)).toNatClampNeg) + ((Model_does wy_61) (y3_61).toNatClampNeg))) (1 : Int32).toNatClampNeg) + (((Model_does wy_61) (y3_61).toNatClampNeg) * ((upd (Model_s wy_61) ((2 + y3_61)).toNatClampNeg (((Model_s wy_61) ((2 + y3_61)).toNatClampNeg) + ((Model_does wy_61) (y3_61).toNatClampNeg))) ((39 + y3_61)).toNatClampNeg)))) ((8 + y3_61)).toNatClampNeg), .int (8 + y3_61), .ref (Modela_s a)]) rfl ?_
                  refine lv_iconst (v := 1) hx hb dX8_goes_211 (by decide) ?_
                  refine lv_iadd hx hb dX8_goes_212 ?_
                  refine lv_iconst (v := 0) hx hb dX8_goes_213 (by decide) ?_
                  refine lv_bipush (v := 99) hx hb dX8_goes_214 (by decide) ?_
                  obtain ⟨t19, ht19, hF⟩ := m_bnd hF
                  refine mSP (n := 3) (rest := [.int (8 + y3_61), .ref (Modela_s a)]) (As := [.int (((upd (upd (Model_s wy_61) ((2 + y3_61)).toNatClampNeg (((Model_s wy_61) ((2 + y3_61)).toNatClampNeg) + ((Model_does wy_61) (y3_61).toNatClampNeg))) (1 : Int32).toNatClampNeg (((upd (Model_s wy_61) ((2 + y3_61)).toNatClampNeg (((Model_s wy_61) ((2 + y3_61)).toNatClampNeg) + ((Model_does wy_61) (y3_61).toNatClampNeg))) (1 : Int32).toNatClampNeg) + (((Model_does wy_61) (y3_61).toNatClampNeg) * ((upd (Model_s wy_61) ((2 + y3_61)).toNatClampNeg (((Model_s wy_61) ((2 + y3_61)).toNatClampNeg) + ((Model_does wy_61) (y3_61).toNatClampNeg))) ((39 + y3_61)).toNatClampNeg)))) ((8 + y3_61)).toNatClampNeg) + 1), .int 0, .int 99]) CC hKN hGl hS (c_X8_within l E (((upd (upd (Model_s wy_61) ((2 + y3_61)).toNatClampNeg (((Model_s wy_61) ((2 + y3_61)).toNatClampNeg) + ((Model_does wy_61) (y3_61).toNatClampNeg))) (1 : Int32).toNatClampNeg (((upd (Model_s wy_61) ((2 + y3_61)).toNatClampNeg (((Model_s wy_61) ((2 + y3_61)).toNatClampNeg) + ((Model_does wy_61) (y3_61).toNatClampNeg))) (1 : Int32).toNatClampNeg) + (((Model_does wy_61) (y3_61).toNatClampNeg) * ((upd (Model_s wy_61) ((2 + y3_61)).toNatClampNeg (((Model_s wy_61) ((2 + y3_61)).toNatClampNeg) + ((Model_does wy_61) (y3_61).toNatClampNeg))) ((39 + y3_61)).toNatClampNeg)))) ((8 + y3_61)).toNatClampNeg) + 1) 0 99 t19 ht19) gX8_goes_X8_within rfl ⟨rfl, rfl⟩ (by decide +kernel) ⟨Nat.le_of_ble_eq_true rfl, Nat.le_of_ble_eq_true rfl⟩ m_nil rfl hl.1 rfl (Nat.le_of_ble_eq_true rfl) ⟨Nat.zero_le _, Nat.zero_le _⟩ dX8_goes_216 ?_
                  refine W.eq (g2 := F0 m 219 ls [.int t19, .int (8 + y3_61), .ref (Modela_s a)]) rfl ?_
                  obtain ⟨h20, hF⟩ := m_chk hF
                  refine va_iast (f := (upd (upd (Model_s wy_61) ((2 + y3_61)).toNatClampNeg (((Model_s wy_61) ((2 + y3_61)).toNatClampNeg) + ((Model_does wy_61) (y3_61).toNatClampNeg))) (1 : Int32).toNatClampNeg (((upd (Model_s wy_61) ((2 + y3_61)).toNatClampNeg (((Model_s wy_61) ((2 + y3_61)).toNatClampNeg) + ((Model_does wy_61) (y3_61).toNatClampNeg))) (1 : Int32).toNatClampNeg) + (((Model_does wy_61) (y3_61).toNatClampNeg) * ((upd (Model_s wy_61) ((2 + y3_61)).toNatClampNeg (((Model_s wy_61) ((2 + y3_61)).toNatClampNeg) + ((Model_does wy_61) (y3_61).toNatClampNeg))) ((39 + y3_61)).toNatClampNeg))))) hx hb hK hP hD hS 1 1 rfl rfl (mIn_ok h20) dX8_goes_219 (fun H locs hP hD hS => ?_)
                  have hP : va_P E.1 vwCl (Model_c E a (Model_s_s wy_61 (upd (upd (upd (Model_s wy_61) ((2 + y3_61)).toNatClampNeg (((Model_s wy_61) ((2 + y3_61)).toNatClampNeg) + ((Model_does wy_61) (y3_61).toNatClampNeg))) (1 : Int32).toNatClampNeg (((upd (Model_s wy_61) ((2 + y3_61)).toNatClampNeg (((Model_s wy_61) ((2 + y3_61)).toNatClampNeg) + ((Model_does wy_61) (y3_61).toNatClampNeg))) (1 : Int32).toNatClampNeg) + (((Model_does wy_61) (y3_61).toNatClampNeg) * ((upd (Model_s wy_61) ((2 + y3_61)).toNatClampNeg (((Model_s wy_61) ((2 + y3_61)).toNatClampNeg) + ((Model_does wy_61) (y3_61).toNatClampNeg))) ((39 + y3_61)).toNatClampNeg)))) ((8 + y3_61)).toNatClampNeg t19))) H := hP
                  have hD : va_D A (Model_c E a (Model_s_s wy_61 (upd (upd (upd (Model_s wy_61) ((2 + y3_61)).toNatClampNeg (((Model_s wy_61) ((2 + y3_61)).toNatClampNeg) + ((Model_does wy_61) (y3_61).toNatClampNeg))) (1 : Int32).toNatClampNeg (((upd (Model_s wy_61) ((2 + y3_61)).toNatClampNeg (((Model_s wy_61) ((2 + y3_61)).toNatClampNeg) + ((Model_does wy_61) (y3_61).toNatClampNeg))) (1 : Int32).toNatClampNeg) + (((Model_does wy_61) (y3_61).toNatClampNeg) * ((upd (Model_s wy_61) ((2 + y3_61)).toNatClampNeg (((Model_s wy_61) ((2 + y3_61)).toNatClampNeg) + ((Model_does wy_61) (y3_61).toNatClampNeg))) ((39 + y3_61)).toNatClampNeg)))) ((8 + y3_61)).toNatClampNeg t19))) := hD
                  exact hj220 (Model_s_s wy_61 (upd (upd (upd (Model_s wy_61) ((2 + y3_61)).toNatClampNeg (((Model_s wy_61) ((2 + y3_61)).toNatClampNeg) + ((Model_does wy_61) (y3_61).toNatClampNeg))) (1 : Int32).toNatClampNeg (((upd (Model_s wy_61) ((2 + y3_61)).toNatClampNeg (((Model_s wy_61) ((2 + y3_61)).toNatClampNeg) + ((Model_does wy_61) (y3_61).toNatClampNeg))) (1 : Int32).toNatClampNeg) + (((Model_does wy_61) (y3_61).toNatClampNeg) * ((upd (Model_s wy_61) ((2 + y3_61)).toNatClampNeg (((Model_s wy_61) ((2 + y3_61)).toNatClampNeg) + ((Model_does wy_61) (y3_61).toNatClampNeg))) ((39 + y3_61)).toNatClampNeg)))) ((8 + y3_61)).toNatClampNeg t19)) H locs ls hF hP hD hS (lv_sub hl [0, 1, 2] rfl)
            clear hjd172
            refine lv_if_ne (tgt := 172) hx hb dX8_goes_123 (by decide) (fun c21 => ?_) (fun c21 => ?_)
            · have hF := m_pos c21 hF
              exact hj172 H locs ls hF hP hD hS (lv_sub hl [0, 1, 2] rfl)
            · have hF := m_neg (fun n9 => n9 c21) hF
              refine lv_aload_n hx hb dX8_goes_126 rfl (lv_at hl 0 rfl) ?_
              refine va_get (D := E.1) (ci := 8) (v := .ref (Modela_does a)) (C := RX8) (T := TX8) (N := 20) hx hb hts k1 hown hK hP 0 rfl rfl 12 (by decide) k2 (fun _ h9 => h9) rfl dX8_goes_127 ?_
              refine lv_iload_n hx hb dX8_goes_130 rfl (lv_at hl 2 rfl) ?_
              obtain ⟨h22, hF⟩ := m_chk hF
              refine va_iald (f := (Model_does wy_61)) hx hb hK hP 6 1 rfl rfl (mIn_ok h22) dX8_goes_131 ?_
              refine W.eq (g2 := F0 m 132 ls [.int ((Model_does wy_61) (y3_61).toNatClampNeg)]) rfl ?_
              refine lv_iload_n hx hb dX8_goes_132 rfl (lv_at hl 1 rfl) ?_
              refine lv_icmp_le (tgt := 172) hx hb dX8_goes_133 (by decide) (fun c23 => ?_) (fun c23 => ?_)
              · have hF := m_pos c23 hF
                exact hj172 H locs ls hF hP hD hS (lv_sub hl [0, 1, 2] rfl)
              · have hF := m_neg c23 hF
                refine lv_aload_n hx hb dX8_goes_136 rfl (lv_at hl 0 rfl) ?_
                refine va_get (D := E.1) (ci := 8) (v := .ref (Modela_s a)) (C := RX8) (T := TX8) (N := 20) hx hb hts k1 hown hK hP 0 rfl rfl 1 (by decide) k0 (fun _ h9 => h9) rfl dX8_goes_137 ?_
                refine lv_bipush (v := 8) hx hb dX8_goes_140 (by decide) ?_
                refine lv_iload_n hx hb dX8_goes_142 rfl (lv_at hl 2 rfl) ?_
                refine lv_iadd hx hb dX8_goes_143 ?_
                refine lv_aload_n hx hb dX8_goes_144 rfl (lv_at hl 0 rfl) ?_
                refine va_get (D := E.1) (ci := 8) (v := .ref (Modela_s a)) (C := RX8) (T := TX8) (N := 20) hx hb hts k1 hown hK hP 0 rfl rfl 1 (by decide) k0 (fun _ h9 => h9) rfl dX8_goes_145 ?_
                refine lv_bipush (v := 8) hx hb dX8_goes_148 (by decide) ?_
                refine lv_iload_n hx hb dX8_goes_150 rfl (lv_at hl 2 rfl) ?_
                refine lv_iadd hx hb dX8_goes_151 ?_
                obtain ⟨h24, hF⟩ := m_chk hF
                refine va_iald (f := (upd (upd (Model_s wy_61) ((2 + y3_61)).toNatClampNeg (((Model_s wy_61) ((2 + y3_61)).toNatClampNeg) + ((Model_does wy_61) (y3_61).toNatClampNeg))) (1 : Int32).toNatClampNeg (((upd (Model_s wy_61) ((2 + y3_61)).toNatClampNeg (((Model_s wy_61) ((2 + y3_61)).toNatClampNeg) + ((Model_does wy_61) (y3_61).toNatClampNeg))) (1 : Int32).toNatClampNeg) + (((Model_does wy_61) (y3_61).toNatClampNeg) * ((upd (Model_s wy_61) ((2 + y3_61)).toNatClampNeg (((Model_s wy_61) ((2 + y3_61)).toNatClampNeg) + ((Model_does wy_61) (y3_61).toNatClampNeg))) ((39 + y3_61)).toNatClampNeg))))) hx hb hK hP 1 1 rfl rfl (mIn_ok h24) dX8_goes_152 ?_
                refine W.eq (g2 := F0 m 153 ls [.int ((upd (upd (Model_s wy_61) ((2 + y3_61)).toNatClampNeg (((Model_s wy_61) ((2 + y3_61)).toNatClampNeg) + ((Model_does wy_61) (y3_61).toNatClampNeg))) (1 : Int32).toNatClampNeg (((upd (Model_s wy_61) ((2 + y3_61)).toNatClampNeg (((Model_s wy_61) ((2 + y3_61)).toNatClampNeg) + ((Model_does wy_61) (y3_61).toNatClampNeg))) (1 : Int32).toNatClampNeg) + (((Model_does wy_61) (y3_61).toNatClampNeg) * ((upd (Model_s wy_61) ((2 + y3_61)).toNatClampNeg (((Model_s wy_61) ((2 + y3_61)).toNatClampNeg) + ((Model_does wy_61) (y3_61).toNatClampNeg))) ((39 + y3_61)).toNatClampNeg)))) ((8 + y3_61)).toNatClampNeg), .int (8 + y3_61), .ref (Modela_s a)]) rfl ?_
                refine lv_aload_n hx hb dX8_goes_153 rfl (lv_at hl 0 rfl) ?_
                refine lv_sipush (v := 216) hx hb dX8_goes_154 (by decide) ?_
                refine lv_iconst (v := 2) hx hb dX8_goes_157 (by decide) ?_
                obtain ⟨t25, ht25, hF⟩ := m_bnd hF
                refine mVP (ci := 8) (n := 2) (rest := [.int ((upd (upd (Model_s wy_61) ((2 + y3_61)).toNatClampNeg (((Model_s wy_61) ((2 + y3_61)).toNatClampNeg) + ((Model_does wy_61) (y3_61).toNatClampNeg))) (1 : Int32).toNatClampNeg (((upd (Model_s wy_61) ((2 + y3_61)).toNatClampNeg (((Model_s wy_61) ((2 + y3_61)).toNatClampNeg) + ((Model_does wy_61) (y3_61).toNatClampNeg))) (1 : Int32).toNatClampNeg) + (((Model_does wy_61) (y3_61).toNatClampNeg) * ((upd (Model_s wy_61) ((2 + y3_61)).toNatClampNeg (((Model_s wy_61) ((2 + y3_61)).toNatClampNeg) + ((Model_does wy_61) (y3_61).toNatClampNeg))) ((39 + y3_61)).toNatClampNeg)))) ((8 + y3_61)).toNatClampNeg), .int (8 + y3_61), .ref (Modela_s a)]) (As := [.int 216, .int 2]) CC hKN hGl hS (c_X8_tellsOf l E a (Model_s_s wy_61 (upd (upd (Model_s wy_61) ((2 + y3_61)).toNatClampNeg (((Model_s wy_61) ((2 + y3_61)).toNatClampNeg) + ((Model_does wy_61) (y3_61).toNatClampNeg))) (1 : Int32).toNatClampNeg (((upd (Model_s wy_61) ((2 + y3_61)).toNatClampNeg (((Model_s wy_61) ((2 + y3_61)).toNatClampNeg) + ((Model_does wy_61) (y3_61).toNatClampNeg))) (1 : Int32).toNatClampNeg) + (((Model_does wy_61) (y3_61).toNatClampNeg) * ((upd (Model_s wy_61) ((2 + y3_61)).toNatClampNeg (((Model_s wy_61) ((2 + y3_61)).toNatClampNeg) + ((Model_does wy_61) (y3_61).toNatClampNeg))) ((39 + y3_61)).toNatClampNeg))))) 216 2 t25 ht25) gX8_goes_X8_tellsOf rfl ⟨rfl, rfl⟩ (by decide +kernel) ⟨Nat.le_of_ble_eq_true rfl, Nat.le_of_ble_eq_true rfl⟩ hP rfl rfl rfl rfl hl.1 rfl (Nat.le_of_ble_eq_true rfl) ⟨Nat.zero_le _, Nat.zero_le _⟩ dX8_goes_158 ?_
                refine W.eq (g2 := F0 m 161 ls [.int t25, .int ((upd (upd (Model_s wy_61) ((2 + y3_61)).toNatClampNeg (((Model_s wy_61) ((2 + y3_61)).toNatClampNeg) + ((Model_does wy_61) (y3_61).toNatClampNeg))) (1 : Int32).toNatClampNeg (((upd (Model_s wy_61) ((2 + y3_61)).toNatClampNeg (((Model_s wy_61) ((2 + y3_61)).toNatClampNeg) + ((Model_does wy_61) (y3_61).toNatClampNeg))) (1 : Int32).toNatClampNeg) + (((Model_does wy_61) (y3_61).toNatClampNeg) * ((upd (Model_s wy_61) ((2 + y3_61)).toNatClampNeg (((Model_s wy_61) ((2 + y3_61)).toNatClampNeg) + ((Model_does wy_61) (y3_61).toNatClampNeg))) ((39 + y3_61)).toNatClampNeg)))) ((8 + y3_61)).toNatClampNeg), .int (8 + y3_61), .ref (Modela_s a)]) rfl ?_
                refine lv_isub hx hb dX8_goes_161 ?_
                refine lv_iconst (v := 0) hx hb dX8_goes_162 (by decide) ?_
                refine lv_bipush (v := 99) hx hb dX8_goes_163 (by decide) ?_
                obtain ⟨t26, ht26, hF⟩ := m_bnd hF
                refine mSP (n := 3) (rest := [.int (8 + y3_61), .ref (Modela_s a)]) (As := [.int (((upd (upd (Model_s wy_61) ((2 + y3_61)).toNatClampNeg (((Model_s wy_61) ((2 + y3_61)).toNatClampNeg) + ((Model_does wy_61) (y3_61).toNatClampNeg))) (1 : Int32).toNatClampNeg (((upd (Model_s wy_61) ((2 + y3_61)).toNatClampNeg (((Model_s wy_61) ((2 + y3_61)).toNatClampNeg) + ((Model_does wy_61) (y3_61).toNatClampNeg))) (1 : Int32).toNatClampNeg) + (((Model_does wy_61) (y3_61).toNatClampNeg) * ((upd (Model_s wy_61) ((2 + y3_61)).toNatClampNeg (((Model_s wy_61) ((2 + y3_61)).toNatClampNeg) + ((Model_does wy_61) (y3_61).toNatClampNeg))) ((39 + y3_61)).toNatClampNeg)))) ((8 + y3_61)).toNatClampNeg) - t25), .int 0, .int 99]) CC hKN hGl hS (c_X8_within l E (((upd (upd (Model_s wy_61) ((2 + y3_61)).toNatClampNeg (((Model_s wy_61) ((2 + y3_61)).toNatClampNeg) + ((Model_does wy_61) (y3_61).toNatClampNeg))) (1 : Int32).toNatClampNeg (((upd (Model_s wy_61) ((2 + y3_61)).toNatClampNeg (((Model_s wy_61) ((2 + y3_61)).toNatClampNeg) + ((Model_does wy_61) (y3_61).toNatClampNeg))) (1 : Int32).toNatClampNeg) + (((Model_does wy_61) (y3_61).toNatClampNeg) * ((upd (Model_s wy_61) ((2 + y3_61)).toNatClampNeg (((Model_s wy_61) ((2 + y3_61)).toNatClampNeg) + ((Model_does wy_61) (y3_61).toNatClampNeg))) ((39 + y3_61)).toNatClampNeg)))) ((8 + y3_61)).toNatClampNeg) - t25) 0 99 t26 ht26) gX8_goes_X8_within rfl ⟨rfl, rfl⟩ (by decide +kernel) ⟨Nat.le_of_ble_eq_true rfl, Nat.le_of_ble_eq_true rfl⟩ m_nil rfl hl.1 rfl (Nat.le_of_ble_eq_true rfl) ⟨Nat.zero_le _, Nat.zero_le _⟩ dX8_goes_165 ?_
                refine W.eq (g2 := F0 m 168 ls [.int t26, .int (8 + y3_61), .ref (Modela_s a)]) rfl ?_
                obtain ⟨h27, hF⟩ := m_chk hF
                refine va_iast (f := (upd (upd (Model_s wy_61) ((2 + y3_61)).toNatClampNeg (((Model_s wy_61) ((2 + y3_61)).toNatClampNeg) + ((Model_does wy_61) (y3_61).toNatClampNeg))) (1 : Int32).toNatClampNeg (((upd (Model_s wy_61) ((2 + y3_61)).toNatClampNeg (((Model_s wy_61) ((2 + y3_61)).toNatClampNeg) + ((Model_does wy_61) (y3_61).toNatClampNeg))) (1 : Int32).toNatClampNeg) + (((Model_does wy_61) (y3_61).toNatClampNeg) * ((upd (Model_s wy_61) ((2 + y3_61)).toNatClampNeg (((Model_s wy_61) ((2 + y3_61)).toNatClampNeg) + ((Model_does wy_61) (y3_61).toNatClampNeg))) ((39 + y3_61)).toNatClampNeg))))) hx hb hK hP hD hS 1 1 rfl rfl (mIn_ok h27) dX8_goes_168 (fun H locs hP hD hS => ?_)
                have hP : va_P E.1 vwCl (Model_c E a (Model_s_s wy_61 (upd (upd (upd (Model_s wy_61) ((2 + y3_61)).toNatClampNeg (((Model_s wy_61) ((2 + y3_61)).toNatClampNeg) + ((Model_does wy_61) (y3_61).toNatClampNeg))) (1 : Int32).toNatClampNeg (((upd (Model_s wy_61) ((2 + y3_61)).toNatClampNeg (((Model_s wy_61) ((2 + y3_61)).toNatClampNeg) + ((Model_does wy_61) (y3_61).toNatClampNeg))) (1 : Int32).toNatClampNeg) + (((Model_does wy_61) (y3_61).toNatClampNeg) * ((upd (Model_s wy_61) ((2 + y3_61)).toNatClampNeg (((Model_s wy_61) ((2 + y3_61)).toNatClampNeg) + ((Model_does wy_61) (y3_61).toNatClampNeg))) ((39 + y3_61)).toNatClampNeg)))) ((8 + y3_61)).toNatClampNeg t26))) H := hP
                have hD : va_D A (Model_c E a (Model_s_s wy_61 (upd (upd (upd (Model_s wy_61) ((2 + y3_61)).toNatClampNeg (((Model_s wy_61) ((2 + y3_61)).toNatClampNeg) + ((Model_does wy_61) (y3_61).toNatClampNeg))) (1 : Int32).toNatClampNeg (((upd (Model_s wy_61) ((2 + y3_61)).toNatClampNeg (((Model_s wy_61) ((2 + y3_61)).toNatClampNeg) + ((Model_does wy_61) (y3_61).toNatClampNeg))) (1 : Int32).toNatClampNeg) + (((Model_does wy_61) (y3_61).toNatClampNeg) * ((upd (Model_s wy_61) ((2 + y3_61)).toNatClampNeg (((Model_s wy_61) ((2 + y3_61)).toNatClampNeg) + ((Model_does wy_61) (y3_61).toNatClampNeg))) ((39 + y3_61)).toNatClampNeg)))) ((8 + y3_61)).toNatClampNeg t26))) := hD
                refine lv_goto (tgt := 220) hx hb dX8_goes_169 (by decide) ?_
                exact hj220 (Model_s_s wy_61 (upd (upd (upd (Model_s wy_61) ((2 + y3_61)).toNatClampNeg (((Model_s wy_61) ((2 + y3_61)).toNatClampNeg) + ((Model_does wy_61) (y3_61).toNatClampNeg))) (1 : Int32).toNatClampNeg (((upd (Model_s wy_61) ((2 + y3_61)).toNatClampNeg (((Model_s wy_61) ((2 + y3_61)).toNatClampNeg) + ((Model_does wy_61) (y3_61).toNatClampNeg))) (1 : Int32).toNatClampNeg) + (((Model_does wy_61) (y3_61).toNatClampNeg) * ((upd (Model_s wy_61) ((2 + y3_61)).toNatClampNeg (((Model_s wy_61) ((2 + y3_61)).toNatClampNeg) + ((Model_does wy_61) (y3_61).toNatClampNeg))) ((39 + y3_61)).toNatClampNeg)))) ((8 + y3_61)).toNatClampNeg t26)) H locs ls hF hP hD hS (lv_sub hl [0, 1, 2] rfl)
      exact hL61 m_N 0 wx_41 H locs ls hF hP hD hS (lv_sub hl [2, 1, 0] rfl)
    clear hjd58
    refine lv_if_ne (tgt := 52) hx hb dX8_goes_45 (by decide) (fun c28 => ?_) (fun c28 => ?_)
    · have hF := m_pos c28 hF
      refine lv_iload_n hx hb dX8_goes_52 rfl (lv_at hl 1 rfl) ?_
      refine lv_aload_n hx hb dX8_goes_53 rfl (lv_at hl 0 rfl) ?_
      obtain ⟨t29, ht29, hF⟩ := m_bnd hF
      refine mVP (ci := 8) (n := 0) (rest := [.int x1_41]) (As := []) CC hKN hGl hS (c_X8_manyIn l E a wx_41 t29 ht29) gX8_goes_X8_manyIn rfl ⟨rfl, rfl⟩ (by decide +kernel) ⟨Nat.le_of_ble_eq_true rfl, Nat.le_of_ble_eq_true rfl⟩ hP rfl rfl rfl rfl hl.1 rfl (Nat.le_of_ble_eq_true rfl) ⟨Nat.zero_le _, Nat.zero_le _⟩ dX8_goes_54 ?_
      refine W.eq (g2 := F0 m 57 ls [.int t29, .int x1_41]) rfl ?_
      obtain ⟨h30, hF⟩ := m_chk hF
      refine lv_idiv hx hb dX8_goes_57 h30 ?_
      exact hj58 (x1_41 / t29) H locs ls hF hP hD hS (lv_sub hl [0] rfl)
    · have hF := m_neg (fun n9 => n9 c28) hF
      refine lv_iconst (v := 0) hx hb dX8_goes_48 (by decide) ?_
      refine lv_goto (tgt := 58) hx hb dX8_goes_49 (by decide) ?_
      exact hj58 0 H locs ls hF hP hD hS (lv_sub hl [0] rfl)
  clear hjd41
  have hL4 : ∀ (n : Nat) (y1_4 : Int32) (y2_4 : Int32) (wy_4 : ModelV) (H : Heap) (locs : List Loc) (ls : Array Slot), lp_X8_goes_4 j41 n y1_4 y2_4 wy_4 = some t → va_P E.1 vwCl (Model_c E a wy_4) H → va_D A (Model_c E a wy_4) → va_S A s.heap H locs → lv_has ls 4 [(0, .ref (Modela_self a)), (1, .int y1_4), (2, .int y2_4)] → W p l e_ rmX8_goes s m args below meth c H locs 0 0 Q (F0 m 4 ls []) := by
    intro n
    induction n with
    | zero =>
      intro y1_4 y2_4 wy_4 H locs ls hF
      exact nomatch (show (none : Option ModelV) = some t from hF)
    | succ n ih4 =>
      intro y1_4 y2_4 wy_4 H locs ls hF hP hD hS hl
      have hF : st_X8_goes_4 j41 (lp_X8_goes_4 j41 n) y1_4 y2_4 wy_4 = some t := hF
      unfold st_X8_goes_4 at hF
      refine lv_iload_n hx hb dX8_goes_4 rfl (lv_at hl 2 rfl) ?_
      refine lv_aload_n hx hb dX8_goes_5 rfl (lv_at hl 0 rfl) ?_
      refine va_get (D := E.1) (ci := 8) (v := .ref (Modela_s a)) (C := RX8) (T := TX8) (N := 20) hx hb hts k1 hown hK hP 0 rfl rfl 1 (by decide) k0 (fun _ h9 => h9) rfl dX8_goes_6 ?_
      refine lv_bipush (v := 20) hx hb dX8_goes_9 (by decide) ?_
      obtain ⟨h31, hF⟩ := m_chk hF
      refine va_iald (f := (Model_s wy_4)) hx hb hK hP 1 1 rfl rfl (mIn_ok h31) dX8_goes_11 ?_
      refine W.eq (g2 := F0 m 12 ls [.int ((Model_s wy_4) (20 : Int32).toNatClampNeg), .int y2_4]) rfl ?_
      refine lv_icmp_ge (tgt := 41) hx hb dX8_goes_12 (by decide) (fun c32 => ?_) (fun c32 => ?_)
      · have hF := m_pos c32 hF
        exact hj41 y1_4 wy_4 H locs ls hF hP hD hS (lv_sub hl [0, 1] rfl)
      · have hF := m_neg c32 hF
        refine lv_aload_n hx hb dX8_goes_15 rfl (lv_at hl 0 rfl) ?_
        refine va_get (D := E.1) (ci := 8) (v := .ref (Modela_does a)) (C := RX8) (T := TX8) (N := 20) hx hb hts k1 hown hK hP 0 rfl rfl 12 (by decide) k2 (fun _ h9 => h9) rfl dX8_goes_16 ?_
        refine lv_iload_n hx hb dX8_goes_19 rfl (lv_at hl 2 rfl) ?_
        refine lv_aload_n hx hb dX8_goes_20 rfl (lv_at hl 0 rfl) ?_
        refine lv_iload_n hx hb dX8_goes_21 rfl (lv_at hl 2 rfl) ?_
        obtain ⟨t33, ht33, hF⟩ := m_bnd hF
        have hPc := hP
        have hDc := hD
        have hFc := va_free (wc := (Model_c E a wy_4)) hD hS hA [0, 1, 2, 3, 4, 5, 6, 7] rfl
        refine mVM (ci := 8) (n := 1) (rest := [.int y2_4, .ref (Modela_does a)]) (As := [.int y2_4]) CC hKN hGl (c_X8_doesOf l E a wy_4 y2_4 t33 ht33 _) gX8_goes_X8_doesOf rfl ⟨rfl, rfl⟩ (by decide +kernel) ⟨Nat.le_of_ble_eq_true rfl, Nat.le_of_ble_eq_true rfl⟩ hPc hDc m_nil m_nilA hS hFc rfl rfl rfl rfl hl.1 rfl (Nat.le_of_ble_eq_true rfl) ⟨Nat.zero_le _, Nat.zero_le _⟩ dX8_goes_22 (fun H1 locs hP1 hD1 hz1 hk1 hS => ?_)
        have hP : va_P E.1 vwCl (Model_c E a t33.2) H1 := hP1
        have hD : va_D A (Model_c E a t33.2) := m_back hD1 hFc
        generalize H1 = H at hP hS ⊢
        refine W.eq (g2 := F0 m 25 ls [.int t33.1, .int y2_4, .ref (Modela_does a)]) rfl ?_
        obtain ⟨h34, hF⟩ := m_chk hF
        refine va_iast (f := (Model_does t33.2)) hx hb hK hP hD hS 6 1 rfl rfl (mIn_ok h34) dX8_goes_25 (fun H locs hP hD hS => ?_)
        have hP : va_P E.1 vwCl (Model_c E a (Model_does_s t33.2 (upd (Model_does t33.2) (y2_4).toNatClampNeg t33.1))) H := hP
        have hD : va_D A (Model_c E a (Model_does_s t33.2 (upd (Model_does t33.2) (y2_4).toNatClampNeg t33.1))) := hD
        refine lv_iload_n hx hb dX8_goes_26 rfl (lv_at hl 1 rfl) ?_
        refine lv_aload_n hx hb dX8_goes_27 rfl (lv_at hl 0 rfl) ?_
        refine va_get (D := E.1) (ci := 8) (v := .ref (Modela_does a)) (C := RX8) (T := TX8) (N := 20) hx hb hts k1 hown hK hP 0 rfl rfl 12 (by decide) k2 (fun _ h9 => h9) rfl dX8_goes_28 ?_
        refine lv_iload_n hx hb dX8_goes_31 rfl (lv_at hl 2 rfl) ?_
        obtain ⟨h35, hF⟩ := m_chk hF
        refine va_iald (f := (upd (Model_does t33.2) (y2_4).toNatClampNeg t33.1)) hx hb hK hP 6 1 rfl rfl (mIn_ok h35) dX8_goes_32 ?_
        refine W.eq (g2 := F0 m 33 ls [.int ((upd (Model_does t33.2) (y2_4).toNatClampNeg t33.1) (y2_4).toNatClampNeg), .int y1_4]) rfl ?_
        refine lv_iadd hx hb dX8_goes_33 ?_
        refine lv_istore_n (lv' := [(1, .int (y1_4 + ((upd (Model_does t33.2) (y2_4).toNatClampNeg t33.1) (y2_4).toNatClampNeg))), (0, .ref (Modela_self a)), (2, .int y2_4)]) hx hb dX8_goes_34 rfl hl (by decide) rfl (fun ls hl => ?_)
        refine lv_iinc (v := (y2_4 + 1)) (lv' := [(2, .int (y2_4 + 1)), (1, .int (y1_4 + ((upd (Model_does t33.2) (y2_4).toNatClampNeg t33.1) (y2_4).toNatClampNeg))), (0, .ref (Modela_self a))]) hx hb dX8_goes_35 hl (k := 2) rfl rfl (by decide) rfl (fun ls hl => ?_)
        refine lv_goto (tgt := 4) hx hb dX8_goes_38 (by decide) ?_
        exact ih4 (y1_4 + ((upd (Model_does t33.2) (y2_4).toNatClampNeg t33.1) (y2_4).toNatClampNeg)) (y2_4 + 1) (Model_does_s t33.2 (upd (Model_does t33.2) (y2_4).toNatClampNeg t33.1)) H locs ls hF hP hD hS (lv_sub hl [2, 1, 0] rfl)
  exact hL4 m_N 0 0 v H locs ls hF hP hD hS (lv_sub hl [2, 1, 0] rfl)

abbrev rmX8_goesOn : Room := { frames := 5, cells := 0, slots := 0, locals := 120 }
set_option maxRecDepth 100000 in
set_option maxHeartbeats 400000 in
theorem c_X8_goesOn (l : Launch) (E : mE) (a : ModelA) (v : ModelV) (x0 : Int32) (t : ModelV) (hF : fn_X8_goesOn v x0 = some t) (sz : Nat) : Met l yX8_goesOn wsX8_goesOn rmX8_goesOn (mPm E [.ref (Modela_self a), .int x0] sz ((Model_c E a v)) (([] : va_W))) (mSm E (none) ((Model_c E a t)) (va_A ((Model_c E a v)) sz)) 0 0 (va_A ((Model_c E a v)) sz) := by
  refine mOfM (cc := cX8_goesOn) (maxL := 3) (ret := none) (by decide) rfl (Nat.le_of_ble_eq_true rfl) ?_
  intro p e_ s m args below meth c Q A hQ CC hr hlocks hin hA hP hD hKN hGl hR0 hRA ls hl
  have hS : va_S A s.heap s.heap [] := va_S.rf
  have hK := hKN.1
  have hx := CC.1
  have hb := CC.2.1
  have hml := CC.2.2.1
  have hown : s.vm.findClass RX8 = some m.cls := CC.2.2.2.1
  have hts := CC.2.2.2.2
  have hl : lv_has ls 3 [(0, .ref (Modela_self a)), (1, .int x0)] := hl
  have hP : va_P E.1 vwCl (Model_c E a v) s.heap := hP
  obtain ⟨H, hH⟩ : ∃ H, H = s.heap := ⟨_, rfl⟩
  obtain ⟨locs, hlc⟩ : ∃ z : List Loc, z = [] := ⟨_, rfl⟩
  rw [← hH] at hP
  rw [← hlc] at hS
  have hS : va_S A s.heap H locs := by rw [hH]; exact hS
  rw [← hH, ← hlc]
  unfold fn_X8_goesOn at hF
  refine lv_iconst (v := 0) hx hb dX8_goesOn_0 (by decide) ?_
  refine lv_istore_n (lv' := [(2, .int 0), (0, .ref (Modela_self a)), (1, .int x0)]) hx hb dX8_goesOn_1 rfl hl (by decide) rfl (fun ls hl => ?_)
  have hL2 : ∀ (n : Nat) (y2_2 : Int32) (wy_2 : ModelV) (H : Heap) (locs : List Loc) (ls : Array Slot), lp_X8_goesOn_2 x0 n y2_2 wy_2 = some t → va_P E.1 vwCl (Model_c E a wy_2) H → va_D A (Model_c E a wy_2) → va_S A s.heap H locs → lv_has ls 3 [(0, .ref (Modela_self a)), (1, .int x0), (2, .int y2_2)] → W p l e_ rmX8_goesOn s m args below meth c H locs 0 0 Q (F0 m 2 ls []) := by
    intro n
    induction n with
    | zero =>
      intro y2_2 wy_2 H locs ls hF
      exact nomatch (show (none : Option ModelV) = some t from hF)
    | succ n ih2 =>
      intro y2_2 wy_2 H locs ls hF hP hD hS hl
      have hF : st_X8_goesOn_2 x0 (lp_X8_goesOn_2 x0 n) y2_2 wy_2 = some t := hF
      unfold st_X8_goesOn_2 at hF
      refine lv_iload_n hx hb dX8_goesOn_2 rfl (lv_at hl 2 rfl) ?_
      refine lv_iload_n hx hb dX8_goesOn_3 rfl (lv_at hl 1 rfl) ?_
      refine lv_icmp_ge (tgt := 17) hx hb dX8_goesOn_4 (by decide) (fun c1 => ?_) (fun c1 => ?_)
      · have hF := m_pos c1 hF
        have hF := Option.some.inj hF
        subst hF
        rw [hQ]
        exact W.vret hx hb hr (fun t ht _ => ⟨⟨rfl, by rw [ht]; exact hP, hD⟩, hS.F ht⟩) hS.2.2 dX8_goesOn_17
      · have hF := m_neg c1 hF
        refine lv_aload_n hx hb dX8_goesOn_7 rfl (lv_at hl 0 rfl) ?_
        obtain ⟨t2, ht2, hF⟩ := m_bnd hF
        have hPc := hP
        have hDc := hD
        have hFc := va_free (wc := (Model_c E a wy_2)) hD hS hA [0, 1, 2, 3, 4, 5, 6, 7] rfl
        refine mVM (ci := 8) (n := 0) (rest := []) (As := []) CC hKN hGl (c_X8_goes l E a wy_2 t2 ht2 _) gX8_goesOn_X8_goes rfl ⟨rfl, rfl⟩ (by decide +kernel) ⟨Nat.le_of_ble_eq_true rfl, Nat.le_of_ble_eq_true rfl⟩ hPc hDc m_nil m_nilA hS hFc rfl rfl rfl rfl hl.1 rfl (Nat.le_of_ble_eq_true rfl) ⟨Nat.zero_le _, Nat.zero_le _⟩ dX8_goesOn_8 (fun H1 locs hP1 hD1 hz1 hk1 hS => ?_)
        have hP : va_P E.1 vwCl (Model_c E a t2) H1 := hP1
        have hD : va_D A (Model_c E a t2) := m_back hD1 hFc
        generalize H1 = H at hP hS ⊢
        refine W.eq (g2 := F0 m 11 ls []) rfl ?_
        refine lv_iinc (v := (y2_2 + 1)) (lv' := [(2, .int (y2_2 + 1)), (0, .ref (Modela_self a)), (1, .int x0)]) hx hb dX8_goesOn_11 hl (k := 2) rfl rfl (by decide) rfl (fun ls hl => ?_)
        refine lv_goto (tgt := 2) hx hb dX8_goesOn_14 (by decide) ?_
        exact ih2 (y2_2 + 1) t2 H locs ls hF hP hD hS (lv_sub hl [1, 2, 0] rfl)
  exact hL2 m_N 0 v H locs ls hF hP hD hS (lv_sub hl [1, 2, 0] rfl)

