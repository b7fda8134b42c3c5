abbrev rmJ6_bitCount_0f7a4 : Room := { frames := 0, cells := 0, slots := 0, locals := 0 }
set_option maxRecDepth 100000 in
set_option maxHeartbeats 400000 in
theorem c_J6_bitCount_0f7a4 (l : Launch) (E : mE) (x0 : Int32) (t : Int32) (hF : fn_J6_bitCount_0f7a4 x0 = some t) : Met l yJ6_bitCount_0f7a4 wsJ6_bitCount_0f7a4 rmJ6_bitCount_0f7a4 (mPp E [.int x0] ([] : va_W)) (mSp (some (.int t))) 0 0 (fun _ => False) := by
  refine mOfP (cc := cJ6_bitCount_0f7a4) (maxL := 1) (ret := (some .int)) (by decide) rfl (Nat.le_of_ble_eq_true rfl) ?_
  intro p e_ s m args below meth c Q hQ CC hr hlocks hP hKN hGl ls hl
  have hS : va_S (fun _ => False) s.heap s.heap [] := va_S.rf
  have hK := hKN.1
  have hx := CC.1
  have hb := CC.2.1
  have hml := CC.2.2.1
  have hown : s.vm.findClass RJ6 = some m.cls := CC.2.2.2.1
  have hts := CC.2.2.2.2
  have hl : lv_has ls 1 [(0, .int x0)] := hl
  have k0 := hts (.constant RJ6 265 (1431655765)) (by decide +kernel)
  have k1 := hts (.constant RJ6 266 (858993459)) (by decide +kernel)
  have k2 := hts (.constant RJ6 267 (252645135)) (by decide +kernel)
  unfold fn_J6_bitCount_0f7a4 at hF
  refine lv_iload_n hx hb dJ6_bitCount_0f7a4_0 rfl (lv_at hl 0 rfl) ?_
  refine lv_iload_n hx hb dJ6_bitCount_0f7a4_1 rfl (lv_at hl 0 rfl) ?_
  refine lv_iconst (v := 1) hx hb dJ6_bitCount_0f7a4_2 (by decide) ?_
  refine lv_iushr (v := (((x0).toUInt32 >>> ((1 : Int32).toUInt32 &&& Int32.toUInt32 31)).toInt32)) hx hb dJ6_bitCount_0f7a4_3 rfl ?_
  refine lv_ldcw (v := 1431655765) hx hb hown k0 dJ6_bitCount_0f7a4_4 ?_
  refine lv_iand hx hb dJ6_bitCount_0f7a4_7 ?_
  refine lv_isub hx hb dJ6_bitCount_0f7a4_8 ?_
  refine lv_istore_n (lv' := [(0, .int (x0 - ((((x0).toUInt32 >>> ((1 : Int32).toUInt32 &&& Int32.toUInt32 31)).toInt32) &&& 1431655765)))]) hx hb dJ6_bitCount_0f7a4_9 rfl hl (by decide) rfl (fun ls hl => ?_)
  refine lv_iload_n hx hb dJ6_bitCount_0f7a4_10 rfl (lv_at hl 0 rfl) ?_
  refine lv_ldcw (v := 858993459) hx hb hown k1 dJ6_bitCount_0f7a4_11 ?_
  refine lv_iand hx hb dJ6_bitCount_0f7a4_14 ?_
  refine lv_iload_n hx hb dJ6_bitCount_0f7a4_15 rfl (lv_at hl 0 rfl) ?_
  refine lv_iconst (v := 2) hx hb dJ6_bitCount_0f7a4_16 (by decide) ?_
  refine lv_iushr (v := ((((x0 - ((((x0).toUInt32 >>> ((1 : Int32).toUInt32 &&& Int32.toUInt32 31)).toInt32) &&& 1431655765))).toUInt32 >>> ((2 : Int32).toUInt32 &&& Int32.toUInt32 31)).toInt32)) hx hb dJ6_bitCount_0f7a4_17 rfl ?_
  refine lv_ldcw (v := 858993459) hx hb hown k1 dJ6_bitCount_0f7a4_18 ?_
  refine lv_iand hx hb dJ6_bitCount_0f7a4_21 ?_
  refine lv_iadd hx hb dJ6_bitCount_0f7a4_22 ?_
  refine lv_istore_n (lv' := [(0, .int (((x0 - ((((x0).toUInt32 >>> ((1 : Int32).toUInt32 &&& Int32.toUInt32 31)).toInt32) &&& 1431655765)) &&& 858993459) + (((((x0 - ((((x0).toUInt32 >>> ((1 : Int32).toUInt32 &&& Int32.toUInt32 31)).toInt32) &&& 1431655765))).toUInt32 >>> ((2 : Int32).toUInt32 &&& Int32.toUInt32 31)).toInt32) &&& 858993459)))]) hx hb dJ6_bitCount_0f7a4_23 rfl hl (by decide) rfl (fun ls hl => ?_)
  refine lv_iload_n hx hb dJ6_bitCount_0f7a4_24 rfl (lv_at hl 0 rfl) ?_
  refine lv_iload_n hx hb dJ6_bitCount_0f7a4_25 rfl (lv_at hl 0 rfl) ?_
  refine lv_iconst (v := 4) hx hb dJ6_bitCount_0f7a4_26 (by decide) ?_
  refine lv_iushr (v := ((((((x0 - ((((x0).toUInt32 >>> ((1 : Int32).toUInt32 &&& Int32.toUInt32 31)).toInt32) &&& 1431655765)) &&& 858993459) + (((((x0 - ((((x0).toUInt32 >>> ((1 : Int32).toUInt32 &&& Int32.toUInt32 31)).toInt32) &&& 1431655765))).toUInt32 >>> ((2 : Int32).toUInt32 &&& Int32.toUInt32 31)).toInt32) &&& 858993459))).toUInt32 >>> ((4 : Int32).toUInt32 &&& Int32.toUInt32 31)).toInt32)) hx hb dJ6_bitCount_0f7a4_27 rfl ?_
  refine lv_iadd hx hb dJ6_bitCount_0f7a4_28 ?_
  refine lv_ldcw (v := 252645135) hx hb hown k2 dJ6_bitCount_0f7a4_29 ?_
  refine lv_iand hx hb dJ6_bitCount_0f7a4_32 ?_
  refine lv_istore_n (lv' := [(0, .int (((((x0 - ((((x0).toUInt32 >>> ((1 : Int32).toUInt32 &&& Int32.toUInt32 31)).toInt32) &&& 1431655765)) &&& 858993459) + (((((x0 - ((((x0).toUInt32 >>> ((1 : Int32).toUInt32 &&& Int32.toUInt32 31)).toInt32) &&& 1431655765))).toUInt32 >>> ((2 : Int32).toUInt32 &&& Int32.toUInt32 31)).toInt32) &&& 858993459)) + ((((((x0 - ((((x0).toUInt32 >>> ((1 : Int32).toUInt32 &&& Int32.toUInt32 31)).toInt32) &&& 1431655765)) &&& 858993459) + (((((x0 - ((((x0).toUInt32 >>> ((1 : Int32).toUInt32 &&& Int32.toUInt32 31)).toInt32) &&& 1431655765))).toUInt32 >>> ((2 : Int32).toUInt32 &&& Int32.toUInt32 31)).toInt32) &&& 858993459))).toUInt32 >>> ((4 : Int32).toUInt32 &&& Int32.toUInt32 31)).toInt32)) &&& 252645135))]) hx hb dJ6_bitCount_0f7a4_33 rfl hl (by decide) rfl (fun ls hl => ?_)
  refine lv_iload_n hx hb dJ6_bitCount_0f7a4_34 rfl (lv_at hl 0 rfl) ?_
  refine lv_iload_n hx hb dJ6_bitCount_0f7a4_35 rfl (lv_at hl 0 rfl) ?_
  refine lv_bipush (v := 8) hx hb dJ6_bitCount_0f7a4_36 (by decide) ?_
  refine lv_iushr (v := ((((((((x0 - ((((x0).toUInt32 >>> ((1 : Int32).toUInt32 &&& Int32.toUInt32 31)).toInt32) &&& 1431655765)) &&& 858993459) + (((((x0 - ((((x0).toUInt32 >>> ((1 : Int32).toUInt32 &&& Int32.toUInt32 31)).toInt32) &&& 1431655765))).toUInt32 >>> ((2 : Int32).toUInt32 &&& Int32.toUInt32 31)).toInt32) &&& 858993459)) + ((((((x0 - ((((x0).toUInt32 >>> ((1 : Int32).toUInt32 &&& Int32.toUInt32 31)).toInt32) &&& 1431655765)) &&& 858993459) + (((((x0 - ((((x0).toUInt32 >>> ((1 : Int32).toUInt32 &&& Int32.toUInt32 31)).toInt32) &&& 1431655765))).toUInt32 >>> ((2 : Int32).toUInt32 &&& Int32.toUInt32 31)).toInt32) &&& 858993459))).toUInt32 >>> ((4 : Int32).toUInt32 &&& Int32.toUInt32 31)).toInt32)) &&& 252645135)).toUInt32 >>> ((8 : Int32).toUInt32 &&& Int32.toUInt32 31)).toInt32)) hx hb dJ6_bitCount_0f7a4_38 rfl ?_
  refine lv_iadd hx hb dJ6_bitCount_0f7a4_39 ?_
  refine lv_istore_n (lv' := [(0, .int ((((((x0 - ((((x0).toUInt32 >>> ((1 : Int32).toUInt32 &&& Int32.toUInt32 31)).toInt32) &&& 1431655765)) &&& 858993459) + (((((x0 - ((((x0).toUInt32 >>> ((1 : Int32).toUInt32 &&& Int32.toUInt32 31)).toInt32) &&& 1431655765))).toUInt32 >>> ((2 : Int32).toUInt32 &&& Int32.toUInt32 31)).toInt32) &&& 858993459)) + ((((((x0 - ((((x0).toUInt32 >>> ((1 : Int32).toUInt32 &&& Int32.toUInt32 31)).toInt32) &&& 1431655765)) &&& 858993459) + (((((x0 - ((((x0).toUInt32 >>> ((1 : Int32).toUInt32 &&& Int32.toUInt32 31)).toInt32) &&& 1431655765))).toUInt32 >>> ((2 : Int32).toUInt32 &&& Int32.toUInt32 31)).toInt32) &&& 858993459))).toUInt32 >>> ((4 : Int32).toUInt32 &&& Int32.toUInt32 31)).toInt32)) &&& 252645135) + ((((((((x0 - ((((x0).toUInt32 >>> ((1 : Int32).toUInt32 &&& Int32.toUInt32 31)).toInt32) &&& 1431655765)) &&& 858993459) + (((((x0 - ((((x0).toUInt32 >>> ((1 : Int32).toUInt32 &&& Int32.toUInt32 31)).toInt32) &&& 1431655765))).toUInt32 >>> ((2 : Int32).toUInt32 &&& Int32.toUInt32 31)).toInt32) &&& 858993459)) + ((((((x0 - ((((x0).toUInt32 >>> ((1 : Int32).toUInt32 &&& Int32.toUInt32 31)).toInt32) &&& 1431655765)) &&& 858993459) + (((((x0 - ((((x0).toUInt32 >>> ((1 : Int32).toUInt32 &&& Int32.toUInt32 31)).toInt32) &&& 1431655765))).toUInt32 >>> ((2 : Int32).toUInt32 &&& Int32.toUInt32 31)).toInt32) &&& 858993459))).toUInt32 >>> ((4 : Int32).toUInt32 &&& Int32.toUInt32 31)).toInt32)) &&& 252645135)).toUInt32 >>> ((8 : Int32).toUInt32 &&& Int32.toUInt32 31)).toInt32)))]) hx hb dJ6_bitCount_0f7a4_40 rfl hl (by decide) rfl (fun ls hl => ?_)
  refine lv_iload_n hx hb dJ6_bitCount_0f7a4_41 rfl (lv_at hl 0 rfl) ?_
  refine lv_iload_n hx hb dJ6_bitCount_0f7a4_42 rfl (lv_at hl 0 rfl) ?_
  refine lv_bipush (v := 16) hx hb dJ6_bitCount_0f7a4_43 (by decide) ?_
  refine lv_iushr (v := (((((((((x0 - ((((x0).toUInt32 >>> ((1 : Int32).toUInt32 &&& Int32.toUInt32 31)).toInt32) &&& 1431655765)) &&& 858993459) + (((((x0 - ((((x0).toUInt32 >>> ((1 : Int32).toUInt32 &&& Int32.toUInt32 31)).toInt32) &&& 1431655765))).toUInt32 >>> ((2 : Int32).toUInt32 &&& Int32.toUInt32 31)).toInt32) &&& 858993459)) + ((((((x0 - ((((x0).toUInt32 >>> ((1 : Int32).toUInt32 &&& Int32.toUInt32 31)).toInt32) &&& 1431655765)) &&& 858993459) + (((((x0 - ((((x0).toUInt32 >>> ((1 : Int32).toUInt32 &&& Int32.toUInt32 31)).toInt32) &&& 1431655765))).toUInt32 >>> ((2 : Int32).toUInt32 &&& Int32.toUInt32 31)).toInt32) &&& 858993459))).toUInt32 >>> ((4 : Int32).toUInt32 &&& Int32.toUInt32 31)).toInt32)) &&& 252645135) + ((((((((x0 - ((((x0).toUInt32 >>> ((1 : Int32).toUInt32 &&& Int32.toUInt32 31)).toInt32) &&& 1431655765)) &&& 858993459) + (((((x0 - ((((x0).toUInt32 >>> ((1 : Int32).toUInt32 &&& Int32.toUInt32 31)).toInt32) &&& 1431655765))).toUInt32 >>> ((2 : Int32).toUInt32 &&& Int32.toUInt32 31)).toInt32) &&& 858993459)) + ((((((x0 - ((((x0).toUInt32 >>> ((1 : Int32).toUInt32 &&& Int32.toUInt32 31)).toInt32) &&& 1431655765)) &&& 858993459) + (((((x0 - ((((x0).toUInt32 >>> ((1 : Int32).toUInt32 &&& Int32.toUInt32 31)).toInt32) &&& 1431655765))).toUInt32 >>> ((2 : Int32).toUInt32 &&& Int32.toUInt32 31)).toInt32) &&& 858993459))).toUInt32 >>> ((4 : Int32).toUInt32 &&& Int32.toUInt32 31)).toInt32)) &&& 252645135)).toUInt32 >>> ((8 : Int32).toUInt32 &&& Int32.toUInt32 31)).toInt32))).toUInt32 >>> ((16 : Int32).toUInt32 &&& Int32.toUInt32 31)).toInt32)) hx hb dJ6_bitCount_0f7a4_45 rfl ?_
  refine lv_iadd hx hb dJ6_bitCount_0f7a4_46 ?_
  refine lv_istore_n (lv' := [(0, .int (((((((x0 - ((((x0).toUInt32 >>> ((1 : Int32).toUInt32 &&& Int32.toUInt32 31)).toInt32) &&& 1431655765)) &&& 858993459) + (((((x0 - ((((x0).toUInt32 >>> ((1 : Int32).toUInt32 &&& Int32.toUInt32 31)).toInt32) &&& 1431655765))).toUInt32 >>> ((2 : Int32).toUInt32 &&& Int32.toUInt32 31)).toInt32) &&& 858993459)) + ((((((x0 - ((((x0).toUInt32 >>> ((1 : Int32).toUInt32 &&& Int32.toUInt32 31)).toInt32) &&& 1431655765)) &&& 858993459) + (((((x0 - ((((x0).toUInt32 >>> ((1 : Int32).toUInt32 &&& Int32.toUInt32 31)).toInt32) &&& 1431655765))).toUInt32 >>> ((2 : Int32).toUInt32 &&& Int32.toUInt32 31)).toInt32) &&& 858993459))).toUInt32 >>> ((4 : Int32).toUInt32 &&& Int32.toUInt32 31)).toInt32)) &&& 252645135) + ((((((((x0 - ((((x0).toUInt32 >>> ((1 : Int32).toUInt32 &&& Int32.toUInt32 31)).toInt32) &&& 1431655765)) &&& 858993459) + (((((x0 - ((((x0).toUInt32 >>> ((1 : Int32).toUInt32 &&& Int32.toUInt32 31)).toInt32) &&& 1431655765))).toUInt32 >>> ((2 : Int32).toUInt32 &&& Int32.toUInt32 31)).toInt32) &&& 858993459)) + ((((((x0 - ((((x0).toUInt32 >>> ((1 : Int32).toUInt32 &&& Int32.toUInt32 31)).toInt32) &&& 1431655765)) &&& 858993459) + (((((x0 - ((((x0).toUInt32 >>> ((1 : Int32).toUInt32 &&& Int32.toUInt32 31)).toInt32) &&& 1431655765))).toUInt32 >>> ((2 : Int32).toUInt32 &&& Int32.toUInt32 31)).toInt32) &&& 858993459))).toUInt32 >>> ((4 : Int32).toUInt32 &&& Int32.toUInt32 31)).toInt32)) &&& 252645135)).toUInt32 >>> ((8 : Int32).toUInt32 &&& Int32.toUInt32 31)).toInt32)) + (((((((((x0 - ((((x0).toUInt32 >>> ((1 : Int32).toUInt32 &&& Int32.toUInt32 31)).toInt32) &&& 1431655765)) &&& 858993459) + (((((x0 - ((((x0).toUInt32 >>> ((1 : Int32).toUInt32 &&& Int32.toUInt32 31)).toInt32) &&& 1431655765))).toUInt32 >>> ((2 : Int32).toUInt32 &&& Int32.toUInt32 31)).toInt32) &&& 858993459)) + ((((((x0 - ((((x0).toUInt32 >>> ((1 : Int32).toUInt32 &&& Int32.toUInt32 31)).toInt32) &&& 1431655765)) &&& 858993459) + (((((x0 - ((((x0).toUInt32 >>> ((1 : Int32).toUInt32 &&& Int32.toUInt32 31)).toInt32) &&& 1431655765))).toUInt32 >>> ((2 : Int32).toUInt32 &&& Int32.toUInt32 31)).toInt32) &&& 858993459))).toUInt32 >>> ((4 : Int32).toUInt32 &&& Int32.toUInt32 31)).toInt32)) &&& 252645135) + ((((((((x0 - ((((x0).toUInt32 >>> ((1 : Int32).toUInt32 &&& Int32.toUInt32 31)).toInt32) &&& 1431655765)) &&& 858993459) + (((((x0 - ((((x0).toUInt32 >>> ((1 : Int32).toUInt32 &&& Int32.toUInt32 31)).toInt32) &&& 1431655765))).toUInt32 >>> ((2 : Int32).toUInt32 &&& Int32.toUInt32 31)).toInt32) &&& 858993459)) + ((((((x0 - ((((x0).toUInt32 >>> ((1 : Int32).toUInt32 &&& Int32.toUInt32 31)).toInt32) &&& 1431655765)) &&& 858993459) + (((((x0 - ((((x0).toUInt32 >>> ((1 : Int32).toUInt32 &&& Int32.toUInt32 31)).toInt32) &&& 1431655765))).toUInt32 >>> ((2 : Int32).toUInt32 &&& Int32.toUInt32 31)).toInt32) &&& 858993459))).toUInt32 >>> ((4 : Int32).toUInt32 &&& Int32.toUInt32 31)).toInt32)) &&& 252645135)).toUInt32 >>> ((8 : Int32).toUInt32 &&& Int32.toUInt32 31)).toInt32))).toUInt32 >>> ((16 : Int32).toUInt32 &&& Int32.toUInt32 31)).toInt32)))]) hx hb dJ6_bitCount_0f7a4_47 rfl hl (by decide) rfl (fun ls hl => ?_)
  refine lv_iload_n hx hb dJ6_bitCount_0f7a4_48 rfl (lv_at hl 0 rfl) ?_
  refine lv_bipush (v := 63) hx hb dJ6_bitCount_0f7a4_49 (by decide) ?_
  refine lv_iand hx hb dJ6_bitCount_0f7a4_51 ?_
  have hF := Option.some.inj hF
  subst hF
  rw [hQ]
  exact W.iret hx hb hr (fun t ht _ => ⟨rfl, ht⟩) (fun _ h => by cases h) dJ6_bitCount_0f7a4_52

abbrev rmJ0_coder_7d493 : Room := { frames := 0, cells := 0, slots := 0, locals := 0 }
set_option maxRecDepth 100000 in
set_option maxHeartbeats 400000 in
theorem c_J0_coder_7d493 (l : Launch) (E : mE) (x : Nat) (t : Int32) (hF : fn_J0_coder_7d493 x = some t) : Met l yJ0_coder_7d493 wsJ0_coder_7d493 rmJ0_coder_7d493 (mPp E [.ref (m_adK E x)] ([] : va_W)) (mSp (some (.int t))) 0 0 (fun _ => False) := by
  refine mOfP (cc := cJ0_coder_7d493) (maxL := 1) (ret := (some .byte)) (by decide) rfl (Nat.le_of_ble_eq_true rfl) ?_
  intro p e_ s m args below meth c Q hQ CC hr hlocks hP hKN hGl ls hl
  have hS : va_S (fun _ => False) s.heap s.heap [] := va_S.rf
  have hK := hKN.1
  have hx := CC.1
  have hb := CC.2.1
  have hml := CC.2.2.1
  have hown : s.vm.findClass RJ0 = some m.cls := CC.2.2.2.1
  have hts := CC.2.2.2.2
  have hl : lv_has ls 1 [(0, .ref (m_adK E x))] := hl
  have k0 := hts (.fieldLink RJ0 38 "java/lang/String" "COMPACT_STRINGS" "Z") (by decide +kernel)
  have k1 := hts (.fieldLink RJ0 15 "java/lang/String" "coder" "B") (by decide +kernel)
  unfold fn_J0_coder_7d493 at hF
  refine va_gets hx hb hGl.2.2.2.2.2.1 hS hown k0 (fun _ h9 => h9) dJ0_coder_7d493_0 ?_
  refine W.eq (g2 := F0 m 3 ls [.int 1]) rfl ?_
  refine lv_if_eq (tgt := 13) hx hb dJ0_coder_7d493_3 (by decide) (fun c1 => ?_) (fun c1 => ?_)
  · have hF := m_pos c1 hF
    refine lv_iconst (v := 1) hx hb dJ0_coder_7d493_13 (by decide) ?_
    have hF := Option.some.inj hF
    subst hF
    rw [hQ]
    exact W.zret hx hb hr rfl (fun t ht _ => ⟨rfl, ht⟩) (fun _ h => by cases h) dJ0_coder_7d493_14
  · have hF := m_neg c1 hF
    refine lv_aload_n hx hb dJ0_coder_7d493_6 rfl (lv_at hl 0 rfl) ?_
    obtain ⟨h2, hF⟩ := m_chk hF
    refine vk_getf hx hb (hGl.2.2.2.2.1.1 x h2).2.1 hS hown k1 (fun _ h9 => h9) dJ0_coder_7d493_7 ?_
    refine lv_goto (tgt := 14) hx hb dJ0_coder_7d493_10 (by decide) ?_
    have hF := Option.some.inj hF
    subst hF
    rw [hQ]
    exact W.zret hx hb hr rfl (fun t ht _ => ⟨rfl, ht⟩) (fun _ h => by cases h) dJ0_coder_7d493_14

abbrev rmJ0_isLatin1_aae02 : Room := { frames := 0, cells := 0, slots := 0, locals := 0 }
set_option maxRecDepth 100000 in
set_option maxHeartbeats 400000 in
theorem c_J0_isLatin1_aae02 (l : Launch) (E : mE) (x : Nat) (t : Int32) (hF : fn_J0_isLatin1_aae02 x = some t) : Met l yJ0_isLatin1_aae02 wsJ0_isLatin1_aae02 rmJ0_isLatin1_aae02 (mPp E [.ref (m_adK E x)] ([] : va_W)) (mSp (some (.int t))) 0 0 (fun _ => False) := by
  refine mOfP (cc := cJ0_isLatin1_aae02) (maxL := 1) (ret := (some .boolean)) (by decide) rfl (Nat.le_of_ble_eq_true rfl) ?_
  intro p e_ s m args below meth c Q hQ CC hr hlocks hP hKN hGl ls hl
  have hS : va_S (fun _ => False) s.heap s.heap [] := va_S.rf
  have hK := hKN.1
  have hx := CC.1
  have hb := CC.2.1
  have hml := CC.2.2.1
  have hown : s.vm.findClass RJ0 = some m.cls := CC.2.2.2.1
  have hts := CC.2.2.2.2
  have hl : lv_has ls 1 [(0, .ref (m_adK E x))] := hl
  have k0 := hts (.fieldLink RJ0 38 "java/lang/String" "COMPACT_STRINGS" "Z") (by decide +kernel)
  have k1 := hts (.fieldLink RJ0 15 "java/lang/String" "coder" "B") (by decide +kernel)
  unfold fn_J0_isLatin1_aae02 at hF
  refine va_gets hx hb hGl.2.2.2.2.2.1 hS hown k0 (fun _ h9 => h9) dJ0_isLatin1_aae02_0 ?_
  refine W.eq (g2 := F0 m 3 ls [.int 1]) rfl ?_
  refine lv_if_eq (tgt := 17) hx hb dJ0_isLatin1_aae02_3 (by decide) (fun c1 => ?_) (fun c1 => ?_)
  · have hF := m_pos c1 hF
    refine lv_iconst (v := 0) hx hb dJ0_isLatin1_aae02_17 (by decide) ?_
    have hF := Option.some.inj hF
    subst hF
    rw [hQ]
    exact W.zret hx hb hr rfl (fun t ht _ => ⟨rfl, ht⟩) (fun _ h => by cases h) dJ0_isLatin1_aae02_18
  · have hF := m_neg c1 hF
    refine lv_aload_n hx hb dJ0_isLatin1_aae02_6 rfl (lv_at hl 0 rfl) ?_
    obtain ⟨h2, hF⟩ := m_chk hF
    refine vk_getf hx hb (hGl.2.2.2.2.1.1 x h2).2.1 hS hown k1 (fun _ h9 => h9) dJ0_isLatin1_aae02_7 ?_
    refine lv_if_ne (tgt := 17) hx hb dJ0_isLatin1_aae02_10 (by decide) (fun c3 => ?_) (fun c3 => ?_)
    · have hF := m_pos c3 hF
      refine lv_iconst (v := 0) hx hb dJ0_isLatin1_aae02_17 (by decide) ?_
      have hF := Option.some.inj hF
      subst hF
      rw [hQ]
      exact W.zret hx hb hr rfl (fun t ht _ => ⟨rfl, ht⟩) (fun _ h => by cases h) dJ0_isLatin1_aae02_18
    · have hF := m_neg (fun n9 => n9 c3) hF
      refine lv_iconst (v := 1) hx hb dJ0_isLatin1_aae02_13 (by decide) ?_
      refine lv_goto (tgt := 18) hx hb dJ0_isLatin1_aae02_14 (by decide) ?_
      have hF := Option.some.inj hF
      subst hF
      rw [hQ]
      exact W.zret hx hb hr rfl (fun t ht _ => ⟨rfl, ht⟩) (fun _ h => by cases h) dJ0_isLatin1_aae02_18

abbrev rmJ0_length_8abf5 : Room := { frames := 1, cells := 0, slots := 0, locals := 20 }
set_option maxRecDepth 100000 in
set_option maxHeartbeats 400000 in
theorem c_J0_length_8abf5 (l : Launch) (E : mE) (x : Nat) (t : Int32) (hF : fn_J0_length_8abf5 x = some t) : Met l yJ0_length_8abf5 wsJ0_length_8abf5 rmJ0_length_8abf5 (mPp E [.ref (m_adK E x)] ([] : va_W)) (mSp (some (.int t))) 0 0 (fun _ => False) := by
  refine mOfP (cc := cJ0_length_8abf5) (maxL := 1) (ret := (some .int)) (by decide) rfl (Nat.le_of_ble_eq_true rfl) ?_
  intro p e_ s m args below meth c Q hQ CC hr hlocks hP hKN hGl ls hl
  have hS : va_S (fun _ => False) s.heap s.heap [] := va_S.rf
  have hK := hKN.1
  have hx := CC.1
  have hb := CC.2.1
  have hml := CC.2.2.1
  have hown : s.vm.findClass RJ0 = some m.cls := CC.2.2.2.1
  have hts := CC.2.2.2.2
  have hl : lv_has ls 1 [(0, .ref (m_adK E x))] := hl
  have k0 := hts (.fieldLink RJ0 9 "java/lang/String" "value" "[B") (by decide +kernel)
  unfold fn_J0_length_8abf5 at hF
  refine lv_aload_n hx hb dJ0_length_8abf5_0 rfl (lv_at hl 0 rfl) ?_
  obtain ⟨h1, hF⟩ := m_chk hF
  refine vk_getf hx hb (hGl.2.2.2.2.1.1 x h1).2.2.1 hS hown k0 (fun _ h9 => h9) dJ0_length_8abf5_1 ?_
  obtain ⟨h2, hF⟩ := m_chk hF
  refine va_tlen (v := (Int32.ofNat (mSL.getD x 0))) hx hb (hGl.2.2.2.2.1.1 x h2).2.2.2 hS rfl dJ0_length_8abf5_4 ?_
  refine lv_aload_n hx hb dJ0_length_8abf5_5 rfl (lv_at hl 0 rfl) ?_
  obtain ⟨h4, hF⟩ := m_chk hF
  obtain ⟨t3, ht3, hF⟩ := m_bnd hF
  refine mVPs (n := 0) (rest := [.int (Int32.ofNat (mSL.getD x 0))]) (As := []) CC hKN hGl hS (c_J0_coder_7d493 l E x t3 ht3) gJ0_length_8abf5_J0_coder_7d493 rfl ⟨rfl, rfl⟩ (by decide +kernel) ⟨Nat.le_of_ble_eq_true rfl, Nat.le_of_ble_eq_true rfl⟩ m_nil (vk_recv hGl.2.2.2.2.1 h4 hS) rfl hl.1 rfl (Nat.le_of_ble_eq_true rfl) ⟨Nat.zero_le _, Nat.zero_le _⟩ dJ0_length_8abf5_6 ?_
  refine W.eq (g2 := F0 m 9 ls [.int t3, .int (Int32.ofNat (mSL.getD x 0))]) rfl ?_
  refine lv_ishr hx hb dJ0_length_8abf5_9 ?_
  have hF := Option.some.inj hF
  subst hF
  rw [hQ]
  exact W.iret hx hb hr (fun t ht _ => ⟨rfl, ht⟩) (fun _ h => by cases h) dJ0_length_8abf5_10

abbrev rmJ3_checkIndex_8e157 : Room := { frames := 0, cells := 0, slots := 0, locals := 0 }
set_option maxRecDepth 100000 in
set_option maxHeartbeats 400000 in
theorem c_J3_checkIndexR (l : Launch) (E : mE) (x0 : Int32) (x1 : Int32) (x2 : Nat) (t : Int32) (hF : fn_J3_checkIndex_8e157 x0 x1 = some t) : Met l yJ3_checkIndex_8e157 wsJ3_checkIndex_8e157 rmJ3_checkIndex_8e157 (mPp E [.int x0, .int x1, .ref x2] ([] : va_W)) (mSp (some (.int t))) 0 0 (fun _ => False) := by
  refine mOfP (cc := cJ3_checkIndex_8e157) (maxL := 3) (ret := (some .int)) (by decide) rfl (Nat.le_of_ble_eq_true rfl) ?_
  intro p e_ s m args below meth c Q hQ CC hr hlocks hP hKN hGl ls hl
  have hS : va_S (fun _ => False) s.heap s.heap [] := va_S.rf
  have hK := hKN.1
  have hx := CC.1
  have hb := CC.2.1
  have hml := CC.2.2.1
  have hown : s.vm.findClass RJ3 = some m.cls := CC.2.2.2.1
  have hts := CC.2.2.2.2
  have hl : lv_has ls 3 [(0, .int x0), (1, .int x1), (2, .ref x2)] := hl
  unfold fn_J3_checkIndex_8e157 at hF
  refine lv_iload_n hx hb dJ3_checkIndex_8e157_0 rfl (lv_at hl 0 rfl) ?_
  obtain ⟨j9, hjd9, hF⟩ := m_jp hF
  have hj9 : ∀ (ls : Array Slot), j9 () = some t → lv_has ls 3 [(0, .int x0), (1, .int x1), (2, .ref x2)] → W p l e_ rmJ3_checkIndex_8e157 s m args below meth c s.heap [] 0 0 Q (F0 m 9 ls []) := by
    intro ls hF hl
    rw [hjd9] at hF
    refine lv_aload_n hx hb dJ3_checkIndex_8e157_9 rfl (lv_at hl 2 rfl) ?_
    refine lv_iload_n hx hb dJ3_checkIndex_8e157_10 rfl (lv_at hl 0 rfl) ?_
    refine lv_iload_n hx hb dJ3_checkIndex_8e157_11 rfl (lv_at hl 1 rfl) ?_
    exact nomatch (show (none : Option Int32) = some t from hF)
  clear hjd9
  refine lv_if_lt (tgt := 9) hx hb dJ3_checkIndex_8e157_1 (by decide) (fun c1 => ?_) (fun c1 => ?_)
  · have hF := m_pos c1 hF
    exact hj9 ls hF (lv_sub hl [0, 1, 2] rfl)
  · have hF := m_neg c1 hF
    refine lv_iload_n hx hb dJ3_checkIndex_8e157_4 rfl (lv_at hl 0 rfl) ?_
    refine lv_iload_n hx hb dJ3_checkIndex_8e157_5 rfl (lv_at hl 1 rfl) ?_
    refine lv_icmp_lt (tgt := 16) hx hb dJ3_checkIndex_8e157_6 (by decide) (fun c2 => ?_) (fun c2 => ?_)
    · have hF := m_pos c2 hF
      refine lv_iload_n hx hb dJ3_checkIndex_8e157_16 rfl (lv_at hl 0 rfl) ?_
      have hF := Option.some.inj hF
      subst hF
      rw [hQ]
      exact W.iret hx hb hr (fun t ht _ => ⟨rfl, ht⟩) (fun _ h => by cases h) dJ3_checkIndex_8e157_17
    · have hF := m_neg c2 hF
      exact hj9 ls hF (lv_sub hl [0, 1, 2] rfl)
set_option maxRecDepth 100000 in
set_option maxHeartbeats 400000 in
theorem c_J3_checkIndexN (l : Launch) (E : mE) (x0 : Int32) (x1 : Int32) (t : Int32) (hF : fn_J3_checkIndex_8e157 x0 x1 = some t) : Met l yJ3_checkIndex_8e157 wsJ3_checkIndex_8e157 rmJ3_checkIndex_8e157 (mPp E [.int x0, .int x1, .null] ([] : va_W)) (mSp (some (.int t))) 0 0 (fun _ => False) := by
  refine mOfP (cc := cJ3_checkIndex_8e157) (maxL := 3) (ret := (some .int)) (by decide) rfl (Nat.le_of_ble_eq_true rfl) ?_
  intro p e_ s m args below meth c Q hQ CC hr hlocks hP hKN hGl ls hl
  have hS : va_S (fun _ => False) s.heap s.heap [] := va_S.rf
  have hK := hKN.1
  have hx := CC.1
  have hb := CC.2.1
  have hml := CC.2.2.1
  have hown : s.vm.findClass RJ3 = some m.cls := CC.2.2.2.1
  have hts := CC.2.2.2.2
  have hl : lv_has ls 3 [(0, .int x0), (1, .int x1), (2, .null)] := hl
  unfold fn_J3_checkIndex_8e157 at hF
  refine lv_iload_n hx hb dJ3_checkIndex_8e157_0 rfl (lv_at hl 0 rfl) ?_
  obtain ⟨j9, hjd9, hF⟩ := m_jp hF
  have hj9 : ∀ (ls : Array Slot), j9 () = some t → lv_has ls 3 [(0, .int x0), (1, .int x1), (2, .null)] → W p l e_ rmJ3_checkIndex_8e157 s m args below meth c s.heap [] 0 0 Q (F0 m 9 ls []) := by
    intro ls hF hl
    rw [hjd9] at hF
    refine lv_aload_nN hx hb dJ3_checkIndex_8e157_9 rfl (lv_at hl 2 rfl) ?_
    refine lv_iload_n hx hb dJ3_checkIndex_8e157_10 rfl (lv_at hl 0 rfl) ?_
    refine lv_iload_n hx hb dJ3_checkIndex_8e157_11 rfl (lv_at hl 1 rfl) ?_
    exact nomatch (show (none : Option Int32) = some t from hF)
  clear hjd9
  refine lv_if_lt (tgt := 9) hx hb dJ3_checkIndex_8e157_1 (by decide) (fun c1 => ?_) (fun c1 => ?_)
  · have hF := m_pos c1 hF
    exact hj9 ls hF (lv_sub hl [0, 1, 2] rfl)
  · have hF := m_neg c1 hF
    refine lv_iload_n hx hb dJ3_checkIndex_8e157_4 rfl (lv_at hl 0 rfl) ?_
    refine lv_iload_n hx hb dJ3_checkIndex_8e157_5 rfl (lv_at hl 1 rfl) ?_
    refine lv_icmp_lt (tgt := 16) hx hb dJ3_checkIndex_8e157_6 (by decide) (fun c2 => ?_) (fun c2 => ?_)
    · have hF := m_pos c2 hF
      refine lv_iload_n hx hb dJ3_checkIndex_8e157_16 rfl (lv_at hl 0 rfl) ?_
      have hF := Option.some.inj hF
      subst hF
      rw [hQ]
      exact W.iret hx hb hr (fun t ht _ => ⟨rfl, ht⟩) (fun _ h => by cases h) dJ3_checkIndex_8e157_17
    · have hF := m_neg c2 hF
      exact hj9 ls hF (lv_sub hl [0, 1, 2] rfl)
theorem c_J3_checkIndex_8e157 (l : Launch) (E : mE) (x0 : Int32) (x1 : Int32) (x2 : Option Nat) (t : Int32) (hF : fn_J3_checkIndex_8e157 x0 x1 = some t) : Met l yJ3_checkIndex_8e157 wsJ3_checkIndex_8e157 rmJ3_checkIndex_8e157 (mPp E [.int x0, .int x1, va_rf x2] ([] : va_W)) (mSp (some (.int t))) 0 0 (fun _ => False) := by
  cases x2 with
  | none => exact c_J3_checkIndexN l E x0 x1 t hF
  | some x2 => exact c_J3_checkIndexR l E x0 x1 x2 t hF

abbrev rmJ0_checkIndex_df160 : Room := { frames := 1, cells := 0, slots := 0, locals := 22 }
set_option maxRecDepth 100000 in
set_option maxHeartbeats 400000 in
theorem c_J0_checkIndex_df160 (l : Launch) (E : mE) (x0 : Int32) (x1 : Int32) (t : Unit) (hF : fn_J0_checkIndex_df160 x0 x1 = some t) : Met l yJ0_checkIndex_df160 wsJ0_checkIndex_df160 rmJ0_checkIndex_df160 (mPp E [.int x0, .int x1] ([] : va_W)) (mSp (none)) 0 0 (fun _ => False) := by
  refine mOfP (cc := cJ0_checkIndex_df160) (maxL := 2) (ret := none) (by decide) rfl (Nat.le_of_ble_eq_true rfl) ?_
  intro p e_ s m args below meth c Q hQ CC hr hlocks hP hKN hGl ls hl
  have hS : va_S (fun _ => False) s.heap s.heap [] := va_S.rf
  have hK := hKN.1
  have hx := CC.1
  have hb := CC.2.1
  have hml := CC.2.2.1
  have hown : s.vm.findClass RJ0 = some m.cls := CC.2.2.2.1
  have hts := CC.2.2.2.2
  have hl : lv_has ls 2 [(0, .int x0), (1, .int x1)] := hl
  have k0 := hts (.fieldLink RJ0 1053 "jdk/internal/util/Preconditions" "SIOOBE_FORMATTER" "Ljava/util/function/BiFunction;") (by decide +kernel)
  unfold fn_J0_checkIndex_df160 at hF
  refine lv_iload_n hx hb dJ0_checkIndex_df160_0 rfl (lv_at hl 0 rfl) ?_
  refine lv_iload_n hx hb dJ0_checkIndex_df160_1 rfl (lv_at hl 1 rfl) ?_
  refine va_gets hx hb hGl.2.2.2.2.2.2 hS hown k0 (fun _ h9 => h9) dJ0_checkIndex_df160_2 ?_
  refine W.eq (g2 := F0 m 5 ls [va_rf (m_fm E), .int x1, .int x0]) rfl ?_
  obtain ⟨t1, ht1, hF⟩ := m_bnd hF
  refine mSP (n := 3) (rest := []) (As := [.int x0, .int x1, va_rf (m_fm E)]) CC hKN hGl hS (c_J3_checkIndex_8e157 l E x0 x1 (m_fm E) t1 ht1) gJ0_checkIndex_df160_J3_checkIndex_8e157 rfl ⟨rfl, rfl⟩ (by decide +kernel) ⟨Nat.le_of_ble_eq_true rfl, Nat.le_of_ble_eq_true rfl⟩ m_nil rfl hl.1 rfl (Nat.le_of_ble_eq_true rfl) ⟨Nat.zero_le _, Nat.zero_le _⟩ dJ0_checkIndex_df160_5 ?_
  refine W.eq (g2 := F0 m 8 ls [.int t1]) rfl ?_
  refine lv_pop hx hb dJ0_checkIndex_df160_8 rfl ?_
  have hF := Option.some.inj hF
  subst hF
  rw [hQ]
  exact W.vret hx hb hr (fun t ht _ => ⟨rfl, ht⟩) (fun _ h => by cases h) dJ0_checkIndex_df160_9

abbrev rmJ1_charAt_3b067 : Room := { frames := 2, cells := 0, slots := 0, locals := 43 }
set_option maxRecDepth 100000 in
set_option maxHeartbeats 400000 in
theorem c_J1_charAt_3b067 (l : Launch) (E : mE) (x0 : Nat) (x1 : Int32) (t : Int32) (hF : fn_J1_charAt_3b067 x0 x1 = some t) : Met l yJ1_charAt_3b067 wsJ1_charAt_3b067 rmJ1_charAt_3b067 (mPp E [.ref (m_adV E x0), .int x1] ([] : va_W)) (mSp (some (.int t))) 0 0 (fun _ => False) := by
  refine mOfP (cc := cJ1_charAt_3b067) (maxL := 2) (ret := (some .char)) (by decide) rfl (Nat.le_of_ble_eq_true rfl) ?_
  intro p e_ s m args below meth c Q hQ CC hr hlocks hP hKN hGl ls hl
  have hS : va_S (fun _ => False) s.heap s.heap [] := va_S.rf
  have hK := hKN.1
  have hx := CC.1
  have hb := CC.2.1
  have hml := CC.2.2.1
  have hown : s.vm.findClass RJ1 = some m.cls := CC.2.2.2.1
  have hts := CC.2.2.2.2
  have hl : lv_has ls 2 [(0, .ref (m_adV E x0)), (1, .int x1)] := hl
  unfold fn_J1_charAt_3b067 at hF
  refine lv_iload_n hx hb dJ1_charAt_3b067_0 rfl (lv_at hl 1 rfl) ?_
  refine lv_aload_n hx hb dJ1_charAt_3b067_1 rfl (lv_at hl 0 rfl) ?_
  obtain ⟨h1, hF⟩ := m_chk hF
  refine va_tlen (v := (Int32.ofNat (mSL.getD x0 0))) hx hb (hGl.2.2.2.2.1.1 x0 h1).2.2.2 hS rfl dJ1_charAt_3b067_2 ?_
  obtain ⟨t2, ht2, hF⟩ := m_bnd hF
  refine mSP (n := 2) (rest := []) (As := [.int x1, .int (Int32.ofNat (mSL.getD x0 0))]) CC hKN hGl hS (c_J0_checkIndex_df160 l E x1 (Int32.ofNat (mSL.getD x0 0)) t2 ht2) gJ1_charAt_3b067_J0_checkIndex_df160 rfl ⟨rfl, rfl⟩ (by decide +kernel) ⟨Nat.le_of_ble_eq_true rfl, Nat.le_of_ble_eq_true rfl⟩ m_nil rfl hl.1 rfl (Nat.le_of_ble_eq_true rfl) ⟨Nat.zero_le _, Nat.zero_le _⟩ dJ1_charAt_3b067_3 ?_
  refine W.eq (g2 := F0 m 6 ls []) rfl ?_
  refine lv_aload_n hx hb dJ1_charAt_3b067_6 rfl (lv_at hl 0 rfl) ?_
  refine lv_iload_n hx hb dJ1_charAt_3b067_7 rfl (lv_at hl 1 rfl) ?_
  obtain ⟨h3, hF⟩ := m_chk hF
  obtain ⟨h4, hF⟩ := m_chk hF
  refine va_tb (v := .int ((mSB.getD x0 []).getD (x1).toNatClampNeg 0)) hx hb (hGl.2.2.2.2.1.1 x0 h3).2.2.2 hS (mIn_ok h4) rfl dJ1_charAt_3b067_8 ?_
  refine lv_sipush (v := 255) hx hb dJ1_charAt_3b067_9 (by decide) ?_
  refine lv_iand hx hb dJ1_charAt_3b067_12 ?_
  refine lv_i2c (v := (((((mSB.getD x0 []).getD (x1).toNatClampNeg 0) &&& 255)).toUInt32 % 65536).toInt32) hx hb dJ1_charAt_3b067_13 rfl ?_
  obtain ⟨h5, hF⟩ := m_chk hF
  have hF := Option.some.inj hF
  subst hF
  rw [hQ]
  exact W.zret hx hb hr (m_narC h5) (fun t ht _ => ⟨rfl, ht⟩) (fun _ h => by cases h) dJ1_charAt_3b067_14

abbrev rmJ0_charAt_5068e : Room := { frames := 3, cells := 0, slots := 0, locals := 64 }
set_option maxRecDepth 100000 in
set_option maxHeartbeats 400000 in
theorem c_J0_charAt_5068e (l : Launch) (E : mE) (x : Nat) (x0 : Int32) (t : Int32) (hF : fn_J0_charAt_5068e x x0 = some t) : Met l yJ0_charAt_5068e wsJ0_charAt_5068e rmJ0_charAt_5068e (mPp E [.ref (m_adK E x), .int x0] ([] : va_W)) (mSp (some (.int t))) 0 0 (fun _ => False) := by
  refine mOfP (cc := cJ0_charAt_5068e) (maxL := 2) (ret := (some .char)) (by decide) rfl (Nat.le_of_ble_eq_true rfl) ?_
  intro p e_ s m args below meth c Q hQ CC hr hlocks hP hKN hGl ls hl
  have hS : va_S (fun _ => False) s.heap s.heap [] := va_S.rf
  have hK := hKN.1
  have hx := CC.1
  have hb := CC.2.1
  have hml := CC.2.2.1
  have hown : s.vm.findClass RJ0 = some m.cls := CC.2.2.2.1
  have hts := CC.2.2.2.2
  have hl : lv_has ls 2 [(0, .ref (m_adK E x)), (1, .int x0)] := hl
  have k0 := hts (.fieldLink RJ0 9 "java/lang/String" "value" "[B") (by decide +kernel)
  unfold fn_J0_charAt_5068e at hF
  refine lv_aload_n hx hb dJ0_charAt_5068e_0 rfl (lv_at hl 0 rfl) ?_
  obtain ⟨h2, hF⟩ := m_chk hF
  obtain ⟨t1, ht1, hF⟩ := m_bnd hF
  refine mVPs (n := 0) (rest := []) (As := []) CC hKN hGl hS (c_J0_isLatin1_aae02 l E x t1 ht1) gJ0_charAt_5068e_J0_isLatin1_aae02 rfl ⟨rfl, rfl⟩ (by decide +kernel) ⟨Nat.le_of_ble_eq_true rfl, Nat.le_of_ble_eq_true rfl⟩ m_nil (vk_recv hGl.2.2.2.2.1 h2 hS) rfl hl.1 rfl (Nat.le_of_ble_eq_true rfl) ⟨Nat.zero_le _, Nat.zero_le _⟩ dJ0_charAt_5068e_1 ?_
  refine W.eq (g2 := F0 m 4 ls [.int t1]) rfl ?_
  refine lv_if_eq (tgt := 16) hx hb dJ0_charAt_5068e_4 (by decide) (fun c3 => ?_) (fun c3 => ?_)
  · have hF := m_pos c3 hF
    refine lv_aload_n hx hb dJ0_charAt_5068e_16 rfl (lv_at hl 0 rfl) ?_
    obtain ⟨h4, hF⟩ := m_chk hF
    refine vk_getf hx hb (hGl.2.2.2.2.1.1 x h4).2.2.1 hS hown k0 (fun _ h9 => h9) dJ0_charAt_5068e_17 ?_
    refine lv_iload_n hx hb dJ0_charAt_5068e_20 rfl (lv_at hl 1 rfl) ?_
    exact nomatch (show (none : Option Int32) = some t from hF)
  · have hF := m_neg c3 hF
    refine lv_aload_n hx hb dJ0_charAt_5068e_7 rfl (lv_at hl 0 rfl) ?_
    obtain ⟨h5, hF⟩ := m_chk hF
    refine vk_getf hx hb (hGl.2.2.2.2.1.1 x h5).2.2.1 hS hown k0 (fun _ h9 => h9) dJ0_charAt_5068e_8 ?_
    refine lv_iload_n hx hb dJ0_charAt_5068e_11 rfl (lv_at hl 1 rfl) ?_
    obtain ⟨t6, ht6, hF⟩ := m_bnd hF
    refine mSP (n := 2) (rest := []) (As := [.ref (m_adV E x), .int x0]) CC hKN hGl hS (c_J1_charAt_3b067 l E x x0 t6 ht6) gJ0_charAt_5068e_J1_charAt_3b067 rfl ⟨rfl, rfl⟩ (by decide +kernel) ⟨Nat.le_of_ble_eq_true rfl, Nat.le_of_ble_eq_true rfl⟩ m_nil rfl hl.1 rfl (Nat.le_of_ble_eq_true rfl) ⟨Nat.zero_le _, Nat.zero_le _⟩ dJ0_charAt_5068e_12 ?_
    refine W.eq (g2 := F0 m 15 ls [.int t6]) rfl ?_
    obtain ⟨h7, hF⟩ := m_chk hF
    have hF := Option.some.inj hF
    subst hF
    rw [hQ]
    exact W.zret hx hb hr (m_narC h7) (fun t ht _ => ⟨rfl, ht⟩) (fun _ h => by cases h) dJ0_charAt_5068e_15

abbrev rmJ1_canEncode_9a6ad : Room := { frames := 0, cells := 0, slots := 0, locals := 0 }
set_option maxRecDepth 100000 in
set_option maxHeartbeats 400000 in
theorem c_J1_canEncode_9a6ad (l : Launch) (E : mE) (x0 : Int32) (t : Int32) (hF : fn_J1_canEncode_9a6ad x0 = some t) : Met l yJ1_canEncode_9a6ad wsJ1_canEncode_9a6ad rmJ1_canEncode_9a6ad (mPp E [.int x0] ([] : va_W)) (mSp (some (.int t))) 0 0 (fun _ => False) := by
  refine mOfP (cc := cJ1_canEncode_9a6ad) (maxL := 1) (ret := (some .boolean)) (by decide) rfl (Nat.le_of_ble_eq_true rfl) ?_
  intro p e_ s m args below meth c Q hQ CC hr hlocks hP hKN hGl ls hl
  have hS : va_S (fun _ => False) s.heap s.heap [] := va_S.rf
  have hK := hKN.1
  have hx := CC.1
  have hb := CC.2.1
  have hml := CC.2.2.1
  have hown : s.vm.findClass RJ1 = some m.cls := CC.2.2.2.1
  have hts := CC.2.2.2.2
  have hl : lv_has ls 1 [(0, .int x0)] := hl
  unfold fn_J1_canEncode_9a6ad at hF
  refine lv_iload_n hx hb dJ1_canEncode_9a6ad_0 rfl (lv_at hl 0 rfl) ?_
  refine lv_if_lt (tgt := 15) hx hb dJ1_canEncode_9a6ad_1 (by decide) (fun c1 => ?_) (fun c1 => ?_)
  · have hF := m_pos c1 hF
    refine lv_iconst (v := 0) hx hb dJ1_canEncode_9a6ad_15 (by decide) ?_
    have hF := Option.some.inj hF
    subst hF
    rw [hQ]
    exact W.zret hx hb hr rfl (fun t ht _ => ⟨rfl, ht⟩) (fun _ h => by cases h) dJ1_canEncode_9a6ad_16
  · have hF := m_neg c1 hF
    refine lv_iload_n hx hb dJ1_canEncode_9a6ad_4 rfl (lv_at hl 0 rfl) ?_
    refine lv_sipush (v := 255) hx hb dJ1_canEncode_9a6ad_5 (by decide) ?_
    refine lv_icmp_gt (tgt := 15) hx hb dJ1_canEncode_9a6ad_8 (by decide) (fun c2 => ?_) (fun c2 => ?_)
    · have hF := m_pos c2 hF
      refine lv_iconst (v := 0) hx hb dJ1_canEncode_9a6ad_15 (by decide) ?_
      have hF := Option.some.inj hF
      subst hF
      rw [hQ]
      exact W.zret hx hb hr rfl (fun t ht _ => ⟨rfl, ht⟩) (fun _ h => by cases h) dJ1_canEncode_9a6ad_16
    · have hF := m_neg c2 hF
      refine lv_iconst (v := 1) hx hb dJ1_canEncode_9a6ad_11 (by decide) ?_
      refine lv_goto (tgt := 16) hx hb dJ1_canEncode_9a6ad_12 (by decide) ?_
      have hF := Option.some.inj hF
      subst hF
      rw [hQ]
      exact W.zret hx hb hr rfl (fun t ht _ => ⟨rfl, ht⟩) (fun _ h => by cases h) dJ1_canEncode_9a6ad_16

abbrev rmJ1_indexOfChar_4cfef : Room := { frames := 0, cells := 0, slots := 0, locals := 0 }
set_option maxRecDepth 100000 in
set_option maxHeartbeats 400000 in
theorem c_J1_indexOfChar_4cfef (l : Launch) (E : mE) (x0 : Nat) (x1 : Int32) (x2 : Int32) (x3 : Int32) (t : Int32) (hF : fn_J1_indexOfChar_4cfef x0 x1 x2 x3 = some t) : Met l yJ1_indexOfChar_4cfef wsJ1_indexOfChar_4cfef rmJ1_indexOfChar_4cfef (mPp E [.ref (m_adV E x0), .int x1, .int x2, .int x3] ([] : va_W)) (mSp (some (.int t))) 0 0 (fun _ => False) := by
  refine mOfP (cc := cJ1_indexOfChar_4cfef) (maxL := 6) (ret := (some .int)) (by decide) rfl (Nat.le_of_ble_eq_true rfl) ?_
  intro p e_ s m args below meth c Q hQ CC hr hlocks hP hKN hGl ls hl
  have hS : va_S (fun _ => False) s.heap s.heap [] := va_S.rf
  have hK := hKN.1
  have hx := CC.1
  have hb := CC.2.1
  have hml := CC.2.2.1
  have hown : s.vm.findClass RJ1 = some m.cls := CC.2.2.2.1
  have hts := CC.2.2.2.2
  have hl : lv_has ls 6 [(0, .ref (m_adV E x0)), (1, .int x1), (2, .int x2), (3, .int x3)] := hl
  unfold fn_J1_indexOfChar_4cfef at hF
  refine lv_iload_n hx hb dJ1_indexOfChar_4cfef_0 rfl (lv_at hl 1 rfl) ?_
  refine lv_i2b (v := (x1).toInt8.toInt32) hx hb dJ1_indexOfChar_4cfef_1 rfl ?_
  refine lv_istore (lv' := [(4, .int (x1).toInt8.toInt32), (0, .ref (m_adV E x0)), (1, .int x1), (2, .int x2), (3, .int x3)]) hx hb dJ1_indexOfChar_4cfef_2 hl (by decide) rfl (fun ls hl => ?_)
  refine lv_iload_n hx hb dJ1_indexOfChar_4cfef_4 rfl (lv_at hl 3 rfl) ?_
  refine lv_istore (lv' := [(5, .int x2), (4, .int (x1).toInt8.toInt32), (0, .ref (m_adV E x0)), (1, .int x1), (2, .int x2), (3, .int x3)]) hx hb dJ1_indexOfChar_4cfef_5 hl (by decide) rfl (fun ls hl => ?_)
  have hL7 : ∀ (n : Nat) (y5_7 : Int32) (ls : Array Slot), lp_J1_indexOfChar_4cfef_7 x0 x1 x3 n y5_7 = some t → lv_has ls 6 [(0, .ref (m_adV E x0)), (3, .int x3), (4, .int (x1).toInt8.toInt32), (5, .int y5_7)] → W p l e_ rmJ1_indexOfChar_4cfef s m args below meth c s.heap [] 0 0 Q (F0 m 7 ls []) := by
    intro n
    induction n with
    | zero =>
      intro y5_7 ls hF
      exact nomatch (show (none : Option Int32) = some t from hF)
    | succ n ih7 =>
      intro y5_7 ls hF hl
      have hF : st_J1_indexOfChar_4cfef_7 x0 x1 x3 (lp_J1_indexOfChar_4cfef_7 x0 x1 x3 n) y5_7 = some t := hF
      unfold st_J1_indexOfChar_4cfef_7 at hF
      refine lv_iload hx hb dJ1_indexOfChar_4cfef_7 (lv_at hl 3 rfl) ?_
      refine lv_iload_n hx hb dJ1_indexOfChar_4cfef_9 rfl (lv_at hl 1 rfl) ?_
      refine lv_icmp_ge (tgt := 31) hx hb dJ1_indexOfChar_4cfef_10 (by decide) (fun c1 => ?_) (fun c1 => ?_)
      · have hF := m_pos c1 hF
        refine lv_iconst (v := (-1)) hx hb dJ1_indexOfChar_4cfef_31 (by decide) ?_
        have hF := Option.some.inj hF
        subst hF
        rw [hQ]
        exact W.iret hx hb hr (fun t ht _ => ⟨rfl, ht⟩) (fun _ h => by cases h) dJ1_indexOfChar_4cfef_32
      · have hF := m_neg c1 hF
        refine lv_aload_n hx hb dJ1_indexOfChar_4cfef_13 rfl (lv_at hl 0 rfl) ?_
        refine lv_iload hx hb dJ1_indexOfChar_4cfef_14 (lv_at hl 3 rfl) ?_
        obtain ⟨h2, hF⟩ := m_chk hF
        obtain ⟨h3, hF⟩ := m_chk hF
        refine va_tb (v := .int ((mSB.getD x0 []).getD (y5_7).toNatClampNeg 0)) hx hb (hGl.2.2.2.2.1.1 x0 h2).2.2.2 hS (mIn_ok h3) rfl dJ1_indexOfChar_4cfef_16 ?_
        refine lv_iload hx hb dJ1_indexOfChar_4cfef_17 (lv_at hl 2 rfl) ?_
        refine lv_icmp_ne (tgt := 25) hx hb dJ1_indexOfChar_4cfef_19 (by decide) (fun c4 => ?_) (fun c4 => ?_)
        · have hF := m_pos c4 hF
          refine lv_iinc (v := (y5_7 + 1)) (lv' := [(5, .int (y5_7 + 1)), (0, .ref (m_adV E x0)), (3, .int x3), (4, .int (x1).toInt8.toInt32)]) hx hb dJ1_indexOfChar_4cfef_25 hl (k := 3) rfl rfl (by decide) rfl (fun ls hl => ?_)
          refine lv_goto (tgt := 7) hx hb dJ1_indexOfChar_4cfef_28 (by decide) ?_
          exact ih7 (y5_7 + 1) ls hF (lv_sub hl [1, 2, 3, 0] rfl)
        · have hF := m_neg (fun n9 => n9 c4) hF
          refine lv_iload hx hb dJ1_indexOfChar_4cfef_22 (lv_at hl 3 rfl) ?_
          have hF := Option.some.inj hF
          subst hF
          rw [hQ]
          exact W.iret hx hb hr (fun t ht _ => ⟨rfl, ht⟩) (fun _ h => by cases h) dJ1_indexOfChar_4cfef_24
  exact hL7 m_N x2 ls hF (lv_sub hl [2, 5, 1, 0] rfl)

abbrev rmJ1_indexOf_4cfef : Room := { frames := 1, cells := 0, slots := 0, locals := 25 }
set_option maxRecDepth 100000 in
set_option maxHeartbeats 400000 in
theorem c_J1_indexOf_4cfef (l : Launch) (E : mE) (x0 : Nat) (x1 : Int32) (x2 : Int32) (x3 : Int32) (t : Int32) (hF : fn_J1_indexOf_4cfef x0 x1 x2 x3 = some t) : Met l yJ1_indexOf_4cfef wsJ1_indexOf_4cfef rmJ1_indexOf_4cfef (mPp E [.ref (m_adV E x0), .int x1, .int x2, .int x3] ([] : va_W)) (mSp (some (.int t))) 0 0 (fun _ => False) := by
  refine mOfP (cc := cJ1_indexOf_4cfef) (maxL := 4) (ret := (some .int)) (by decide) rfl (Nat.le_of_ble_eq_true rfl) ?_
  intro p e_ s m args below meth c Q hQ CC hr hlocks hP hKN hGl ls hl
  have hS : va_S (fun _ => False) s.heap s.heap [] := va_S.rf
  have hK := hKN.1
  have hx := CC.1
  have hb := CC.2.1
  have hml := CC.2.2.1
  have hown : s.vm.findClass RJ1 = some m.cls := CC.2.2.2.1
  have hts := CC.2.2.2.2
  have hl : lv_has ls 4 [(0, .ref (m_adV E x0)), (1, .int x1), (2, .int x2), (3, .int x3)] := hl
  have k0 := hts (.methodLink RJ1 92 Lib.Math.max.name) (by decide +kernel)
  have k1 := hts (.static Lib.Math.max.name) (by decide +kernel)
  have k2 := hts (.initialized "java/lang/Math") (by decide +kernel)
  have k3 := hts (.code Lib.Math.max.name Lib.Math.max.code 2 (some .int)) (by decide +kernel)
  have k4 := hts (.methodLink RJ1 38 Lib.Math.min.name) (by decide +kernel)
  have k5 := hts (.static Lib.Math.min.name) (by decide +kernel)
  have k6 := hts (.code Lib.Math.min.name Lib.Math.min.code 2 (some .int)) (by decide +kernel)
  unfold fn_J1_indexOf_4cfef at hF
  refine lv_iload_n hx hb dJ1_indexOf_4cfef_0 rfl (lv_at hl 1 rfl) ?_
  obtain ⟨t1, ht1, hF⟩ := m_bnd hF
  refine mSP (n := 1) (rest := []) (As := [.int x1]) CC hKN hGl hS (c_J1_canEncode_9a6ad l E x1 t1 ht1) gJ1_indexOf_4cfef_J1_canEncode_9a6ad rfl ⟨rfl, rfl⟩ (by decide +kernel) ⟨Nat.le_of_ble_eq_true rfl, Nat.le_of_ble_eq_true rfl⟩ m_nil rfl hl.1 rfl (Nat.le_of_ble_eq_true rfl) ⟨Nat.zero_le _, Nat.zero_le _⟩ dJ1_indexOf_4cfef_1 ?_
  refine W.eq (g2 := F0 m 4 ls [.int t1]) rfl ?_
  refine lv_if_ne (tgt := 9) hx hb dJ1_indexOf_4cfef_4 (by decide) (fun c2 => ?_) (fun c2 => ?_)
  · have hF := m_pos c2 hF
    refine lv_iload_n hx hb dJ1_indexOf_4cfef_9 rfl (lv_at hl 2 rfl) ?_
    refine lv_iconst (v := 0) hx hb dJ1_indexOf_4cfef_10 (by decide) ?_
    refine va_mmax hx hb (hml.trans hl.1.symm) hown k0 k1 k2 k3 (Nat.le_of_ble_eq_true rfl) (Nat.le_of_ble_eq_true rfl) (Nat.zero_le _) (Nat.zero_le _) dJ1_indexOf_4cfef_11 ?_
    refine W.eq (g2 := F0 m 14 ls [.int (mMax x2 0)]) rfl ?_
    refine lv_istore_n (lv' := [(2, .int (mMax x2 0)), (0, .ref (m_adV E x0)), (1, .int x1), (3, .int x3)]) hx hb dJ1_indexOf_4cfef_14 rfl hl (by decide) rfl (fun ls hl => ?_)
    refine lv_iload_n hx hb dJ1_indexOf_4cfef_15 rfl (lv_at hl 3 rfl) ?_
    refine lv_aload_n hx hb dJ1_indexOf_4cfef_16 rfl (lv_at hl 1 rfl) ?_
    obtain ⟨h3, hF⟩ := m_chk hF
    refine va_tlen (v := (Int32.ofNat (mSL.getD x0 0))) hx hb (hGl.2.2.2.2.1.1 x0 h3).2.2.2 hS rfl dJ1_indexOf_4cfef_17 ?_
    refine va_mmin hx hb (hml.trans hl.1.symm) hown k4 k5 k2 k6 (Nat.le_of_ble_eq_true rfl) (Nat.le_of_ble_eq_true rfl) (Nat.zero_le _) (Nat.zero_le _) dJ1_indexOf_4cfef_18 ?_
    refine W.eq (g2 := F0 m 21 ls [.int (mMin x3 (Int32.ofNat (mSL.getD x0 0)))]) rfl ?_
    refine lv_istore_n (lv' := [(3, .int (mMin x3 (Int32.ofNat (mSL.getD x0 0)))), (2, .int (mMax x2 0)), (0, .ref (m_adV E x0)), (1, .int x1)]) hx hb dJ1_indexOf_4cfef_21 rfl hl (by decide) rfl (fun ls hl => ?_)
    refine lv_iload_n hx hb dJ1_indexOf_4cfef_22 rfl (lv_at hl 1 rfl) ?_
    refine lv_iload_n hx hb dJ1_indexOf_4cfef_23 rfl (lv_at hl 0 rfl) ?_
    refine lv_icmp_lt (tgt := 29) hx hb dJ1_indexOf_4cfef_24 (by decide) (fun c4 => ?_) (fun c4 => ?_)
    · have hF := m_pos c4 hF
      refine lv_aload_n hx hb dJ1_indexOf_4cfef_29 rfl (lv_at hl 2 rfl) ?_
      refine lv_iload_n hx hb dJ1_indexOf_4cfef_30 rfl (lv_at hl 3 rfl) ?_
      refine lv_iload_n hx hb dJ1_indexOf_4cfef_31 rfl (lv_at hl 1 rfl) ?_
      refine lv_iload_n hx hb dJ1_indexOf_4cfef_32 rfl (lv_at hl 0 rfl) ?_
      obtain ⟨t5, ht5, hF⟩ := m_bnd hF
      refine mSP (n := 4) (rest := []) (As := [.ref (m_adV E x0), .int x1, .int (mMax x2 0), .int (mMin x3 (Int32.ofNat (mSL.getD x0 0)))]) CC hKN hGl hS (c_J1_indexOfChar_4cfef l E x0 x1 (mMax x2 0) (mMin x3 (Int32.ofNat (mSL.getD x0 0))) t5 ht5) gJ1_indexOf_4cfef_J1_indexOfChar_4cfef rfl ⟨rfl, rfl⟩ (by decide +kernel) ⟨Nat.le_of_ble_eq_true rfl, Nat.le_of_ble_eq_true rfl⟩ m_nil rfl hl.1 rfl (Nat.le_of_ble_eq_true rfl) ⟨Nat.zero_le _, Nat.zero_le _⟩ dJ1_indexOf_4cfef_33 ?_
      refine W.eq (g2 := F0 m 36 ls [.int t5]) rfl ?_
      have hF := Option.some.inj hF
      subst hF
      rw [hQ]
      exact W.iret hx hb hr (fun t ht _ => ⟨rfl, ht⟩) (fun _ h => by cases h) dJ1_indexOf_4cfef_36
    · have hF := m_neg c4 hF
      refine lv_iconst (v := (-1)) hx hb dJ1_indexOf_4cfef_27 (by decide) ?_
      have hF := Option.some.inj hF
      subst hF
      rw [hQ]
      exact W.iret hx hb hr (fun t ht _ => ⟨rfl, ht⟩) (fun _ h => by cases h) dJ1_indexOf_4cfef_28
  · have hF := m_neg (fun n9 => n9 c2) hF
    refine lv_iconst (v := (-1)) hx hb dJ1_indexOf_4cfef_7 (by decide) ?_
    have hF := Option.some.inj hF
    subst hF
    rw [hQ]
    exact W.iret hx hb hr (fun t ht _ => ⟨rfl, ht⟩) (fun _ h => by cases h) dJ1_indexOf_4cfef_8

abbrev rmJ0_indexOf_7cf53 : Room := { frames := 2, cells := 0, slots := 0, locals := 48 }
set_option maxRecDepth 100000 in
set_option maxHeartbeats 400000 in
theorem c_J0_indexOf_7cf53 (l : Launch) (E : mE) (x : Nat) (x0 : Int32) (x1 : Int32) (t : Int32) (hF : fn_J0_indexOf_7cf53 x x0 x1 = some t) : Met l yJ0_indexOf_7cf53 wsJ0_indexOf_7cf53 rmJ0_indexOf_7cf53 (mPp E [.ref (m_adK E x), .int x0, .int x1] ([] : va_W)) (mSp (some (.int t))) 0 0 (fun _ => False) := by
  refine mOfP (cc := cJ0_indexOf_7cf53) (maxL := 3) (ret := (some .int)) (by decide) rfl (Nat.le_of_ble_eq_true rfl) ?_
  intro p e_ s m args below meth c Q hQ CC hr hlocks hP hKN hGl ls hl
  have hS : va_S (fun _ => False) s.heap s.heap [] := va_S.rf
  have hK := hKN.1
  have hx := CC.1
  have hb := CC.2.1
  have hml := CC.2.2.1
  have hown : s.vm.findClass RJ0 = some m.cls := CC.2.2.2.1
  have hts := CC.2.2.2.2
  have hl : lv_has ls 3 [(0, .ref (m_adK E x)), (1, .int x0), (2, .int x1)] := hl
  have k0 := hts (.fieldLink RJ0 9 "java/lang/String" "value" "[B") (by decide +kernel)
  unfold fn_J0_indexOf_7cf53 at hF
  refine lv_aload_n hx hb dJ0_indexOf_7cf53_0 rfl (lv_at hl 0 rfl) ?_
  obtain ⟨h2, hF⟩ := m_chk hF
  obtain ⟨t1, ht1, hF⟩ := m_bnd hF
  refine mVPs (n := 0) (rest := []) (As := []) CC hKN hGl hS (c_J0_isLatin1_aae02 l E x t1 ht1) gJ0_indexOf_7cf53_J0_isLatin1_aae02 rfl ⟨rfl, rfl⟩ (by decide +kernel) ⟨Nat.le_of_ble_eq_true rfl, Nat.le_of_ble_eq_true rfl⟩ m_nil (vk_recv hGl.2.2.2.2.1 h2 hS) rfl hl.1 rfl (Nat.le_of_ble_eq_true rfl) ⟨Nat.zero_le _, Nat.zero_le _⟩ dJ0_indexOf_7cf53_1 ?_
  refine W.eq (g2 := F0 m 4 ls [.int t1]) rfl ?_
  refine lv_if_eq (tgt := 23) hx hb dJ0_indexOf_7cf53_4 (by decide) (fun c3 => ?_) (fun c3 => ?_)
  · have hF := m_pos c3 hF
    refine lv_aload_n hx hb dJ0_indexOf_7cf53_23 rfl (lv_at hl 0 rfl) ?_
    obtain ⟨h4, hF⟩ := m_chk hF
    refine vk_getf hx hb (hGl.2.2.2.2.1.1 x h4).2.2.1 hS hown k0 (fun _ h9 => h9) dJ0_indexOf_7cf53_24 ?_
    refine lv_iload_n hx hb dJ0_indexOf_7cf53_27 rfl (lv_at hl 1 rfl) ?_
    refine lv_iload_n hx hb dJ0_indexOf_7cf53_28 rfl (lv_at hl 2 rfl) ?_
    refine lv_aload_n hx hb dJ0_indexOf_7cf53_29 rfl (lv_at hl 0 rfl) ?_
    obtain ⟨h6, hF⟩ := m_chk hF
    obtain ⟨t5, ht5, hF⟩ := m_bnd hF
    refine mVPs (n := 0) (rest := [.int x1, .int x0, .ref (m_adV E x)]) (As := []) CC hKN hGl hS (c_J0_length_8abf5 l E x t5 ht5) gJ0_indexOf_7cf53_J0_length_8abf5 rfl ⟨rfl, rfl⟩ (by decide +kernel) ⟨Nat.le_of_ble_eq_true rfl, Nat.le_of_ble_eq_true rfl⟩ m_nil (vk_recv hGl.2.2.2.2.1 h6 hS) rfl hl.1 rfl (Nat.le_of_ble_eq_true rfl) ⟨Nat.zero_le _, Nat.zero_le _⟩ dJ0_indexOf_7cf53_30 ?_
    refine W.eq (g2 := F0 m 33 ls [.int t5, .int x1, .int x0, .ref (m_adV E x)]) rfl ?_
    exact nomatch (show (none : Option Int32) = some t from hF)
  · have hF := m_neg c3 hF
    refine lv_aload_n hx hb dJ0_indexOf_7cf53_7 rfl (lv_at hl 0 rfl) ?_
    obtain ⟨h7, hF⟩ := m_chk hF
    refine vk_getf hx hb (hGl.2.2.2.2.1.1 x h7).2.2.1 hS hown k0 (fun _ h9 => h9) dJ0_indexOf_7cf53_8 ?_
    refine lv_iload_n hx hb dJ0_indexOf_7cf53_11 rfl (lv_at hl 1 rfl) ?_
    refine lv_iload_n hx hb dJ0_indexOf_7cf53_12 rfl (lv_at hl 2 rfl) ?_
    refine lv_aload_n hx hb dJ0_indexOf_7cf53_13 rfl (lv_at hl 0 rfl) ?_
    obtain ⟨h9, hF⟩ := m_chk hF
    obtain ⟨t8, ht8, hF⟩ := m_bnd hF
    refine mVPs (n := 0) (rest := [.int x1, .int x0, .ref (m_adV E x)]) (As := []) CC hKN hGl hS (c_J0_length_8abf5 l E x t8 ht8) gJ0_indexOf_7cf53_J0_length_8abf5 rfl ⟨rfl, rfl⟩ (by decide +kernel) ⟨Nat.le_of_ble_eq_true rfl, Nat.le_of_ble_eq_true rfl⟩ m_nil (vk_recv hGl.2.2.2.2.1 h9 hS) rfl hl.1 rfl (Nat.le_of_ble_eq_true rfl) ⟨Nat.zero_le _, Nat.zero_le _⟩ dJ0_indexOf_7cf53_14 ?_
    refine W.eq (g2 := F0 m 17 ls [.int t8, .int x1, .int x0, .ref (m_adV E x)]) rfl ?_
    obtain ⟨t10, ht10, hF⟩ := m_bnd hF
    refine mSP (n := 4) (rest := []) (As := [.ref (m_adV E x), .int x0, .int x1, .int t8]) CC hKN hGl hS (c_J1_indexOf_4cfef l E x x0 x1 t8 t10 ht10) gJ0_indexOf_7cf53_J1_indexOf_4cfef rfl ⟨rfl, rfl⟩ (by decide +kernel) ⟨Nat.le_of_ble_eq_true rfl, Nat.le_of_ble_eq_true rfl⟩ m_nil rfl hl.1 rfl (Nat.le_of_ble_eq_true rfl) ⟨Nat.zero_le _, Nat.zero_le _⟩ dJ0_indexOf_7cf53_17 ?_
    refine W.eq (g2 := F0 m 20 ls [.int t10]) rfl ?_
    refine lv_goto (tgt := 36) hx hb dJ0_indexOf_7cf53_20 (by decide) ?_
    have hF := Option.some.inj hF
    subst hF
    rw [hQ]
    exact W.iret hx hb hr (fun t ht _ => ⟨rfl, ht⟩) (fun _ h => by cases h) dJ0_indexOf_7cf53_36

abbrev rmJ0_indexOf_0f7a4 : Room := { frames := 3, cells := 0, slots := 0, locals := 70 }
set_option maxRecDepth 100000 in
set_option maxHeartbeats 400000 in
theorem c_J0_indexOf_0f7a4 (l : Launch) (E : mE) (x : Nat) (x0 : Int32) (t : Int32) (hF : fn_J0_indexOf_0f7a4 x x0 = some t) : Met l yJ0_indexOf_0f7a4 wsJ0_indexOf_0f7a4 rmJ0_indexOf_0f7a4 (mPp E [.ref (m_adK E x), .int x0] ([] : va_W)) (mSp (some (.int t))) 0 0 (fun _ => False) := by
  refine mOfP (cc := cJ0_indexOf_0f7a4) (maxL := 2) (ret := (some .int)) (by decide) rfl (Nat.le_of_ble_eq_true rfl) ?_
  intro p e_ s m args below meth c Q hQ CC hr hlocks hP hKN hGl ls hl
  have hS : va_S (fun _ => False) s.heap s.heap [] := va_S.rf
  have hK := hKN.1
  have hx := CC.1
  have hb := CC.2.1
  have hml := CC.2.2.1
  have hown : s.vm.findClass RJ0 = some m.cls := CC.2.2.2.1
  have hts := CC.2.2.2.2
  have hl : lv_has ls 2 [(0, .ref (m_adK E x)), (1, .int x0)] := hl
  unfold fn_J0_indexOf_0f7a4 at hF
  refine lv_aload_n hx hb dJ0_indexOf_0f7a4_0 rfl (lv_at hl 0 rfl) ?_
  refine lv_iload_n hx hb dJ0_indexOf_0f7a4_1 rfl (lv_at hl 1 rfl) ?_
  refine lv_iconst (v := 0) hx hb dJ0_indexOf_0f7a4_2 (by decide) ?_
  obtain ⟨h2, hF⟩ := m_chk hF
  obtain ⟨t1, ht1, hF⟩ := m_bnd hF
  refine mVPs (n := 2) (rest := []) (As := [.int x0, .int 0]) CC hKN hGl hS (c_J0_indexOf_7cf53 l E x x0 0 t1 ht1) gJ0_indexOf_0f7a4_J0_indexOf_7cf53 rfl ⟨rfl, rfl⟩ (by decide +kernel) ⟨Nat.le_of_ble_eq_true rfl, Nat.le_of_ble_eq_true rfl⟩ m_nil (vk_recv hGl.2.2.2.2.1 h2 hS) rfl hl.1 rfl (Nat.le_of_ble_eq_true rfl) ⟨Nat.zero_le _, Nat.zero_le _⟩ dJ0_indexOf_0f7a4_3 ?_
  refine W.eq (g2 := F0 m 6 ls [.int t1]) rfl ?_
  have hF := Option.some.inj hF
  subst hF
  rw [hQ]
  exact W.iret hx hb hr (fun t ht _ => ⟨rfl, ht⟩) (fun _ h => by cases h) dJ0_indexOf_0f7a4_6

abbrev rmX0_begins : Room := { frames := 0, cells := 0, slots := 0, locals := 0 }
set_option maxRecDepth 100000 in
set_option maxHeartbeats 400000 in
theorem c_X0_begins (l : Launch) (E : mE) (a : ActsA) (v : ActsV) (x0 : Int32) (t : ActsV) (hF : fn_X0_begins v x0 = some t) (sz : Nat) : Met l yX0_begins wsX0_begins rmX0_begins (mPm E [.ref (Actsa_self a), .int x0] sz ((Acts_c E a v)) (([] : va_W))) (mSm E (none) ((Acts_c E a t)) (va_A ((Acts_c E a v)) sz)) 0 0 (va_A ((Acts_c E a v)) sz) := by
  refine mOfM (cc := cX0_begins) (maxL := 2) (ret := none) (by decide) rfl (Nat.le_of_ble_eq_true rfl) ?_
  intro p e_ s m args below meth c Q A hQ CC hr hlocks hin hA hP hD hKN hGl hR0 hRA ls hl
  have hS : va_S A s.heap s.heap [] := va_S.rf
  have hK := hKN.1
  have hx := CC.1
  have hb := CC.2.1
  have hml := CC.2.2.1
  have hown : s.vm.findClass RX0 = some m.cls := CC.2.2.2.1
  have hts := CC.2.2.2.2
  have hl : lv_has ls 2 [(0, .ref (Actsa_self a)), (1, .int x0)] := hl
  have k0 := hts (.fieldLink RX0 15 "OneDidAll$Acts" "ran" "I") (by decide +kernel)
  have k1 := (show ∀ w ∈ u_ws RX0 TX0 5, w ∈ wsX0_begins by decide +kernel)
  have k2 := hts (.fieldLink RX0 9 "OneDidAll$Acts" "kept" "[I") (by decide +kernel)
  have hP : va_P E.1 vwCl (Acts_c E a v) s.heap := hP
  obtain ⟨H, hH⟩ : ∃ H, H = s.heap := ⟨_, rfl⟩
  obtain ⟨locs, hlc⟩ : ∃ z : List Loc, z = [] := ⟨_, rfl⟩
  rw [← hH] at hP
  rw [← hlc] at hS
  have hS : va_S A s.heap H locs := by rw [hH]; exact hS
  rw [← hH, ← hlc]
  unfold fn_X0_begins at hF
  refine lv_aload_n hx hb dX0_begins_0 rfl (lv_at hl 0 rfl) ?_
  refine va_get (D := E.1) (ci := 0) (v := .int (Acts_ran v)) (C := RX0) (T := TX0) (N := 5) hx hb hts k1 hown hK hP 0 rfl rfl 1 (by decide) k0 (fun _ h9 => h9) rfl dX0_begins_1 ?_
  obtain ⟨j29, hjd29, hF⟩ := m_jp hF
  have hj29 : ∀ (wx_29 : ActsV) (H : Heap) (locs : List Loc) (ls : Array Slot), j29 wx_29 = some t → va_P E.1 vwCl (Acts_c E a wx_29) H → va_D A (Acts_c E a wx_29) → va_S A s.heap H locs → lv_has ls 2 [(0, .ref (Actsa_self a))] → W p l e_ rmX0_begins s m args below meth c H locs 0 0 Q (F0 m 29 ls []) := by
    intro wx_29 H locs ls hF hP hD hS hl
    rw [hjd29] at hF
    refine lv_aload_n hx hb dX0_begins_29 rfl (lv_at hl 0 rfl) ?_
    refine lv_dup hx hb dX0_begins_30 rfl ?_
    refine va_get (D := E.1) (ci := 0) (v := .int (Acts_ran wx_29)) (C := RX0) (T := TX0) (N := 5) hx hb hts k1 hown hK hP 0 rfl rfl 1 (by decide) k0 (fun _ h9 => h9) rfl dX0_begins_31 ?_
    refine lv_iconst (v := 1) hx hb dX0_begins_34 (by decide) ?_
    refine lv_iadd hx hb dX0_begins_35 ?_
    refine va_put (D := E.1) (ci := 0) (v := .int ((Acts_ran wx_29) + 1)) (ty := .int) (C := RX0) (T := TX0) (N := 5) hx hb hts k1 tyX0 tyX0_ok nmX0 hown hK hP hD hS 0 rfl rfl 1 (by decide) k0 (fun _ h9 => h9) rfl (by decide +kernel) rfl rfl (Nat.le_of_ble_eq_true rfl) dX0_begins_36 (fun H locs hP hD hS => ?_)
    have hP : va_P E.1 vwCl (Acts_c E a (Acts_ran_s wx_29 ((Acts_ran wx_29) + 1))) H := hP
    have hD : va_D A (Acts_c E a (Acts_ran_s wx_29 ((Acts_ran wx_29) + 1))) := hD
    have hF := Option.some.inj hF
    subst hF
    rw [hQ]
    exact W.vret hx hb hr (fun t ht _ => ⟨⟨rfl, by rw [ht]; exact hP, hD⟩, hS.F ht⟩) hS.2.2 dX0_begins_39
  clear hjd29
  refine lv_if_lt (tgt := 29) hx hb dX0_begins_4 (by decide) (fun c1 => ?_) (fun c1 => ?_)
  · have hF := m_pos c1 hF
    exact hj29 v H locs ls hF hP hD hS (lv_sub hl [0] rfl)
  · have hF := m_neg c1 hF
    refine lv_aload_n hx hb dX0_begins_7 rfl (lv_at hl 0 rfl) ?_
    refine va_get (D := E.1) (ci := 0) (v := .int (Acts_ran v)) (C := RX0) (T := TX0) (N := 5) hx hb hts k1 hown hK hP 0 rfl rfl 1 (by decide) k0 (fun _ h9 => h9) rfl dX0_begins_8 ?_
    refine lv_aload_n hx hb dX0_begins_11 rfl (lv_at hl 0 rfl) ?_
    refine va_get (D := E.1) (ci := 0) (v := .ref (Actsa_kept a)) (C := RX0) (T := TX0) (N := 5) hx hb hts k1 hown hK hP 0 rfl rfl 0 (by decide) k2 (fun _ h9 => h9) rfl dX0_begins_12 ?_
    refine va_alen (v := (Int32.ofNat 20)) hx hb hK hP 1 1 rfl rfl rfl dX0_begins_15 ?_
    refine lv_icmp_ge (tgt := 29) hx hb dX0_begins_16 (by decide) (fun c2 => ?_) (fun c2 => ?_)
    · have hF := m_pos c2 hF
      exact hj29 v H locs ls hF hP hD hS (lv_sub hl [0] rfl)
    · have hF := m_neg c2 hF
      refine lv_aload_n hx hb dX0_begins_19 rfl (lv_at hl 0 rfl) ?_
      refine va_get (D := E.1) (ci := 0) (v := .ref (Actsa_kept a)) (C := RX0) (T := TX0) (N := 5) hx hb hts k1 hown hK hP 0 rfl rfl 0 (by decide) k2 (fun _ h9 => h9) rfl dX0_begins_20 ?_
      refine lv_aload_n hx hb dX0_begins_23 rfl (lv_at hl 0 rfl) ?_
      refine va_get (D := E.1) (ci := 0) (v := .int (Acts_ran v)) (C := RX0) (T := TX0) (N := 5) hx hb hts k1 hown hK hP 0 rfl rfl 1 (by decide) k0 (fun _ h9 => h9) rfl dX0_begins_24 ?_
      refine lv_iload_n hx hb dX0_begins_27 rfl (lv_at hl 1 rfl) ?_
      obtain ⟨h3, hF⟩ := m_chk hF
      refine va_iast (f := (Acts_kept v)) hx hb hK hP hD hS 1 1 rfl rfl (mIn_ok h3) dX0_begins_28 (fun H locs hP hD hS => ?_)
      have hP : va_P E.1 vwCl (Acts_c E a (Acts_kept_s v (upd (Acts_kept v) ((Acts_ran v)).toNatClampNeg x0))) H := hP
      have hD : va_D A (Acts_c E a (Acts_kept_s v (upd (Acts_kept v) ((Acts_ran v)).toNatClampNeg x0))) := hD
      exact hj29 (Acts_kept_s v (upd (Acts_kept v) ((Acts_ran v)).toNatClampNeg x0)) H locs ls hF hP hD hS (lv_sub hl [0] rfl)

abbrev rmX1_workMore : Room := { frames := 0, cells := 0, slots := 0, locals := 0 }
set_option maxRecDepth 100000 in
set_option maxHeartbeats 400000 in
theorem c_X1_workMore (l : Launch) (E : mE) (a : ForecastA) (v : ForecastV) (t : Int32) (hF : fn_X1_workMore v = some t) : Met l yX1_workMore wsX1_workMore rmX1_workMore (mPp E [.ref (Forecasta_self a)] (Forecast_c E a v)) (mSp (some (.int t))) 0 0 (fun _ => False) := by
  refine mOfP (cc := cX1_workMore) (maxL := 1) (ret := (some .int)) (by decide) rfl (Nat.le_of_ble_eq_true rfl) ?_
  intro p e_ s m args below meth c Q hQ CC hr hlocks hP hKN hGl ls hl
  have hS : va_S (fun _ => False) s.heap s.heap [] := va_S.rf
  have hK := hKN.1
  have hx := CC.1
  have hb := CC.2.1
  have hml := CC.2.2.1
  have hown : s.vm.findClass RX1 = some m.cls := CC.2.2.2.1
  have hts := CC.2.2.2.2
  have hl : lv_has ls 1 [(0, .ref (Forecasta_self a))] := hl
  have k0 := hts (.fieldLink RX1 12 "OneDidAll$Forecast" "trial" "LOneDidAll$Group;") (by decide +kernel)
  have k1 := (show ∀ w ∈ u_ws RX1 TX1 3, w ∈ wsX1_workMore by decide +kernel)
  have k2 := (va_Nw.use rfl (hKN.2.1 ("OneDidAll$Forecast", 52, "OneDidAll$Group", "work", "I", "OneDidAll") (by decide +kernel)) : (Cond.fieldLinkNest "OneDidAll$Forecast" 52 "OneDidAll$Group" "work" "I" "OneDidAll").before args s = true)
  have k3 := (show ∀ w ∈ u_ws RX2 TX2 11, w ∈ wsX1_workMore by decide +kernel)
  have k4 := hts (.fieldLink RX1 18 "OneDidAll$Forecast" "start" "LOneDidAll$Group;") (by decide +kernel)
  unfold fn_X1_workMore at hF
  refine lv_aload_n hx hb dX1_workMore_0 rfl (lv_at hl 0 rfl) ?_
  refine va_get (D := E.1) (ci := 1) (v := .ref (Groupa_self (Forecasta_trial a))) (C := RX1) (T := TX1) (N := 3) hx hb hts k1 hown hK hP 0 rfl rfl 0 (by decide) k0 (fun _ h9 => h9) rfl dX1_workMore_1 ?_
  refine va_getN (D := E.1) (ci := 2) (v := .int (Group_work (Forecast_trial v))) (C := RX2) (T := TX2) (N := 11) hx hb hts k3 hown hK hP 1 rfl rfl 2 (by decide) k2 (fun _ h9 => h9) rfl dX1_workMore_4 ?_
  refine lv_aload_n hx hb dX1_workMore_7 rfl (lv_at hl 0 rfl) ?_
  refine va_get (D := E.1) (ci := 1) (v := .ref (Groupa_self (Forecasta_start a))) (C := RX1) (T := TX1) (N := 3) hx hb hts k1 hown hK hP 0 rfl rfl 1 (by decide) k4 (fun _ h9 => h9) rfl dX1_workMore_8 ?_
  refine va_getN (D := E.1) (ci := 2) (v := .int (Group_work (Forecast_start v))) (C := RX2) (T := TX2) (N := 11) hx hb hts k3 hown hK hP 10 rfl rfl 2 (by decide) k2 (fun _ h9 => h9) rfl dX1_workMore_11 ?_
  refine lv_isub hx hb dX1_workMore_14 ?_
  have hF := Option.some.inj hF
  subst hF
  rw [hQ]
  exact W.iret hx hb hr (fun t ht _ => ⟨rfl, ht⟩) (fun _ h => by cases h) dX1_workMore_15

abbrev rmX1_hoursMoreOf : Room := { frames := 0, cells := 0, slots := 0, locals := 0 }
set_option maxRecDepth 100000 in
set_option maxHeartbeats 400000 in
theorem c_X1_hoursMoreOf (l : Launch) (E : mE) (a : ForecastA) (v : ForecastV) (x0 : Int32) (t : Int32) (hF : fn_X1_hoursMoreOf v x0 = some t) : Met l yX1_hoursMoreOf wsX1_hoursMoreOf rmX1_hoursMoreOf (mPp E [.ref (Forecasta_self a), .int x0] (Forecast_c E a v)) (mSp (some (.int t))) 0 0 (fun _ => False) := by
  refine mOfP (cc := cX1_hoursMoreOf) (maxL := 2) (ret := (some .int)) (by decide) rfl (Nat.le_of_ble_eq_true rfl) ?_
  intro p e_ s m args below meth c Q hQ CC hr hlocks hP hKN hGl ls hl
  have hS : va_S (fun _ => False) s.heap s.heap [] := va_S.rf
  have hK := hKN.1
  have hx := CC.1
  have hb := CC.2.1
  have hml := CC.2.2.1
  have hown : s.vm.findClass RX1 = some m.cls := CC.2.2.2.1
  have hts := CC.2.2.2.2
  have hl : lv_has ls 2 [(0, .ref (Forecasta_self a)), (1, .int x0)] := hl
  have k0 := hts (.fieldLink RX1 12 "OneDidAll$Forecast" "trial" "LOneDidAll$Group;") (by decide +kernel)
  have k1 := (show ∀ w ∈ u_ws RX1 TX1 3, w ∈ wsX1_hoursMoreOf by decide +kernel)
  have k2 := (va_Nw.use rfl (hKN.2.1 ("OneDidAll$Forecast", 60, "OneDidAll$Group", "hours", "[I", "OneDidAll") (by decide +kernel)) : (Cond.fieldLinkNest "OneDidAll$Forecast" 60 "OneDidAll$Group" "hours" "[I" "OneDidAll").before args s = true)
  have k3 := (show ∀ w ∈ u_ws RX2 TX2 11, w ∈ wsX1_hoursMoreOf by decide +kernel)
  have k4 := hts (.fieldLink RX1 18 "OneDidAll$Forecast" "start" "LOneDidAll$Group;") (by decide +kernel)
  unfold fn_X1_hoursMoreOf at hF
  refine lv_aload_n hx hb dX1_hoursMoreOf_0 rfl (lv_at hl 0 rfl) ?_
  refine va_get (D := E.1) (ci := 1) (v := .ref (Groupa_self (Forecasta_trial a))) (C := RX1) (T := TX1) (N := 3) hx hb hts k1 hown hK hP 0 rfl rfl 0 (by decide) k0 (fun _ h9 => h9) rfl dX1_hoursMoreOf_1 ?_
  refine va_getN (D := E.1) (ci := 2) (v := .ref (Groupa_hours (Forecasta_trial a))) (C := RX2) (T := TX2) (N := 11) hx hb hts k3 hown hK hP 1 rfl rfl 7 (by decide) k2 (fun _ h9 => h9) rfl dX1_hoursMoreOf_4 ?_
  refine lv_iload_n hx hb dX1_hoursMoreOf_7 rfl (lv_at hl 1 rfl) ?_
  obtain ⟨h1, hF⟩ := m_chk hF
  refine va_iald (f := (Group_hours (Forecast_trial v))) hx hb hK hP 6 1 rfl rfl (mIn_ok h1) dX1_hoursMoreOf_8 ?_
  refine W.eq (g2 := F0 m 9 ls [.int ((Group_hours (Forecast_trial v)) (x0).toNatClampNeg)]) rfl ?_
  refine lv_aload_n hx hb dX1_hoursMoreOf_9 rfl (lv_at hl 0 rfl) ?_
  refine va_get (D := E.1) (ci := 1) (v := .ref (Groupa_self (Forecasta_start a))) (C := RX1) (T := TX1) (N := 3) hx hb hts k1 hown hK hP 0 rfl rfl 1 (by decide) k4 (fun _ h9 => h9) rfl dX1_hoursMoreOf_10 ?_
  refine va_getN (D := E.1) (ci := 2) (v := .ref (Groupa_hours (Forecasta_start a))) (C := RX2) (T := TX2) (N := 11) hx hb hts k3 hown hK hP 10 rfl rfl 7 (by decide) k2 (fun _ h9 => h9) rfl dX1_hoursMoreOf_13 ?_
  refine lv_iload_n hx hb dX1_hoursMoreOf_16 rfl (lv_at hl 1 rfl) ?_
  obtain ⟨h2, hF⟩ := m_chk hF
  refine va_iald (f := (Group_hours (Forecast_start v))) hx hb hK hP 15 1 rfl rfl (mIn_ok h2) dX1_hoursMoreOf_17 ?_
  refine W.eq (g2 := F0 m 18 ls [.int ((Group_hours (Forecast_start v)) (x0).toNatClampNeg), .int ((Group_hours (Forecast_trial v)) (x0).toNatClampNeg)]) rfl ?_
  refine lv_isub hx hb dX1_hoursMoreOf_18 ?_
  have hF := Option.some.inj hF
  subst hF
  rw [hQ]
  exact W.iret hx hb hr (fun t ht _ => ⟨rfl, ht⟩) (fun _ h => by cases h) dX1_hoursMoreOf_19

abbrev rmX2_add : Room := { frames := 0, cells := 0, slots := 0, locals := 0 }
set_option maxRecDepth 100000 in
set_option maxHeartbeats 400000 in
theorem c_X2_add (l : Launch) (E : mE) (a : GroupA) (v : GroupV) (x0 : Int32) (x1 : Int32) (x2 : Int32) (x3 : Int32) (t : (Int32 × GroupV)) (hF : fn_X2_add v x0 x1 x2 x3 = some t) (sz : Nat) : Met l yX2_add wsX2_add rmX2_add (mPm E [.ref (Groupa_self a), .int x0, .int x1, .int x2, .int x3] sz ((Group_c E a v)) (([] : va_W))) (mSm E (some (.int t.1)) ((Group_c E a t.2)) (va_A ((Group_c E a v)) sz)) 0 0 (va_A ((Group_c E a v)) sz) := by
  refine mOfM (cc := cX2_add) (maxL := 6) (ret := (some .int)) (by decide) rfl (Nat.le_of_ble_eq_true rfl) ?_
  intro p e_ s m args below meth c Q A hQ CC hr hlocks hin hA hP hD hKN hGl hR0 hRA ls hl
  have hS : va_S A s.heap s.heap [] := va_S.rf
  have hK := hKN.1
  have hx := CC.1
  have hb := CC.2.1
  have hml := CC.2.2.1
  have hown : s.vm.findClass RX2 = some m.cls := CC.2.2.2.1
  have hts := CC.2.2.2.2
  have hl : lv_has ls 6 [(0, .ref (Groupa_self a)), (1, .int x0), (2, .int x1), (3, .int x2), (4, .int x3)] := hl
  have k0 := hts (.fieldLink RX2 9 "OneDidAll$Group" "size" "I") (by decide +kernel)
  have k1 := (show ∀ w ∈ u_ws RX2 TX2 11, w ∈ wsX2_add by decide +kernel)
  have k2 := hts (.fieldLink RX2 21 "OneDidAll$Group" "kinds" "[I") (by decide +kernel)
  have k3 := hts (.fieldLink RX2 25 "OneDidAll$Group" "vs" "[I") (by decide +kernel)
  have k4 := hts (.fieldLink RX2 28 "OneDidAll$Group" "skills" "[I") (by decide +kernel)
  have k5 := hts (.fieldLink RX2 31 "OneDidAll$Group" "wills" "[I") (by decide +kernel)
  have k6 := hts (.fieldLink RX2 34 "OneDidAll$Group" "hours" "[I") (by decide +kernel)
  have k7 := hts (.fieldLink RX2 37 "OneDidAll$Group" "outs" "[Z") (by decide +kernel)
  have k8 := hts (.fieldLink RX2 41 "OneDidAll$Group" "rows" "[I") (by decide +kernel)
  have hP : va_P E.1 vwCl (Group_c E a v) s.heap := hP
  obtain ⟨H, hH⟩ : ∃ H, H = s.heap := ⟨_, rfl⟩
  obtain ⟨locs, hlc⟩ : ∃ z : List Loc, z = [] := ⟨_, rfl⟩
  rw [← hH] at hP
  rw [← hlc] at hS
  have hS : va_S A s.heap H locs := by rw [hH]; exact hS
  rw [← hH, ← hlc]
  unfold fn_X2_add at hF
  refine lv_aload_n hx hb dX2_add_0 rfl (lv_at hl 0 rfl) ?_
  refine va_get (D := E.1) (ci := 2) (v := .int (Group_size v)) (C := RX2) (T := TX2) (N := 11) hx hb hts k1 hown hK hP 0 rfl rfl 0 (by decide) k0 (fun _ h9 => h9) rfl dX2_add_1 ?_
  refine lv_bipush (v := 6) hx hb dX2_add_4 (by decide) ?_
  refine lv_icmp_lt (tgt := 12) hx hb dX2_add_6 (by decide) (fun c1 => ?_) (fun c1 => ?_)
  · have hF := m_pos c1 hF
    refine lv_aload_n hx hb dX2_add_12 rfl (lv_at hl 0 rfl) ?_
    refine va_get (D := E.1) (ci := 2) (v := .ref (Groupa_kinds a)) (C := RX2) (T := TX2) (N := 11) hx hb hts k1 hown hK hP 0 rfl rfl 3 (by decide) k2 (fun _ h9 => h9) rfl dX2_add_13 ?_
    refine lv_aload_n hx hb dX2_add_16 rfl (lv_at hl 0 rfl) ?_
    refine va_get (D := E.1) (ci := 2) (v := .int (Group_size v)) (C := RX2) (T := TX2) (N := 11) hx hb hts k1 hown hK hP 0 rfl rfl 0 (by decide) k0 (fun _ h9 => h9) rfl dX2_add_17 ?_
    refine lv_iload_n hx hb dX2_add_20 rfl (lv_at hl 1 rfl) ?_
    obtain ⟨h2, hF⟩ := m_chk hF
    refine va_iast (f := (Group_kinds v)) hx hb hK hP hD hS 1 1 rfl rfl (mIn_ok h2) dX2_add_21 (fun H locs hP hD hS => ?_)
    have hP : va_P E.1 vwCl (Group_c E a (Group_kinds_s v (upd (Group_kinds v) ((Group_size v)).toNatClampNeg x0))) H := hP
    have hD : va_D A (Group_c E a (Group_kinds_s v (upd (Group_kinds v) ((Group_size v)).toNatClampNeg x0))) := hD
    refine lv_aload_n hx hb dX2_add_22 rfl (lv_at hl 0 rfl) ?_
    refine va_get (D := E.1) (ci := 2) (v := .ref (Groupa_vs a)) (C := RX2) (T := TX2) (N := 11) hx hb hts k1 hown hK hP 0 rfl rfl 4 (by decide) k3 (fun _ h9 => h9) rfl dX2_add_23 ?_
    refine lv_aload_n hx hb dX2_add_26 rfl (lv_at hl 0 rfl) ?_
    refine va_get (D := E.1) (ci := 2) (v := .int (Group_size v)) (C := RX2) (T := TX2) (N := 11) hx hb hts k1 hown hK hP 0 rfl rfl 0 (by decide) k0 (fun _ h9 => h9) rfl dX2_add_27 ?_
    refine lv_iload_n hx hb dX2_add_30 rfl (lv_at hl 2 rfl) ?_
    obtain ⟨h3, hF⟩ := m_chk hF
    refine va_iast (f := (Group_vs v)) hx hb hK hP hD hS 2 1 rfl rfl (mIn_ok h3) dX2_add_31 (fun H locs hP hD hS => ?_)
    have hP : va_P E.1 vwCl (Group_c E a (Group_vs_s (Group_kinds_s v (upd (Group_kinds v) ((Group_size v)).toNatClampNeg x0)) (upd (Group_vs v) ((Group_size v)).toNatClampNeg x1))) H := hP
    have hD : va_D A (Group_c E a (Group_vs_s (Group_kinds_s v (upd (Group_kinds v) ((Group_size v)).toNatClampNeg x0)) (upd (Group_vs v) ((Group_size v)).toNatClampNeg x1))) := hD
    refine lv_aload_n hx hb dX2_add_32 rfl (lv_at hl 0 rfl) ?_
    refine va_get (D := E.1) (ci := 2) (v := .ref (Groupa_skills a)) (C := RX2) (T := TX2) (N := 11) hx hb hts k1 hown hK hP 0 rfl rfl 5 (by decide) k4 (fun _ h9 => h9) rfl dX2_add_33 ?_
    refine lv_aload_n hx hb dX2_add_36 rfl (lv_at hl 0 rfl) ?_
    refine va_get (D := E.1) (ci := 2) (v := .int (Group_size v)) (C := RX2) (T := TX2) (N := 11) hx hb hts k1 hown hK hP 0 rfl rfl 0 (by decide) k0 (fun _ h9 => h9) rfl dX2_add_37 ?_
    refine lv_iload_n hx hb dX2_add_40 rfl (lv_at hl 3 rfl) ?_
    obtain ⟨h4, hF⟩ := m_chk hF
    refine va_iast (f := (Group_skills v)) hx hb hK hP hD hS 3 1 rfl rfl (mIn_ok h4) dX2_add_41 (fun H locs hP hD hS => ?_)
    have hP : va_P E.1 vwCl (Group_c E a (Group_skills_s (Group_vs_s (Group_kinds_s v (upd (Group_kinds v) ((Group_size v)).toNatClampNeg x0)) (upd (Group_vs v) ((Group_size v)).toNatClampNeg x1)) (upd (Group_skills v) ((Group_size v)).toNatClampNeg x2))) H := hP
    have hD : va_D A (Group_c E a (Group_skills_s (Group_vs_s (Group_kinds_s v (upd (Group_kinds v) ((Group_size v)).toNatClampNeg x0)) (upd (Group_vs v) ((Group_size v)).toNatClampNeg x1)) (upd (Group_skills v) ((Group_size v)).toNatClampNeg x2))) := hD
    refine lv_aload_n hx hb dX2_add_42 rfl (lv_at hl 0 rfl) ?_
    refine va_get (D := E.1) (ci := 2) (v := .ref (Groupa_wills a)) (C := RX2) (T := TX2) (N := 11) hx hb hts k1 hown hK hP 0 rfl rfl 6 (by decide) k5 (fun _ h9 => h9) rfl dX2_add_43 ?_
    refine lv_aload_n hx hb dX2_add_46 rfl (lv_at hl 0 rfl) ?_
    refine va_get (D := E.1) (ci := 2) (v := .int (Group_size v)) (C := RX2) (T := TX2) (N := 11) hx hb hts k1 hown hK hP 0 rfl rfl 0 (by decide) k0 (fun _ h9 => h9) rfl dX2_add_47 ?_
    refine lv_iload hx hb dX2_add_50 (lv_at hl 4 rfl) ?_
    obtain ⟨h5, hF⟩ := m_chk hF
    refine va_iast (f := (Group_wills v)) hx hb hK hP hD hS 4 1 rfl rfl (mIn_ok h5) dX2_add_52 (fun H locs hP hD hS => ?_)
    have hP : va_P E.1 vwCl (Group_c E a (Group_wills_s (Group_skills_s (Group_vs_s (Group_kinds_s v (upd (Group_kinds v) ((Group_size v)).toNatClampNeg x0)) (upd (Group_vs v) ((Group_size v)).toNatClampNeg x1)) (upd (Group_skills v) ((Group_size v)).toNatClampNeg x2)) (upd (Group_wills v) ((Group_size v)).toNatClampNeg x3))) H := hP
    have hD : va_D A (Group_c E a (Group_wills_s (Group_skills_s (Group_vs_s (Group_kinds_s v (upd (Group_kinds v) ((Group_size v)).toNatClampNeg x0)) (upd (Group_vs v) ((Group_size v)).toNatClampNeg x1)) (upd (Group_skills v) ((Group_size v)).toNatClampNeg x2)) (upd (Group_wills v) ((Group_size v)).toNatClampNeg x3))) := hD
    refine lv_aload_n hx hb dX2_add_53 rfl (lv_at hl 0 rfl) ?_
    refine va_get (D := E.1) (ci := 2) (v := .ref (Groupa_hours a)) (C := RX2) (T := TX2) (N := 11) hx hb hts k1 hown hK hP 0 rfl rfl 7 (by decide) k6 (fun _ h9 => h9) rfl dX2_add_54 ?_
    refine lv_aload_n hx hb dX2_add_57 rfl (lv_at hl 0 rfl) ?_
    refine va_get (D := E.1) (ci := 2) (v := .int (Group_size v)) (C := RX2) (T := TX2) (N := 11) hx hb hts k1 hown hK hP 0 rfl rfl 0 (by decide) k0 (fun _ h9 => h9) rfl dX2_add_58 ?_
    refine lv_iconst (v := 0) hx hb dX2_add_61 (by decide) ?_
    obtain ⟨h6, hF⟩ := m_chk hF
    refine va_iast (f := (Group_hours v)) hx hb hK hP hD hS 5 1 rfl rfl (mIn_ok h6) dX2_add_62 (fun H locs hP hD hS => ?_)
    have hP : va_P E.1 vwCl (Group_c E a (Group_hours_s (Group_wills_s (Group_skills_s (Group_vs_s (Group_kinds_s v (upd (Group_kinds v) ((Group_size v)).toNatClampNeg x0)) (upd (Group_vs v) ((Group_size v)).toNatClampNeg x1)) (upd (Group_skills v) ((Group_size v)).toNatClampNeg x2)) (upd (Group_wills v) ((Group_size v)).toNatClampNeg x3)) (upd (Group_hours v) ((Group_size v)).toNatClampNeg 0))) H := hP
    have hD : va_D A (Group_c E a (Group_hours_s (Group_wills_s (Group_skills_s (Group_vs_s (Group_kinds_s v (upd (Group_kinds v) ((Group_size v)).toNatClampNeg x0)) (upd (Group_vs v) ((Group_size v)).toNatClampNeg x1)) (upd (Group_skills v) ((Group_size v)).toNatClampNeg x2)) (upd (Group_wills v) ((Group_size v)).toNatClampNeg x3)) (upd (Group_hours v) ((Group_size v)).toNatClampNeg 0))) := hD
    refine lv_aload_n hx hb dX2_add_63 rfl (lv_at hl 0 rfl) ?_
    refine va_get (D := E.1) (ci := 2) (v := .ref (Groupa_outs a)) (C := RX2) (T := TX2) (N := 11) hx hb hts k1 hown hK hP 0 rfl rfl 8 (by decide) k7 (fun _ h9 => h9) rfl dX2_add_64 ?_
    refine lv_aload_n hx hb dX2_add_67 rfl (lv_at hl 0 rfl) ?_
    refine va_get (D := E.1) (ci := 2) (v := .int (Group_size v)) (C := RX2) (T := TX2) (N := 11) hx hb hts k1 hown hK hP 0 rfl rfl 0 (by decide) k0 (fun _ h9 => h9) rfl dX2_add_68 ?_
    refine lv_iconst (v := 0) hx hb dX2_add_71 (by decide) ?_
    obtain ⟨h7, hF⟩ := m_chk hF
    refine va_zast (f := (Group_outs v)) hx hb hK hP hD hS 6 2 rfl rfl (mIn_ok h7) dX2_add_72 (fun H locs hP hD hS => ?_)
    have hP : va_P E.1 vwCl (Group_c E a (Group_outs_s (Group_hours_s (Group_wills_s (Group_skills_s (Group_vs_s (Group_kinds_s v (upd (Group_kinds v) ((Group_size v)).toNatClampNeg x0)) (upd (Group_vs v) ((Group_size v)).toNatClampNeg x1)) (upd (Group_skills v) ((Group_size v)).toNatClampNeg x2)) (upd (Group_wills v) ((Group_size v)).toNatClampNeg x3)) (upd (Group_hours v) ((Group_size v)).toNatClampNeg 0)) (upd (Group_outs v) ((Group_size v)).toNatClampNeg (vp_nar .boolean 0)))) H := hP
    have hD : va_D A (Group_c E a (Group_outs_s (Group_hours_s (Group_wills_s (Group_skills_s (Group_vs_s (Group_kinds_s v (upd (Group_kinds v) ((Group_size v)).toNatClampNeg x0)) (upd (Group_vs v) ((Group_size v)).toNatClampNeg x1)) (upd (Group_skills v) ((Group_size v)).toNatClampNeg x2)) (upd (Group_wills v) ((Group_size v)).toNatClampNeg x3)) (upd (Group_hours v) ((Group_size v)).toNatClampNeg 0)) (upd (Group_outs v) ((Group_size v)).toNatClampNeg (vp_nar .boolean 0)))) := hD
    refine lv_iconst (v := 0) hx hb dX2_add_73 (by decide) ?_
    refine lv_istore (lv' := [(5, .int 0), (0, .ref (Groupa_self a)), (1, .int x0), (2, .int x1), (3, .int x2), (4, .int x3)]) hx hb dX2_add_74 hl (by decide) rfl (fun ls hl => ?_)
    obtain ⟨j103, hjd103, hF⟩ := m_jp hF
    have hj103 : ∀ (wx_103 : GroupV) (H : Heap) (locs : List Loc) (ls : Array Slot), j103 wx_103 = some t → va_P E.1 vwCl (Group_c E a wx_103) H → va_D A (Group_c E a wx_103) → va_S A s.heap H locs → lv_has ls 6 [(0, .ref (Groupa_self a))] → W p l e_ rmX2_add s m args below meth c H locs 0 0 Q (F0 m 103 ls []) := by
      intro wx_103 H locs ls hF hP hD hS hl
      rw [hjd103] at hF
      refine lv_aload_n hx hb dX2_add_103 rfl (lv_at hl 0 rfl) ?_
      refine lv_dup hx hb dX2_add_104 rfl ?_
      refine va_get (D := E.1) (ci := 2) (v := .int (Group_size wx_103)) (C := RX2) (T := TX2) (N := 11) hx hb hts k1 hown hK hP 0 rfl rfl 0 (by decide) k0 (fun _ h9 => h9) rfl dX2_add_105 ?_
      refine lv_iconst (v := 1) hx hb dX2_add_108 (by decide) ?_
      refine lv_iadd hx hb dX2_add_109 ?_
      refine va_put (D := E.1) (ci := 2) (v := .int ((Group_size wx_103) + 1)) (ty := .int) (C := RX2) (T := TX2) (N := 11) hx hb hts k1 tyX2 tyX2_ok nmX2 hown hK hP hD hS 0 rfl rfl 0 (by decide) k0 (fun _ h9 => h9) rfl (by decide +kernel) rfl rfl (Nat.le_of_ble_eq_true rfl) dX2_add_110 (fun H locs hP hD hS => ?_)
      have hP : va_P E.1 vwCl (Group_c E a (Group_size_s wx_103 ((Group_size wx_103) + 1))) H := hP
      have hD : va_D A (Group_c E a (Group_size_s wx_103 ((Group_size wx_103) + 1))) := hD
      refine lv_aload_n hx hb dX2_add_113 rfl (lv_at hl 0 rfl) ?_
      refine va_get (D := E.1) (ci := 2) (v := .int ((Group_size wx_103) + 1)) (C := RX2) (T := TX2) (N := 11) hx hb hts k1 hown hK hP 0 rfl rfl 0 (by decide) k0 (fun _ h9 => h9) rfl dX2_add_114 ?_
      refine lv_iconst (v := 1) hx hb dX2_add_117 (by decide) ?_
      refine lv_isub hx hb dX2_add_118 ?_
      have hF := Option.some.inj hF
      subst hF
      rw [hQ]
      exact W.iret hx hb hr (fun t ht _ => ⟨⟨rfl, by rw [ht]; exact hP, hD⟩, hS.F ht⟩) hS.2.2 dX2_add_119
    clear hjd103
    have hL76 : ∀ (n : Nat) (y5_76 : Int32) (wy_76 : GroupV) (H : Heap) (locs : List Loc) (ls : Array Slot), lp_X2_add_76 j103 n y5_76 wy_76 = some t → va_P E.1 vwCl (Group_c E a wy_76) H → va_D A (Group_c E a wy_76) → va_S A s.heap H locs → lv_has ls 6 [(0, .ref (Groupa_self a)), (5, .int y5_76)] → W p l e_ rmX2_add s m args below meth c H locs 0 0 Q (F0 m 76 ls []) := by
      intro n
      induction n with
      | zero =>
        intro y5_76 wy_76 H locs ls hF
        exact nomatch (show (none : Option (Int32 × GroupV)) = some t from hF)
      | succ n ih76 =>
        intro y5_76 wy_76 H locs ls hF hP hD hS hl
        have hF : st_X2_add_76 j103 (lp_X2_add_76 j103 n) y5_76 wy_76 = some t := hF
        unfold st_X2_add_76 at hF
        refine lv_iload hx hb dX2_add_76 (lv_at hl 1 rfl) ?_
        refine lv_iconst (v := 4) hx hb dX2_add_78 (by decide) ?_
        refine lv_icmp_ge (tgt := 103) hx hb dX2_add_79 (by decide) (fun c8 => ?_) (fun c8 => ?_)
        · have hF := m_pos c8 hF
          exact hj103 wy_76 H locs ls hF hP hD hS (lv_sub hl [0] rfl)
        · have hF := m_neg c8 hF
          refine lv_aload_n hx hb dX2_add_82 rfl (lv_at hl 0 rfl) ?_
          refine va_get (D := E.1) (ci := 2) (v := .ref (Groupa_rows a)) (C := RX2) (T := TX2) (N := 11) hx hb hts k1 hown hK hP 0 rfl rfl 9 (by decide) k8 (fun _ h9 => h9) rfl dX2_add_83 ?_
          refine lv_aload_n hx hb dX2_add_86 rfl (lv_at hl 0 rfl) ?_
          refine va_get (D := E.1) (ci := 2) (v := .int (Group_size wy_76)) (C := RX2) (T := TX2) (N := 11) hx hb hts k1 hown hK hP 0 rfl rfl 0 (by decide) k0 (fun _ h9 => h9) rfl dX2_add_87 ?_
          refine lv_iconst (v := 4) hx hb dX2_add_90 (by decide) ?_
          refine lv_imul hx hb dX2_add_91 ?_
          refine lv_iload hx hb dX2_add_92 (lv_at hl 1 rfl) ?_
          refine lv_iadd hx hb dX2_add_94 ?_
          refine lv_iconst (v := 0) hx hb dX2_add_95 (by decide) ?_
          obtain ⟨h9, hF⟩ := m_chk hF
          refine va_iast (f := (Group_rows wy_76)) hx hb hK hP hD hS 7 1 rfl rfl (mIn_ok h9) dX2_add_96 (fun H locs hP hD hS => ?_)
          have hP : va_P E.1 vwCl (Group_c E a (Group_rows_s wy_76 (upd (Group_rows wy_76) ((((Group_size wy_76) * 4) + y5_76)).toNatClampNeg 0))) H := hP
          have hD : va_D A (Group_c E a (Group_rows_s wy_76 (upd (Group_rows wy_76) ((((Group_size wy_76) * 4) + y5_76)).toNatClampNeg 0))) := hD
          refine lv_iinc (v := (y5_76 + 1)) (lv' := [(5, .int (y5_76 + 1)), (0, .ref (Groupa_self a))]) hx hb dX2_add_97 hl (k := 1) rfl rfl (by decide) rfl (fun ls hl => ?_)
          refine lv_goto (tgt := 76) hx hb dX2_add_100 (by decide) ?_
          exact ih76 (y5_76 + 1) (Group_rows_s wy_76 (upd (Group_rows wy_76) ((((Group_size wy_76) * 4) + y5_76)).toNatClampNeg 0)) H locs ls hF hP hD hS (lv_sub hl [1, 0] rfl)
    exact hL76 m_N 0 (Group_outs_s (Group_hours_s (Group_wills_s (Group_skills_s (Group_vs_s (Group_kinds_s v (upd (Group_kinds v) ((Group_size v)).toNatClampNeg x0)) (upd (Group_vs v) ((Group_size v)).toNatClampNeg x1)) (upd (Group_skills v) ((Group_size v)).toNatClampNeg x2)) (upd (Group_wills v) ((Group_size v)).toNatClampNeg x3)) (upd (Group_hours v) ((Group_size v)).toNatClampNeg 0)) (upd (Group_outs v) ((Group_size v)).toNatClampNeg (vp_nar .boolean 0))) H locs ls hF hP hD hS (lv_sub hl [1, 0] rfl)
  · have hF := m_neg c1 hF
    refine lv_bipush (v := (-4)) hx hb dX2_add_9 (by decide) ?_
    have hF := Option.some.inj hF
    subst hF
    rw [hQ]
    exact W.iret hx hb hr (fun t ht _ => ⟨⟨rfl, by rw [ht]; exact hP, hD⟩, hS.F ht⟩) hS.2.2 dX2_add_11

abbrev rmX2_copyFrom : Room := { frames := 1, cells := 0, slots := 0, locals := 40 }
set_option maxRecDepth 100000 in
set_option maxHeartbeats 400000 in
theorem c_X2_copyFrom (l : Launch) (E : mE) (a : GroupA) (v : GroupV) (a0 : GroupA) (v0 : GroupV) (t : GroupV) (hF : fn_X2_copyFrom v v0 = some t) (sz : Nat) : Met l yX2_copyFrom wsX2_copyFrom rmX2_copyFrom (mPm E [.ref (Groupa_self a), .ref (Groupa_self a0)] sz (((Group_c E a v) ++ (Group_c E a0 v0))) (([] : va_W))) (mSm E (none) (((Group_c E a t) ++ (Group_c E a0 v0))) (va_A (((Group_c E a v) ++ (Group_c E a0 v0))) sz)) 0 0 (va_A (((Group_c E a v) ++ (Group_c E a0 v0))) sz) := by
  refine mOfM (cc := cX2_copyFrom) (maxL := 3) (ret := none) (by decide) rfl (Nat.le_of_ble_eq_true rfl) ?_
  intro p e_ s m args below meth c Q A hQ CC hr hlocks hin hA hP hD hKN hGl hR0 hRA ls hl
  have hS : va_S A s.heap s.heap [] := va_S.rf
  have hK := hKN.1
  have hx := CC.1
  have hb := CC.2.1
  have hml := CC.2.2.1
  have hown : s.vm.findClass RX2 = some m.cls := CC.2.2.2.1
  have hts := CC.2.2.2.2
  have hl : lv_has ls 3 [(0, .ref (Groupa_self a)), (1, .ref (Groupa_self a0))] := hl
  have k0 := hts (.fieldLink RX2 9 "OneDidAll$Group" "size" "I") (by decide +kernel)
  have k1 := (show ∀ w ∈ u_ws RX2 TX2 11, w ∈ wsX2_copyFrom by decide +kernel)
  have k2 := hts (.fieldLink RX2 15 "OneDidAll$Group" "week" "I") (by decide +kernel)
  have k3 := hts (.fieldLink RX2 18 "OneDidAll$Group" "work" "I") (by decide +kernel)
  have k4 := hts (.fieldLink RX2 41 "OneDidAll$Group" "rows" "[I") (by decide +kernel)
  have k5 := hts (.methodLink RX2 47 arraycopyName) (by decide +kernel)
  have k6 := hts (.native arraycopyName) (by decide +kernel)
  have k7 := hts (.static arraycopyName) (by decide +kernel)
  have k8 := hts (.initialized "java/lang/System") (by decide +kernel)
  have k9 := hts (.fieldLink RX2 21 "OneDidAll$Group" "kinds" "[I") (by decide +kernel)
  have k10 := hts (.fieldLink RX2 25 "OneDidAll$Group" "vs" "[I") (by decide +kernel)
  have k11 := hts (.fieldLink RX2 28 "OneDidAll$Group" "skills" "[I") (by decide +kernel)
  have k12 := hts (.fieldLink RX2 31 "OneDidAll$Group" "wills" "[I") (by decide +kernel)
  have k13 := hts (.fieldLink RX2 34 "OneDidAll$Group" "hours" "[I") (by decide +kernel)
  have k14 := hts (.fieldLink RX2 37 "OneDidAll$Group" "outs" "[Z") (by decide +kernel)
  have hP : va_P E.1 vwCl ((Group_c E a v) ++ (Group_c E a0 v0)) s.heap := hP
  obtain ⟨H, hH⟩ : ∃ H, H = s.heap := ⟨_, rfl⟩
  obtain ⟨locs, hlc⟩ : ∃ z : List Loc, z = [] := ⟨_, rfl⟩
  rw [← hH] at hP
  rw [← hlc] at hS
  have hS : va_S A s.heap H locs := by rw [hH]; exact hS
  rw [← hH, ← hlc]
  unfold fn_X2_copyFrom at hF
  refine lv_aload_n hx hb dX2_copyFrom_0 rfl (lv_at hl 0 rfl) ?_
  refine lv_aload_n hx hb dX2_copyFrom_1 rfl (lv_at hl 1 rfl) ?_
  refine va_get (D := E.1) (ci := 2) (v := .int (Group_size v0)) (C := RX2) (T := TX2) (N := 11) hx hb hts k1 hown hK hP 9 rfl rfl 0 (by decide) k0 (fun _ h9 => h9) rfl dX2_copyFrom_2 ?_
  refine va_put (D := E.1) (ci := 2) (v := .int (Group_size v0)) (ty := .int) (C := RX2) (T := TX2) (N := 11) hx hb hts k1 tyX2 tyX2_ok nmX2 hown hK hP hD hS 0 rfl rfl 0 (by decide) k0 (fun _ h9 => h9) rfl (by decide +kernel) rfl rfl (Nat.le_of_ble_eq_true rfl) dX2_copyFrom_5 (fun H locs hP hD hS => ?_)
  have hP : va_P E.1 vwCl ((Group_c E a (Group_size_s v (Group_size v0))) ++ (Group_c E a0 v0)) H := hP
  have hD : va_D A ((Group_c E a (Group_size_s v (Group_size v0))) ++ (Group_c E a0 v0)) := hD
  refine lv_aload_n hx hb dX2_copyFrom_8 rfl (lv_at hl 0 rfl) ?_
  refine lv_aload_n hx hb dX2_copyFrom_9 rfl (lv_at hl 1 rfl) ?_
  refine va_get (D := E.1) (ci := 2) (v := .int (Group_week v0)) (C := RX2) (T := TX2) (N := 11) hx hb hts k1 hown hK hP 9 rfl rfl 1 (by decide) k2 (fun _ h9 => h9) rfl dX2_copyFrom_10 ?_
  refine va_put (D := E.1) (ci := 2) (v := .int (Group_week v0)) (ty := .int) (C := RX2) (T := TX2) (N := 11) hx hb hts k1 tyX2 tyX2_ok nmX2 hown hK hP hD hS 0 rfl rfl 1 (by decide) k2 (fun _ h9 => h9) rfl (by decide +kernel) rfl rfl (Nat.le_of_ble_eq_true rfl) dX2_copyFrom_13 (fun H locs hP hD hS => ?_)
  have hP : va_P E.1 vwCl ((Group_c E a (Group_week_s (Group_size_s v (Group_size v0)) (Group_week v0))) ++ (Group_c E a0 v0)) H := hP
  have hD : va_D A ((Group_c E a (Group_week_s (Group_size_s v (Group_size v0)) (Group_week v0))) ++ (Group_c E a0 v0)) := hD
  refine lv_aload_n hx hb dX2_copyFrom_16 rfl (lv_at hl 0 rfl) ?_
  refine lv_aload_n hx hb dX2_copyFrom_17 rfl (lv_at hl 1 rfl) ?_
  refine va_get (D := E.1) (ci := 2) (v := .int (Group_work v0)) (C := RX2) (T := TX2) (N := 11) hx hb hts k1 hown hK hP 9 rfl rfl 2 (by decide) k3 (fun _ h9 => h9) rfl dX2_copyFrom_18 ?_
  refine va_put (D := E.1) (ci := 2) (v := .int (Group_work v0)) (ty := .int) (C := RX2) (T := TX2) (N := 11) hx hb hts k1 tyX2 tyX2_ok nmX2 hown hK hP hD hS 0 rfl rfl 2 (by decide) k3 (fun _ h9 => h9) rfl (by decide +kernel) rfl rfl (Nat.le_of_ble_eq_true rfl) dX2_copyFrom_21 (fun H locs hP hD hS => ?_)
  have hP : va_P E.1 vwCl ((Group_c E a (Group_work_s (Group_week_s (Group_size_s v (Group_size v0)) (Group_week v0)) (Group_work v0))) ++ (Group_c E a0 v0)) H := hP
  have hD : va_D A ((Group_c E a (Group_work_s (Group_week_s (Group_size_s v (Group_size v0)) (Group_week v0)) (Group_work v0))) ++ (Group_c E a0 v0)) := hD
  refine lv_iconst (v := 0) hx hb dX2_copyFrom_24 (by decide) ?_
  refine lv_istore_n (lv' := [(2, .int 0), (0, .ref (Groupa_self a)), (1, .ref (Groupa_self a0))]) hx hb dX2_copyFrom_25 rfl hl (by decide) rfl (fun ls hl => ?_)
  obtain ⟨j112, hjd112, hF⟩ := m_jp hF
  have hj112 : ∀ (wx_112 : GroupV) (H : Heap) (locs : List Loc) (ls : Array Slot), j112 wx_112 = some t → va_P E.1 vwCl ((Group_c E a wx_112) ++ (Group_c E a0 v0)) H → va_D A ((Group_c E a wx_112) ++ (Group_c E a0 v0)) → va_S A s.heap H locs → lv_has ls 3 [(0, .ref (Groupa_self a)), (1, .ref (Groupa_self a0))] → W p l e_ rmX2_copyFrom s m args below meth c H locs 0 0 Q (F0 m 112 ls []) := by
    intro wx_112 H locs ls hF hP hD hS hl
    rw [hjd112] at hF
    refine lv_aload_n hx hb dX2_copyFrom_112 rfl (lv_at hl 1 rfl) ?_
    refine va_get (D := E.1) (ci := 2) (v := .ref (Groupa_rows a0)) (C := RX2) (T := TX2) (N := 11) hx hb hts k1 hown hK hP 9 rfl rfl 9 (by decide) k4 (fun _ h9 => h9) rfl dX2_copyFrom_113 ?_
    refine lv_iconst (v := 0) hx hb dX2_copyFrom_116 (by decide) ?_
    refine lv_aload_n hx hb dX2_copyFrom_117 rfl (lv_at hl 0 rfl) ?_
    refine va_get (D := E.1) (ci := 2) (v := .ref (Groupa_rows a)) (C := RX2) (T := TX2) (N := 11) hx hb hts k1 hown hK hP 0 rfl rfl 9 (by decide) k4 (fun _ h9 => h9) rfl dX2_copyFrom_118 ?_
    refine lv_iconst (v := 0) hx hb dX2_copyFrom_121 (by decide) ?_
    refine lv_aload_n hx hb dX2_copyFrom_122 rfl (lv_at hl 0 rfl) ?_
    refine va_get (D := E.1) (ci := 2) (v := .int (Group_size wx_112)) (C := RX2) (T := TX2) (N := 11) hx hb hts k1 hown hK hP 0 rfl rfl 0 (by decide) k0 (fun _ h9 => h9) rfl dX2_copyFrom_123 ?_
    refine lv_iconst (v := 4) hx hb dX2_copyFrom_126 (by decide) ?_
    refine lv_imul hx hb dX2_copyFrom_127 ?_
    obtain ⟨h1, hF⟩ := m_chk hF
    obtain ⟨h2, hF⟩ := m_chk hF
    refine va_copyi (f := (Group_rows v0)) (g := (Group_rows wx_112)) hx hb (hml.trans hl.1.symm) hown k5 k6 k7 k8 hK hP hD hS 16 7 1 1 rfl rfl rfl rfl rfl (by decide) (by decide) h1 h2 h2 (fun _ _ => rfl) (Nat.le_of_ble_eq_true rfl) (Nat.le_of_ble_eq_true rfl) dX2_copyFrom_128 (fun H locs hP hD hS => ?_)
    have hP : va_P E.1 vwCl ((Group_c E a (Group_rows_s wx_112 (va_cpy (Group_rows v0) (Group_rows wx_112) (0 : Int32).toNatClampNeg (0 : Int32).toNatClampNeg (((Group_size wx_112) * 4)).toNatClampNeg))) ++ (Group_c E a0 v0)) H := hP
    have hD : va_D A ((Group_c E a (Group_rows_s wx_112 (va_cpy (Group_rows v0) (Group_rows wx_112) (0 : Int32).toNatClampNeg (0 : Int32).toNatClampNeg (((Group_size wx_112) * 4)).toNatClampNeg))) ++ (Group_c E a0 v0)) := hD
    refine W.eq (g2 := F0 m 131 ls []) rfl ?_
    have hF := Option.some.inj hF
    subst hF
    rw [hQ]
    exact W.vret hx hb hr (fun t ht _ => ⟨⟨rfl, by rw [ht]; exact hP, hD⟩, hS.F ht⟩) hS.2.2 dX2_copyFrom_131
  clear hjd112
  have hL26 : ∀ (n : Nat) (y2_26 : Int32) (wy_26 : GroupV) (H : Heap) (locs : List Loc) (ls : Array Slot), lp_X2_copyFrom_26 v0 j112 n y2_26 wy_26 = some t → va_P E.1 vwCl ((Group_c E a wy_26) ++ (Group_c E a0 v0)) H → va_D A ((Group_c E a wy_26) ++ (Group_c E a0 v0)) → va_S A s.heap H locs → lv_has ls 3 [(0, .ref (Groupa_self a)), (1, .ref (Groupa_self a0)), (2, .int y2_26)] → W p l e_ rmX2_copyFrom s m args below meth c H locs 0 0 Q (F0 m 26 ls []) := by
    intro n
    induction n with
    | zero =>
      intro y2_26 wy_26 H locs ls hF
      exact nomatch (show (none : Option GroupV) = some t from hF)
    | succ n ih26 =>
      intro y2_26 wy_26 H locs ls hF hP hD hS hl
      have hF : st_X2_copyFrom_26 v0 j112 (lp_X2_copyFrom_26 v0 j112 n) y2_26 wy_26 = some t := hF
      unfold st_X2_copyFrom_26 at hF
      refine lv_iload_n hx hb dX2_copyFrom_26 rfl (lv_at hl 2 rfl) ?_
      refine lv_aload_n hx hb dX2_copyFrom_27 rfl (lv_at hl 0 rfl) ?_
      refine va_get (D := E.1) (ci := 2) (v := .int (Group_size wy_26)) (C := RX2) (T := TX2) (N := 11) hx hb hts k1 hown hK hP 0 rfl rfl 0 (by decide) k0 (fun _ h9 => h9) rfl dX2_copyFrom_28 ?_
      refine lv_icmp_ge (tgt := 112) hx hb dX2_copyFrom_31 (by decide) (fun c3 => ?_) (fun c3 => ?_)
      · have hF := m_pos c3 hF
        exact hj112 wy_26 H locs ls hF hP hD hS (lv_sub hl [0, 1] rfl)
      · have hF := m_neg c3 hF
        refine lv_aload_n hx hb dX2_copyFrom_34 rfl (lv_at hl 0 rfl) ?_
        refine va_get (D := E.1) (ci := 2) (v := .ref (Groupa_kinds a)) (C := RX2) (T := TX2) (N := 11) hx hb hts k1 hown hK hP 0 rfl rfl 3 (by decide) k9 (fun _ h9 => h9) rfl dX2_copyFrom_35 ?_
        refine lv_iload_n hx hb dX2_copyFrom_38 rfl (lv_at hl 2 rfl) ?_
        refine lv_aload_n hx hb dX2_copyFrom_39 rfl (lv_at hl 1 rfl) ?_
        refine va_get (D := E.1) (ci := 2) (v := .ref (Groupa_kinds a0)) (C := RX2) (T := TX2) (N := 11) hx hb hts k1 hown hK hP 9 rfl rfl 3 (by decide) k9 (fun _ h9 => h9) rfl dX2_copyFrom_40 ?_
        refine lv_iload_n hx hb dX2_copyFrom_43 rfl (lv_at hl 2 rfl) ?_
        obtain ⟨h4, hF⟩ := m_chk hF
        refine va_iald (f := (Group_kinds v0)) hx hb hK hP 10 1 rfl rfl (mIn_ok h4) dX2_copyFrom_44 ?_
        refine W.eq (g2 := F0 m 45 ls [.int ((Group_kinds v0) (y2_26).toNatClampNeg), .int y2_26, .ref (Groupa_kinds a)]) rfl ?_
        obtain ⟨h5, hF⟩ := m_chk hF
        refine va_iast (f := (Group_kinds wy_26)) hx hb hK hP hD hS 1 1 rfl rfl (mIn_ok h5) dX2_copyFrom_45 (fun H locs hP hD hS => ?_)
        have hP : va_P E.1 vwCl ((Group_c E a (Group_kinds_s wy_26 (upd (Group_kinds wy_26) (y2_26).toNatClampNeg ((Group_kinds v0) (y2_26).toNatClampNeg)))) ++ (Group_c E a0 v0)) H := hP
        have hD : va_D A ((Group_c E a (Group_kinds_s wy_26 (upd (Group_kinds wy_26) (y2_26).toNatClampNeg ((Group_kinds v0) (y2_26).toNatClampNeg)))) ++ (Group_c E a0 v0)) := hD
        refine lv_aload_n hx hb dX2_copyFrom_46 rfl (lv_at hl 0 rfl) ?_
        refine va_get (D := E.1) (ci := 2) (v := .ref (Groupa_vs a)) (C := RX2) (T := TX2) (N := 11) hx hb hts k1 hown hK hP 0 rfl rfl 4 (by decide) k10 (fun _ h9 => h9) rfl dX2_copyFrom_47 ?_
        refine lv_iload_n hx hb dX2_copyFrom_50 rfl (lv_at hl 2 rfl) ?_
        refine lv_aload_n hx hb dX2_copyFrom_51 rfl (lv_at hl 1 rfl) ?_
        refine va_get (D := E.1) (ci := 2) (v := .ref (Groupa_vs a0)) (C := RX2) (T := TX2) (N := 11) hx hb hts k1 hown hK hP 9 rfl rfl 4 (by decide) k10 (fun _ h9 => h9) rfl dX2_copyFrom_52 ?_
        refine lv_iload_n hx hb dX2_copyFrom_55 rfl (lv_at hl 2 rfl) ?_
        obtain ⟨h6, hF⟩ := m_chk hF
        refine va_iald (f := (Group_vs v0)) hx hb hK hP 11 1 rfl rfl (mIn_ok h6) dX2_copyFrom_56 ?_
        refine W.eq (g2 := F0 m 57 ls [.int ((Group_vs v0) (y2_26).toNatClampNeg), .int y2_26, .ref (Groupa_vs a)]) rfl ?_
        obtain ⟨h7, hF⟩ := m_chk hF
        refine va_iast (f := (Group_vs wy_26)) hx hb hK hP hD hS 2 1 rfl rfl (mIn_ok h7) dX2_copyFrom_57 (fun H locs hP hD hS => ?_)
        have hP : va_P E.1 vwCl ((Group_c E a (Group_vs_s (Group_kinds_s wy_26 (upd (Group_kinds wy_26) (y2_26).toNatClampNeg ((Group_kinds v0) (y2_26).toNatClampNeg))) (upd (Group_vs wy_26) (y2_26).toNatClampNeg ((Group_vs v0) (y2_26).toNatClampNeg)))) ++ (Group_c E a0 v0)) H := hP
        have hD : va_D A ((Group_c E a (Group_vs_s (Group_kinds_s wy_26 (upd (Group_kinds wy_26) (y2_26).toNatClampNeg ((Group_kinds v0) (y2_26).toNatClampNeg))) (upd (Group_vs wy_26) (y2_26).toNatClampNeg ((Group_vs v0) (y2_26).toNatClampNeg)))) ++ (Group_c E a0 v0)) := hD
        refine lv_aload_n hx hb dX2_copyFrom_58 rfl (lv_at hl 0 rfl) ?_
        refine va_get (D := E.1) (ci := 2) (v := .ref (Groupa_skills a)) (C := RX2) (T := TX2) (N := 11) hx hb hts k1 hown hK hP 0 rfl rfl 5 (by decide) k11 (fun _ h9 => h9) rfl dX2_copyFrom_59 ?_
        refine lv_iload_n hx hb dX2_copyFrom_62 rfl (lv_at hl 2 rfl) ?_
        refine lv_aload_n hx hb dX2_copyFrom_63 rfl (lv_at hl 1 rfl) ?_
        refine va_get (D := E.1) (ci := 2) (v := .ref (Groupa_skills a0)) (C := RX2) (T := TX2) (N := 11) hx hb hts k1 hown hK hP 9 rfl rfl 5 (by decide) k11 (fun _ h9 => h9) rfl dX2_copyFrom_64 ?_
        refine lv_iload_n hx hb dX2_copyFrom_67 rfl (lv_at hl 2 rfl) ?_
        obtain ⟨h8, hF⟩ := m_chk hF
        refine va_iald (f := (Group_skills v0)) hx hb hK hP 12 1 rfl rfl (mIn_ok h8) dX2_copyFrom_68 ?_
        refine W.eq (g2 := F0 m 69 ls [.int ((Group_skills v0) (y2_26).toNatClampNeg), .int y2_26, .ref (Groupa_skills a)]) rfl ?_
        obtain ⟨h9, hF⟩ := m_chk hF
        refine va_iast (f := (Group_skills wy_26)) hx hb hK hP hD hS 3 1 rfl rfl (mIn_ok h9) dX2_copyFrom_69 (fun H locs hP hD hS => ?_)
        have hP : va_P E.1 vwCl ((Group_c E a (Group_skills_s (Group_vs_s (Group_kinds_s wy_26 (upd (Group_kinds wy_26) (y2_26).toNatClampNeg ((Group_kinds v0) (y2_26).toNatClampNeg))) (upd (Group_vs wy_26) (y2_26).toNatClampNeg ((Group_vs v0) (y2_26).toNatClampNeg))) (upd (Group_skills wy_26) (y2_26).toNatClampNeg ((Group_skills v0) (y2_26).toNatClampNeg)))) ++ (Group_c E a0 v0)) H := hP
        have hD : va_D A ((Group_c E a (Group_skills_s (Group_vs_s (Group_kinds_s wy_26 (upd (Group_kinds wy_26) (y2_26).toNatClampNeg ((Group_kinds v0) (y2_26).toNatClampNeg))) (upd (Group_vs wy_26) (y2_26).toNatClampNeg ((Group_vs v0) (y2_26).toNatClampNeg))) (upd (Group_skills wy_26) (y2_26).toNatClampNeg ((Group_skills v0) (y2_26).toNatClampNeg)))) ++ (Group_c E a0 v0)) := hD
        refine lv_aload_n hx hb dX2_copyFrom_70 rfl (lv_at hl 0 rfl) ?_
        refine va_get (D := E.1) (ci := 2) (v := .ref (Groupa_wills a)) (C := RX2) (T := TX2) (N := 11) hx hb hts k1 hown hK hP 0 rfl rfl 6 (by decide) k12 (fun _ h9 => h9) rfl dX2_copyFrom_71 ?_
        refine lv_iload_n hx hb dX2_copyFrom_74 rfl (lv_at hl 2 rfl) ?_
        refine lv_aload_n hx hb dX2_copyFrom_75 rfl (lv_at hl 1 rfl) ?_
        refine va_get (D := E.1) (ci := 2) (v := .ref (Groupa_wills a0)) (C := RX2) (T := TX2) (N := 11) hx hb hts k1 hown hK hP 9 rfl rfl 6 (by decide) k12 (fun _ h9 => h9) rfl dX2_copyFrom_76 ?_
        refine lv_iload_n hx hb dX2_copyFrom_79 rfl (lv_at hl 2 rfl) ?_
        obtain ⟨h10, hF⟩ := m_chk hF
        refine va_iald (f := (Group_wills v0)) hx hb hK hP 13 1 rfl rfl (mIn_ok h10) dX2_copyFrom_80 ?_
        refine W.eq (g2 := F0 m 81 ls [.int ((Group_wills v0) (y2_26).toNatClampNeg), .int y2_26, .ref (Groupa_wills a)]) rfl ?_
        obtain ⟨h11, hF⟩ := m_chk hF
        refine va_iast (f := (Group_wills wy_26)) hx hb hK hP hD hS 4 1 rfl rfl (mIn_ok h11) dX2_copyFrom_81 (fun H locs hP hD hS => ?_)
        have hP : va_P E.1 vwCl ((Group_c E a (Group_wills_s (Group_skills_s (Group_vs_s (Group_kinds_s wy_26 (upd (Group_kinds wy_26) (y2_26).toNatClampNeg ((Group_kinds v0) (y2_26).toNatClampNeg))) (upd (Group_vs wy_26) (y2_26).toNatClampNeg ((Group_vs v0) (y2_26).toNatClampNeg))) (upd (Group_skills wy_26) (y2_26).toNatClampNeg ((Group_skills v0) (y2_26).toNatClampNeg))) (upd (Group_wills wy_26) (y2_26).toNatClampNeg ((Group_wills v0) (y2_26).toNatClampNeg)))) ++ (Group_c E a0 v0)) H := hP
        have hD : va_D A ((Group_c E a (Group_wills_s (Group_skills_s (Group_vs_s (Group_kinds_s wy_26 (upd (Group_kinds wy_26) (y2_26).toNatClampNeg ((Group_kinds v0) (y2_26).toNatClampNeg))) (upd (Group_vs wy_26) (y2_26).toNatClampNeg ((Group_vs v0) (y2_26).toNatClampNeg))) (upd (Group_skills wy_26) (y2_26).toNatClampNeg ((Group_skills v0) (y2_26).toNatClampNeg))) (upd (Group_wills wy_26) (y2_26).toNatClampNeg ((Group_wills v0) (y2_26).toNatClampNeg)))) ++ (Group_c E a0 v0)) := hD
        refine lv_aload_n hx hb dX2_copyFrom_82 rfl (lv_at hl 0 rfl) ?_
        refine va_get (D := E.1) (ci := 2) (v := .ref (Groupa_hours a)) (C := RX2) (T := TX2) (N := 11) hx hb hts k1 hown hK hP 0 rfl rfl 7 (by decide) k13 (fun _ h9 => h9) rfl dX2_copyFrom_83 ?_
        refine lv_iload_n hx hb dX2_copyFrom_86 rfl (lv_at hl 2 rfl) ?_
        refine lv_aload_n hx hb dX2_copyFrom_87 rfl (lv_at hl 1 rfl) ?_
        refine va_get (D := E.1) (ci := 2) (v := .ref (Groupa_hours a0)) (C := RX2) (T := TX2) (N := 11) hx hb hts k1 hown hK hP 9 rfl rfl 7 (by decide) k13 (fun _ h9 => h9) rfl dX2_copyFrom_88 ?_
        refine lv_iload_n hx hb dX2_copyFrom_91 rfl (lv_at hl 2 rfl) ?_
        obtain ⟨h12, hF⟩ := m_chk hF
        refine va_iald (f := (Group_hours v0)) hx hb hK hP 14 1 rfl rfl (mIn_ok h12) dX2_copyFrom_92 ?_
        refine W.eq (g2 := F0 m 93 ls [.int ((Group_hours v0) (y2_26).toNatClampNeg), .int y2_26, .ref (Groupa_hours a)]) rfl ?_
        obtain ⟨h13, hF⟩ := m_chk hF
        refine va_iast (f := (Group_hours wy_26)) hx hb hK hP hD hS 5 1 rfl rfl (mIn_ok h13) dX2_copyFrom_93 (fun H locs hP hD hS => ?_)
        have hP : va_P E.1 vwCl ((Group_c E a (Group_hours_s (Group_wills_s (Group_skills_s (Group_vs_s (Group_kinds_s wy_26 (upd (Group_kinds wy_26) (y2_26).toNatClampNeg ((Group_kinds v0) (y2_26).toNatClampNeg))) (upd (Group_vs wy_26) (y2_26).toNatClampNeg ((Group_vs v0) (y2_26).toNatClampNeg))) (upd (Group_skills wy_26) (y2_26).toNatClampNeg ((Group_skills v0) (y2_26).toNatClampNeg))) (upd (Group_wills wy_26) (y2_26).toNatClampNeg ((Group_wills v0) (y2_26).toNatClampNeg))) (upd (Group_hours wy_26) (y2_26).toNatClampNeg ((Group_hours v0) (y2_26).toNatClampNeg)))) ++ (Group_c E a0 v0)) H := hP
        have hD : va_D A ((Group_c E a (Group_hours_s (Group_wills_s (Group_skills_s (Group_vs_s (Group_kinds_s wy_26 (upd (Group_kinds wy_26) (y2_26).toNatClampNeg ((Group_kinds v0) (y2_26).toNatClampNeg))) (upd (Group_vs wy_26) (y2_26).toNatClampNeg ((Group_vs v0) (y2_26).toNatClampNeg))) (upd (Group_skills wy_26) (y2_26).toNatClampNeg ((Group_skills v0) (y2_26).toNatClampNeg))) (upd (Group_wills wy_26) (y2_26).toNatClampNeg ((Group_wills v0) (y2_26).toNatClampNeg))) (upd (Group_hours wy_26) (y2_26).toNatClampNeg ((Group_hours v0) (y2_26).toNatClampNeg)))) ++ (Group_c E a0 v0)) := hD
        refine lv_aload_n hx hb dX2_copyFrom_94 rfl (lv_at hl 0 rfl) ?_
        refine va_get (D := E.1) (ci := 2) (v := .ref (Groupa_outs a)) (C := RX2) (T := TX2) (N := 11) hx hb hts k1 hown hK hP 0 rfl rfl 8 (by decide) k14 (fun _ h9 => h9) rfl dX2_copyFrom_95 ?_
        refine lv_iload_n hx hb dX2_copyFrom_98 rfl (lv_at hl 2 rfl) ?_
        refine lv_aload_n hx hb dX2_copyFrom_99 rfl (lv_at hl 1 rfl) ?_
        refine va_get (D := E.1) (ci := 2) (v := .ref (Groupa_outs a0)) (C := RX2) (T := TX2) (N := 11) hx hb hts k1 hown hK hP 9 rfl rfl 8 (by decide) k14 (fun _ h9 => h9) rfl dX2_copyFrom_100 ?_
        refine lv_iload_n hx hb dX2_copyFrom_103 rfl (lv_at hl 2 rfl) ?_
        obtain ⟨h14, hF⟩ := m_chk hF
        refine va_zald (f := (Group_outs v0)) hx hb hK hP 15 2 rfl rfl (mIn_ok h14) dX2_copyFrom_104 ?_
        refine W.eq (g2 := F0 m 105 ls [.int ((Group_outs v0) (y2_26).toNatClampNeg), .int y2_26, .ref (Groupa_outs a)]) rfl ?_
        obtain ⟨h15, hF⟩ := m_chk hF
        refine va_zast (f := (Group_outs wy_26)) hx hb hK hP hD hS 6 2 rfl rfl (mIn_ok h15) dX2_copyFrom_105 (fun H locs hP hD hS => ?_)
        have hP : va_P E.1 vwCl ((Group_c E a (Group_outs_s (Group_hours_s (Group_wills_s (Group_skills_s (Group_vs_s (Group_kinds_s wy_26 (upd (Group_kinds wy_26) (y2_26).toNatClampNeg ((Group_kinds v0) (y2_26).toNatClampNeg))) (upd (Group_vs wy_26) (y2_26).toNatClampNeg ((Group_vs v0) (y2_26).toNatClampNeg))) (upd (Group_skills wy_26) (y2_26).toNatClampNeg ((Group_skills v0) (y2_26).toNatClampNeg))) (upd (Group_wills wy_26) (y2_26).toNatClampNeg ((Group_wills v0) (y2_26).toNatClampNeg))) (upd (Group_hours wy_26) (y2_26).toNatClampNeg ((Group_hours v0) (y2_26).toNatClampNeg))) (upd (Group_outs wy_26) (y2_26).toNatClampNeg (vp_nar .boolean ((Group_outs v0) (y2_26).toNatClampNeg))))) ++ (Group_c E a0 v0)) H := hP
        have hD : va_D A ((Group_c E a (Group_outs_s (Group_hours_s (Group_wills_s (Group_skills_s (Group_vs_s (Group_kinds_s wy_26 (upd (Group_kinds wy_26) (y2_26).toNatClampNeg ((Group_kinds v0) (y2_26).toNatClampNeg))) (upd (Group_vs wy_26) (y2_26).toNatClampNeg ((Group_vs v0) (y2_26).toNatClampNeg))) (upd (Group_skills wy_26) (y2_26).toNatClampNeg ((Group_skills v0) (y2_26).toNatClampNeg))) (upd (Group_wills wy_26) (y2_26).toNatClampNeg ((Group_wills v0) (y2_26).toNatClampNeg))) (upd (Group_hours wy_26) (y2_26).toNatClampNeg ((Group_hours v0) (y2_26).toNatClampNeg))) (upd (Group_outs wy_26) (y2_26).toNatClampNeg (vp_nar .boolean ((Group_outs v0) (y2_26).toNatClampNeg))))) ++ (Group_c E a0 v0)) := hD
        refine lv_iinc (v := (y2_26 + 1)) (lv' := [(2, .int (y2_26 + 1)), (0, .ref (Groupa_self a)), (1, .ref (Groupa_self a0))]) hx hb dX2_copyFrom_106 hl (k := 2) rfl rfl (by decide) rfl (fun ls hl => ?_)
        refine lv_goto (tgt := 26) hx hb dX2_copyFrom_109 (by decide) ?_
        exact ih26 (y2_26 + 1) (Group_outs_s (Group_hours_s (Group_wills_s (Group_skills_s (Group_vs_s (Group_kinds_s wy_26 (upd (Group_kinds wy_26) (y2_26).toNatClampNeg ((Group_kinds v0) (y2_26).toNatClampNeg))) (upd (Group_vs wy_26) (y2_26).toNatClampNeg ((Group_vs v0) (y2_26).toNatClampNeg))) (upd (Group_skills wy_26) (y2_26).toNatClampNeg ((Group_skills v0) (y2_26).toNatClampNeg))) (upd (Group_wills wy_26) (y2_26).toNatClampNeg ((Group_wills v0) (y2_26).toNatClampNeg))) (upd (Group_hours wy_26) (y2_26).toNatClampNeg ((Group_hours v0) (y2_26).toNatClampNeg))) (upd (Group_outs wy_26) (y2_26).toNatClampNeg (vp_nar .boolean ((Group_outs v0) (y2_26).toNatClampNeg)))) H locs ls hF hP hD hS (lv_sub hl [1, 2, 0] rfl)
  exact hL26 m_N 0 (Group_work_s (Group_week_s (Group_size_s v (Group_size v0)) (Group_week v0)) (Group_work v0)) H locs ls hF hP hD hS (lv_sub hl [1, 2, 0] rfl)

abbrev rmX2_subjectOf : Room := { frames := 0, cells := 0, slots := 0, locals := 0 }
set_option maxRecDepth 100000 in
set_option maxHeartbeats 400000 in
theorem c_X2_subjectOf (l : Launch) (E : mE) (a : GroupA) (v : GroupV) (x0 : Int32) (x1 : Int32) (t : Int32) (hF : fn_X2_subjectOf v x0 x1 = some t) : Met l yX2_subjectOf wsX2_subjectOf rmX2_subjectOf (mPp E [.ref (Groupa_self a), .int x0, .int x1] (Group_c E a v)) (mSp (some (.int t))) 0 0 (fun _ => False) := by
  refine mOfP (cc := cX2_subjectOf) (maxL := 3) (ret := (some .int)) (by decide) rfl (Nat.le_of_ble_eq_true rfl) ?_
  intro p e_ s m args below meth c Q hQ CC hr hlocks hP hKN hGl ls hl
  have hS : va_S (fun _ => False) s.heap s.heap [] := va_S.rf
  have hK := hKN.1
  have hx := CC.1
  have hb := CC.2.1
  have hml := CC.2.2.1
  have hown : s.vm.findClass RX2 = some m.cls := CC.2.2.2.1
  have hts := CC.2.2.2.2
  have hl : lv_has ls 3 [(0, .ref (Groupa_self a)), (1, .int x0), (2, .int x1)] := hl
  have k0 := hts (.fieldLink RX2 21 "OneDidAll$Group" "kinds" "[I") (by decide +kernel)
  have k1 := (show ∀ w ∈ u_ws RX2 TX2 11, w ∈ wsX2_subjectOf by decide +kernel)
  have k2 := hts (.fieldLink RX2 25 "OneDidAll$Group" "vs" "[I") (by decide +kernel)
  have k3 := hts (.fieldLink RX2 28 "OneDidAll$Group" "skills" "[I") (by decide +kernel)
  have k4 := hts (.fieldLink RX2 34 "OneDidAll$Group" "hours" "[I") (by decide +kernel)
  have k5 := hts (.fieldLink RX2 15 "OneDidAll$Group" "week" "I") (by decide +kernel)
  unfold fn_X2_subjectOf at hF
  refine lv_iload_n hx hb dX2_subjectOf_0 rfl (lv_at hl 2 rfl) ?_
  by_cases c1 : x1 = 0
  · have hF := m_pos c1 hF
    refine lv_tableIn (off := 35) (tgt := 36) hx hb dX2_subjectOf_1 (by rw [c1]; decide) (by rw [c1]; decide) (by rw [c1]; rfl) (by decide) ?_
    refine lv_iload_n hx hb dX2_subjectOf_36 rfl (lv_at hl 1 rfl) ?_
    have hF := Option.some.inj hF
    subst hF
    rw [hQ]
    exact W.iret hx hb hr (fun t ht _ => ⟨rfl, ht⟩) (fun _ h => by cases h) dX2_subjectOf_37
  · have hF := m_neg c1 hF
    by_cases c2 : x1 = 1
    · have hF := m_pos c2 hF
      refine lv_tableIn (off := 37) (tgt := 38) hx hb dX2_subjectOf_1 (by rw [c2]; decide) (by rw [c2]; decide) (by rw [c2]; rfl) (by decide) ?_
      refine lv_aload_n hx hb dX2_subjectOf_38 rfl (lv_at hl 0 rfl) ?_
      refine va_get (D := E.1) (ci := 2) (v := .ref (Groupa_kinds a)) (C := RX2) (T := TX2) (N := 11) hx hb hts k1 hown hK hP 0 rfl rfl 3 (by decide) k0 (fun _ h9 => h9) rfl dX2_subjectOf_39 ?_
      refine lv_iload_n hx hb dX2_subjectOf_42 rfl (lv_at hl 1 rfl) ?_
      obtain ⟨h3, hF⟩ := m_chk hF
      refine va_iald (f := (Group_kinds v)) hx hb hK hP 1 1 rfl rfl (mIn_ok h3) dX2_subjectOf_43 ?_
      refine W.eq (g2 := F0 m 44 ls [.int ((Group_kinds v) (x0).toNatClampNeg)]) rfl ?_
      have hF := Option.some.inj hF
      subst hF
      rw [hQ]
      exact W.iret hx hb hr (fun t ht _ => ⟨rfl, ht⟩) (fun _ h => by cases h) dX2_subjectOf_44
    · have hF := m_neg c2 hF
      by_cases c4 : x1 = 2
      · have hF := m_pos c4 hF
        refine lv_tableIn (off := 44) (tgt := 45) hx hb dX2_subjectOf_1 (by rw [c4]; decide) (by rw [c4]; decide) (by rw [c4]; rfl) (by decide) ?_
        refine lv_aload_n hx hb dX2_subjectOf_45 rfl (lv_at hl 0 rfl) ?_
        refine va_get (D := E.1) (ci := 2) (v := .ref (Groupa_vs a)) (C := RX2) (T := TX2) (N := 11) hx hb hts k1 hown hK hP 0 rfl rfl 4 (by decide) k2 (fun _ h9 => h9) rfl dX2_subjectOf_46 ?_
        refine lv_iload_n hx hb dX2_subjectOf_49 rfl (lv_at hl 1 rfl) ?_
        obtain ⟨h5, hF⟩ := m_chk hF
        refine va_iald (f := (Group_vs v)) hx hb hK hP 2 1 rfl rfl (mIn_ok h5) dX2_subjectOf_50 ?_
        refine W.eq (g2 := F0 m 51 ls [.int ((Group_vs v) (x0).toNatClampNeg)]) rfl ?_
        have hF := Option.some.inj hF
        subst hF
        rw [hQ]
        exact W.iret hx hb hr (fun t ht _ => ⟨rfl, ht⟩) (fun _ h => by cases h) dX2_subjectOf_51
      · have hF := m_neg c4 hF
        by_cases c6 : x1 = 3
        · have hF := m_pos c6 hF
          refine lv_tableIn (off := 51) (tgt := 52) hx hb dX2_subjectOf_1 (by rw [c6]; decide) (by rw [c6]; decide) (by rw [c6]; rfl) (by decide) ?_
          refine lv_aload_n hx hb dX2_subjectOf_52 rfl (lv_at hl 0 rfl) ?_
          refine va_get (D := E.1) (ci := 2) (v := .ref (Groupa_skills a)) (C := RX2) (T := TX2) (N := 11) hx hb hts k1 hown hK hP 0 rfl rfl 5 (by decide) k3 (fun _ h9 => h9) rfl dX2_subjectOf_53 ?_
          refine lv_iload_n hx hb dX2_subjectOf_56 rfl (lv_at hl 1 rfl) ?_
          obtain ⟨h7, hF⟩ := m_chk hF
          refine va_iald (f := (Group_skills v)) hx hb hK hP 3 1 rfl rfl (mIn_ok h7) dX2_subjectOf_57 ?_
          refine W.eq (g2 := F0 m 58 ls [.int ((Group_skills v) (x0).toNatClampNeg)]) rfl ?_
          have hF := Option.some.inj hF
          subst hF
          rw [hQ]
          exact W.iret hx hb hr (fun t ht _ => ⟨rfl, ht⟩) (fun _ h => by cases h) dX2_subjectOf_58
        · have hF := m_neg c6 hF
          by_cases c8 : x1 = 4
          · have hF := m_pos c8 hF
            refine lv_tableIn (off := 58) (tgt := 59) hx hb dX2_subjectOf_1 (by rw [c8]; decide) (by rw [c8]; decide) (by rw [c8]; rfl) (by decide) ?_
            refine lv_aload_n hx hb dX2_subjectOf_59 rfl (lv_at hl 0 rfl) ?_
            refine va_get (D := E.1) (ci := 2) (v := .ref (Groupa_hours a)) (C := RX2) (T := TX2) (N := 11) hx hb hts k1 hown hK hP 0 rfl rfl 7 (by decide) k4 (fun _ h9 => h9) rfl dX2_subjectOf_60 ?_
            refine lv_iload_n hx hb dX2_subjectOf_63 rfl (lv_at hl 1 rfl) ?_
            obtain ⟨h9, hF⟩ := m_chk hF
            refine va_iald (f := (Group_hours v)) hx hb hK hP 5 1 rfl rfl (mIn_ok h9) dX2_subjectOf_64 ?_
            refine W.eq (g2 := F0 m 65 ls [.int ((Group_hours v) (x0).toNatClampNeg)]) rfl ?_
            refine lv_bipush (v := 10) hx hb dX2_subjectOf_65 (by decide) ?_
            refine lv_idiv hx hb dX2_subjectOf_67 (by decide) ?_
            have hF := Option.some.inj hF
            subst hF
            rw [hQ]
            exact W.iret hx hb hr (fun t ht _ => ⟨rfl, ht⟩) (fun _ h => by cases h) dX2_subjectOf_68
          · have hF := m_neg c8 hF
            have qc1 := lv_neT (a := 0) c1 rfl
            have qc2 := lv_neT (a := 1) c2 rfl
            have qc4 := lv_neT (a := 2) c4 rfl
            have qc6 := lv_neT (a := 3) c6 rfl
            have qc8 := lv_neT (a := 4) c8 rfl
            refine lv_tableOut (tgt := 69) hx hb dX2_subjectOf_1 (by omega) (by decide) ?_
            refine lv_aload_n hx hb dX2_subjectOf_69 rfl (lv_at hl 0 rfl) ?_
            refine va_get (D := E.1) (ci := 2) (v := .int (Group_week v)) (C := RX2) (T := TX2) (N := 11) hx hb hts k1 hown hK hP 0 rfl rfl 1 (by decide) k5 (fun _ h9 => h9) rfl dX2_subjectOf_70 ?_
            refine lv_bipush (v := 10) hx hb dX2_subjectOf_73 (by decide) ?_
            refine lv_irem hx hb dX2_subjectOf_75 (by decide) ?_
            refine W.eq (g2 := F0 m 76 ls [.int (mRem (Group_week v) 10)]) rfl ?_
            have hF := Option.some.inj hF
            subst hF
            rw [hQ]
            exact W.iret hx hb hr (fun t ht _ => ⟨rfl, ht⟩) (fun _ h => by cases h) dX2_subjectOf_76

abbrev rmX2_rowNow : Room := { frames := 0, cells := 0, slots := 0, locals := 0 }
set_option maxRecDepth 100000 in
set_option maxHeartbeats 400000 in
theorem c_X2_rowNow (l : Launch) (E : mE) (a : GroupA) (v : GroupV) (x0 : Int32) (t : Int32) (hF : fn_X2_rowNow v x0 = some t) : Met l yX2_rowNow wsX2_rowNow rmX2_rowNow (mPp E [.ref (Groupa_self a), .int x0] (Group_c E a v)) (mSp (some (.int t))) 0 0 (fun _ => False) := by
  refine mOfP (cc := cX2_rowNow) (maxL := 2) (ret := (some .int)) (by decide) rfl (Nat.le_of_ble_eq_true rfl) ?_
  intro p e_ s m args below meth c Q hQ CC hr hlocks hP hKN hGl ls hl
  have hS : va_S (fun _ => False) s.heap s.heap [] := va_S.rf
  have hK := hKN.1
  have hx := CC.1
  have hb := CC.2.1
  have hml := CC.2.2.1
  have hown : s.vm.findClass RX2 = some m.cls := CC.2.2.2.1
  have hts := CC.2.2.2.2
  have hl : lv_has ls 2 [(0, .ref (Groupa_self a)), (1, .int x0)] := hl
  have k0 := hts (.fieldLink RX2 41 "OneDidAll$Group" "rows" "[I") (by decide +kernel)
  have k1 := (show ∀ w ∈ u_ws RX2 TX2 11, w ∈ wsX2_rowNow by decide +kernel)
  have k2 := hts (.fieldLink RX2 15 "OneDidAll$Group" "week" "I") (by decide +kernel)
  unfold fn_X2_rowNow at hF
  refine lv_aload_n hx hb dX2_rowNow_0 rfl (lv_at hl 0 rfl) ?_
  refine va_get (D := E.1) (ci := 2) (v := .ref (Groupa_rows a)) (C := RX2) (T := TX2) (N := 11) hx hb hts k1 hown hK hP 0 rfl rfl 9 (by decide) k0 (fun _ h9 => h9) rfl dX2_rowNow_1 ?_
  refine lv_iload_n hx hb dX2_rowNow_4 rfl (lv_at hl 1 rfl) ?_
  refine lv_iconst (v := 4) hx hb dX2_rowNow_5 (by decide) ?_
  refine lv_imul hx hb dX2_rowNow_6 ?_
  refine lv_aload_n hx hb dX2_rowNow_7 rfl (lv_at hl 0 rfl) ?_
  refine va_get (D := E.1) (ci := 2) (v := .int (Group_week v)) (C := RX2) (T := TX2) (N := 11) hx hb hts k1 hown hK hP 0 rfl rfl 1 (by decide) k2 (fun _ h9 => h9) rfl dX2_rowNow_8 ?_
  refine lv_iconst (v := 4) hx hb dX2_rowNow_11 (by decide) ?_
  refine lv_irem hx hb dX2_rowNow_12 (by decide) ?_
  refine W.eq (g2 := F0 m 13 ls [.int (mRem (Group_week v) 4), .int (x0 * 4), .ref (Groupa_rows a)]) rfl ?_
  refine lv_iadd hx hb dX2_rowNow_13 ?_
  obtain ⟨h1, hF⟩ := m_chk hF
  refine va_iald (f := (Group_rows v)) hx hb hK hP 7 1 rfl rfl (mIn_ok h1) dX2_rowNow_14 ?_
  refine W.eq (g2 := F0 m 15 ls [.int ((Group_rows v) (((x0 * 4) + (mRem (Group_week v) 4))).toNatClampNeg)]) rfl ?_
  have hF := Option.some.inj hF
  subst hF
  rw [hQ]
  exact W.iret hx hb hr (fun t ht _ => ⟨rfl, ht⟩) (fun _ h => by cases h) dX2_rowNow_15

abbrev rmX2_countIn : Room := { frames := 0, cells := 0, slots := 0, locals := 0 }
set_option maxRecDepth 100000 in
set_option maxHeartbeats 400000 in
theorem c_X2_countIn (l : Launch) (E : mE) (a : GroupA) (v : GroupV) (t : Int32) (hF : fn_X2_countIn v = some t) : Met l yX2_countIn wsX2_countIn rmX2_countIn (mPp E [.ref (Groupa_self a)] (Group_c E a v)) (mSp (some (.int t))) 0 0 (fun _ => False) := by
  refine mOfP (cc := cX2_countIn) (maxL := 3) (ret := (some .int)) (by decide) rfl (Nat.le_of_ble_eq_true rfl) ?_
  intro p e_ s m args below meth c Q hQ CC hr hlocks hP hKN hGl ls hl
  have hS : va_S (fun _ => False) s.heap s.heap [] := va_S.rf
  have hK := hKN.1
  have hx := CC.1
  have hb := CC.2.1
  have hml := CC.2.2.1
  have hown : s.vm.findClass RX2 = some m.cls := CC.2.2.2.1
  have hts := CC.2.2.2.2
  have hl : lv_has ls 3 [(0, .ref (Groupa_self a))] := hl
  have k0 := hts (.fieldLink RX2 9 "OneDidAll$Group" "size" "I") (by decide +kernel)
  have k1 := (show ∀ w ∈ u_ws RX2 TX2 11, w ∈ wsX2_countIn by decide +kernel)
  have k2 := hts (.fieldLink RX2 37 "OneDidAll$Group" "outs" "[Z") (by decide +kernel)
  unfold fn_X2_countIn at hF
  refine lv_iconst (v := 0) hx hb dX2_countIn_0 (by decide) ?_
  refine lv_istore_n (lv' := [(1, .int 0), (0, .ref (Groupa_self a))]) hx hb dX2_countIn_1 rfl hl (by decide) rfl (fun ls hl => ?_)
  refine lv_iconst (v := 0) hx hb dX2_countIn_2 (by decide) ?_
  refine lv_istore_n (lv' := [(2, .int 0), (1, .int 0), (0, .ref (Groupa_self a))]) hx hb dX2_countIn_3 rfl hl (by decide) rfl (fun ls hl => ?_)
  have hL4 : ∀ (n : Nat) (y1_4 : Int32) (y2_4 : Int32) (ls : Array Slot), lp_X2_countIn_4 v n y1_4 y2_4 = some t → lv_has ls 3 [(0, .ref (Groupa_self a)), (1, .int y1_4), (2, .int y2_4)] → W p l e_ rmX2_countIn s m args below meth c s.heap [] 0 0 Q (F0 m 4 ls []) := by
    intro n
    induction n with
    | zero =>
      intro y1_4 y2_4 ls hF
      exact nomatch (show (none : Option Int32) = some t from hF)
    | succ n ih4 =>
      intro y1_4 y2_4 ls hF hl
      have hF : st_X2_countIn_4 v (lp_X2_countIn_4 v n) y1_4 y2_4 = some t := hF
      unfold st_X2_countIn_4 at hF
      refine lv_iload_n hx hb dX2_countIn_4 rfl (lv_at hl 2 rfl) ?_
      refine lv_aload_n hx hb dX2_countIn_5 rfl (lv_at hl 0 rfl) ?_
      refine va_get (D := E.1) (ci := 2) (v := .int (Group_size v)) (C := RX2) (T := TX2) (N := 11) hx hb hts k1 hown hK hP 0 rfl rfl 0 (by decide) k0 (fun _ h9 => h9) rfl dX2_countIn_6 ?_
      refine lv_icmp_ge (tgt := 30) hx hb dX2_countIn_9 (by decide) (fun c1 => ?_) (fun c1 => ?_)
      · have hF := m_pos c1 hF
        refine lv_iload_n hx hb dX2_countIn_30 rfl (lv_at hl 1 rfl) ?_
        have hF := Option.some.inj hF
        subst hF
        rw [hQ]
        exact W.iret hx hb hr (fun t ht _ => ⟨rfl, ht⟩) (fun _ h => by cases h) dX2_countIn_31
      · have hF := m_neg c1 hF
        refine lv_aload_n hx hb dX2_countIn_12 rfl (lv_at hl 0 rfl) ?_
        refine va_get (D := E.1) (ci := 2) (v := .ref (Groupa_outs a)) (C := RX2) (T := TX2) (N := 11) hx hb hts k1 hown hK hP 0 rfl rfl 8 (by decide) k2 (fun _ h9 => h9) rfl dX2_countIn_13 ?_
        refine lv_iload_n hx hb dX2_countIn_16 rfl (lv_at hl 2 rfl) ?_
        obtain ⟨h2, hF⟩ := m_chk hF
        refine va_zald (f := (Group_outs v)) hx hb hK hP 6 2 rfl rfl (mIn_ok h2) dX2_countIn_17 ?_
        refine W.eq (g2 := F0 m 18 ls [.int ((Group_outs v) (y2_4).toNatClampNeg)]) rfl ?_
        obtain ⟨j24, hjd24, hF⟩ := m_jp hF
        have hj24 : ∀ (x1_24 : Int32) (ls : Array Slot), j24 x1_24 = some t → lv_has ls 3 [(0, .ref (Groupa_self a)), (1, .int x1_24), (2, .int y2_4)] → W p l e_ rmX2_countIn s m args below meth c s.heap [] 0 0 Q (F0 m 24 ls []) := by
          intro x1_24 ls hF hl
          rw [hjd24] at hF
          refine lv_iinc (v := (y2_4 + 1)) (lv' := [(2, .int (y2_4 + 1)), (0, .ref (Groupa_self a)), (1, .int x1_24)]) hx hb dX2_countIn_24 hl (k := 2) rfl rfl (by decide) rfl (fun ls hl => ?_)
          refine lv_goto (tgt := 4) hx hb dX2_countIn_27 (by decide) ?_
          exact ih4 x1_24 (y2_4 + 1) ls hF (lv_sub hl [1, 2, 0] rfl)
        clear hjd24
        refine lv_if_ne (tgt := 24) hx hb dX2_countIn_18 (by decide) (fun c3 => ?_) (fun c3 => ?_)
        · have hF := m_pos c3 hF
          exact hj24 y1_4 ls hF (lv_sub hl [0, 1, 2] rfl)
        · have hF := m_neg (fun n9 => n9 c3) hF
          refine lv_iinc (v := (y1_4 + 1)) (lv' := [(1, .int (y1_4 + 1)), (0, .ref (Groupa_self a)), (2, .int y2_4)]) hx hb dX2_countIn_21 hl (k := 1) rfl rfl (by decide) rfl (fun ls hl => ?_)
          exact hj24 (y1_4 + 1) ls hF (lv_sub hl [1, 0, 2] rfl)
  exact hL4 m_N 0 0 ls hF (lv_sub hl [2, 1, 0] rfl)

abbrev rmX2_countBetter : Room := { frames := 0, cells := 0, slots := 0, locals := 0 }
set_option maxRecDepth 100000 in
set_option maxHeartbeats 400000 in
theorem c_X2_countBetter (l : Launch) (E : mE) (a : GroupA) (v : GroupV) (x0 : Int32) (t : Int32) (hF : fn_X2_countBetter v x0 = some t) : Met l yX2_countBetter wsX2_countBetter rmX2_countBetter (mPp E [.ref (Groupa_self a), .int x0] (Group_c E a v)) (mSp (some (.int t))) 0 0 (fun _ => False) := by
  refine mOfP (cc := cX2_countBetter) (maxL := 4) (ret := (some .int)) (by decide) rfl (Nat.le_of_ble_eq_true rfl) ?_
  intro p e_ s m args below meth c Q hQ CC hr hlocks hP hKN hGl ls hl
  have hS : va_S (fun _ => False) s.heap s.heap [] := va_S.rf
  have hK := hKN.1
  have hx := CC.1
  have hb := CC.2.1
  have hml := CC.2.2.1
  have hown : s.vm.findClass RX2 = some m.cls := CC.2.2.2.1
  have hts := CC.2.2.2.2
  have hl : lv_has ls 4 [(0, .ref (Groupa_self a)), (1, .int x0)] := hl
  have k0 := hts (.fieldLink RX2 9 "OneDidAll$Group" "size" "I") (by decide +kernel)
  have k1 := (show ∀ w ∈ u_ws RX2 TX2 11, w ∈ wsX2_countBetter by decide +kernel)
  have k2 := hts (.fieldLink RX2 37 "OneDidAll$Group" "outs" "[Z") (by decide +kernel)
  have k3 := hts (.fieldLink RX2 28 "OneDidAll$Group" "skills" "[I") (by decide +kernel)
  unfold fn_X2_countBetter at hF
  refine lv_iconst (v := 0) hx hb dX2_countBetter_0 (by decide) ?_
  refine lv_istore_n (lv' := [(2, .int 0), (0, .ref (Groupa_self a)), (1, .int x0)]) hx hb dX2_countBetter_1 rfl hl (by decide) rfl (fun ls hl => ?_)
  refine lv_iconst (v := 0) hx hb dX2_countBetter_2 (by decide) ?_
  refine lv_istore_n (lv' := [(3, .int 0), (2, .int 0), (0, .ref (Groupa_self a)), (1, .int x0)]) hx hb dX2_countBetter_3 rfl hl (by decide) rfl (fun ls hl => ?_)
  have hL4 : ∀ (n : Nat) (y2_4 : Int32) (y3_4 : Int32) (ls : Array Slot), lp_X2_countBetter_4 v x0 n y2_4 y3_4 = some t → lv_has ls 4 [(0, .ref (Groupa_self a)), (1, .int x0), (2, .int y2_4), (3, .int y3_4)] → W p l e_ rmX2_countBetter s m args below meth c s.heap [] 0 0 Q (F0 m 4 ls []) := by
    intro n
    induction n with
    | zero =>
      intro y2_4 y3_4 ls hF
      exact nomatch (show (none : Option Int32) = some t from hF)
    | succ n ih4 =>
      intro y2_4 y3_4 ls hF hl
      have hF : st_X2_countBetter_4 v x0 (lp_X2_countBetter_4 v x0 n) y2_4 y3_4 = some t := hF
      unfold st_X2_countBetter_4 at hF
      refine lv_iload_n hx hb dX2_countBetter_4 rfl (lv_at hl 3 rfl) ?_
      refine lv_aload_n hx hb dX2_countBetter_5 rfl (lv_at hl 0 rfl) ?_
      refine va_get (D := E.1) (ci := 2) (v := .int (Group_size v)) (C := RX2) (T := TX2) (N := 11) hx hb hts k1 hown hK hP 0 rfl rfl 0 (by decide) k0 (fun _ h9 => h9) rfl dX2_countBetter_6 ?_
      refine lv_icmp_ge (tgt := 45) hx hb dX2_countBetter_9 (by decide) (fun c1 => ?_) (fun c1 => ?_)
      · have hF := m_pos c1 hF
        refine lv_iload_n hx hb dX2_countBetter_45 rfl (lv_at hl 2 rfl) ?_
        have hF := Option.some.inj hF
        subst hF
        rw [hQ]
        exact W.iret hx hb hr (fun t ht _ => ⟨rfl, ht⟩) (fun _ h => by cases h) dX2_countBetter_46
      · have hF := m_neg c1 hF
        refine lv_aload_n hx hb dX2_countBetter_12 rfl (lv_at hl 0 rfl) ?_
        refine va_get (D := E.1) (ci := 2) (v := .ref (Groupa_outs a)) (C := RX2) (T := TX2) (N := 11) hx hb hts k1 hown hK hP 0 rfl rfl 8 (by decide) k2 (fun _ h9 => h9) rfl dX2_countBetter_13 ?_
        refine lv_iload_n hx hb dX2_countBetter_16 rfl (lv_at hl 3 rfl) ?_
        obtain ⟨h2, hF⟩ := m_chk hF
        refine va_zald (f := (Group_outs v)) hx hb hK hP 6 2 rfl rfl (mIn_ok h2) dX2_countBetter_17 ?_
        refine W.eq (g2 := F0 m 18 ls [.int ((Group_outs v) (y3_4).toNatClampNeg)]) rfl ?_
        obtain ⟨j39, hjd39, hF⟩ := m_jp hF
        have hj39 : ∀ (x2_39 : Int32) (ls : Array Slot), j39 x2_39 = some t → lv_has ls 4 [(0, .ref (Groupa_self a)), (1, .int x0), (2, .int x2_39), (3, .int y3_4)] → W p l e_ rmX2_countBetter s m args below meth c s.heap [] 0 0 Q (F0 m 39 ls []) := by
          intro x2_39 ls hF hl
          rw [hjd39] at hF
          refine lv_iinc (v := (y3_4 + 1)) (lv' := [(3, .int (y3_4 + 1)), (0, .ref (Groupa_self a)), (1, .int x0), (2, .int x2_39)]) hx hb dX2_countBetter_39 hl (k := 3) rfl rfl (by decide) rfl (fun ls hl => ?_)
          refine lv_goto (tgt := 4) hx hb dX2_countBetter_42 (by decide) ?_
          exact ih4 x2_39 (y3_4 + 1) ls hF (lv_sub hl [1, 2, 3, 0] rfl)
        clear hjd39
        refine lv_if_ne (tgt := 39) hx hb dX2_countBetter_18 (by decide) (fun c3 => ?_) (fun c3 => ?_)
        · have hF := m_pos c3 hF
          exact hj39 y2_4 ls hF (lv_sub hl [0, 1, 2, 3] rfl)
        · have hF := m_neg (fun n9 => n9 c3) hF
          refine lv_aload_n hx hb dX2_countBetter_21 rfl (lv_at hl 0 rfl) ?_
          refine va_get (D := E.1) (ci := 2) (v := .ref (Groupa_skills a)) (C := RX2) (T := TX2) (N := 11) hx hb hts k1 hown hK hP 0 rfl rfl 5 (by decide) k3 (fun _ h9 => h9) rfl dX2_countBetter_22 ?_
          refine lv_iload_n hx hb dX2_countBetter_25 rfl (lv_at hl 3 rfl) ?_
          obtain ⟨h4, hF⟩ := m_chk hF
          refine va_iald (f := (Group_skills v)) hx hb hK hP 3 1 rfl rfl (mIn_ok h4) dX2_countBetter_26 ?_
          refine W.eq (g2 := F0 m 27 ls [.int ((Group_skills v) (y3_4).toNatClampNeg)]) rfl ?_
          refine lv_aload_n hx hb dX2_countBetter_27 rfl (lv_at hl 0 rfl) ?_
          refine va_get (D := E.1) (ci := 2) (v := .ref (Groupa_skills a)) (C := RX2) (T := TX2) (N := 11) hx hb hts k1 hown hK hP 0 rfl rfl 5 (by decide) k3 (fun _ h9 => h9) rfl dX2_countBetter_28 ?_
          refine lv_iload_n hx hb dX2_countBetter_31 rfl (lv_at hl 1 rfl) ?_
          obtain ⟨h5, hF⟩ := m_chk hF
          refine va_iald (f := (Group_skills v)) hx hb hK hP 3 1 rfl rfl (mIn_ok h5) dX2_countBetter_32 ?_
          refine W.eq (g2 := F0 m 33 ls [.int ((Group_skills v) (x0).toNatClampNeg), .int ((Group_skills v) (y3_4).toNatClampNeg)]) rfl ?_
          refine lv_icmp_le (tgt := 39) hx hb dX2_countBetter_33 (by decide) (fun c6 => ?_) (fun c6 => ?_)
          · have hF := m_pos c6 hF
            exact hj39 y2_4 ls hF (lv_sub hl [0, 1, 2, 3] rfl)
          · have hF := m_neg c6 hF
            refine lv_iinc (v := (y2_4 + 1)) (lv' := [(2, .int (y2_4 + 1)), (0, .ref (Groupa_self a)), (1, .int x0), (3, .int y3_4)]) hx hb dX2_countBetter_36 hl (k := 2) rfl rfl (by decide) rfl (fun ls hl => ?_)
            exact hj39 (y2_4 + 1) ls hF (lv_sub hl [1, 2, 0, 3] rfl)
  exact hL4 m_N 0 0 ls hF (lv_sub hl [2, 3, 1, 0] rfl)

abbrev rmX2_hoursOfAll : Room := { frames := 0, cells := 0, slots := 0, locals := 0 }
set_option maxRecDepth 100000 in
set_option maxHeartbeats 400000 in
theorem c_X2_hoursOfAll (l : Launch) (E : mE) (a : GroupA) (v : GroupV) (t : Int32) (hF : fn_X2_hoursOfAll v = some t) : Met l yX2_hoursOfAll wsX2_hoursOfAll rmX2_hoursOfAll (mPp E [.ref (Groupa_self a)] (Group_c E a v)) (mSp (some (.int t))) 0 0 (fun _ => False) := by
  refine mOfP (cc := cX2_hoursOfAll) (maxL := 3) (ret := (some .int)) (by decide) rfl (Nat.le_of_ble_eq_true rfl) ?_
  intro p e_ s m args below meth c Q hQ CC hr hlocks hP hKN hGl ls hl
  have hS : va_S (fun _ => False) s.heap s.heap [] := va_S.rf
  have hK := hKN.1
  have hx := CC.1
  have hb := CC.2.1
  have hml := CC.2.2.1
  have hown : s.vm.findClass RX2 = some m.cls := CC.2.2.2.1
  have hts := CC.2.2.2.2
  have hl : lv_has ls 3 [(0, .ref (Groupa_self a))] := hl
  have k0 := hts (.fieldLink RX2 9 "OneDidAll$Group" "size" "I") (by decide +kernel)
  have k1 := (show ∀ w ∈ u_ws RX2 TX2 11, w ∈ wsX2_hoursOfAll by decide +kernel)
  have k2 := hts (.fieldLink RX2 34 "OneDidAll$Group" "hours" "[I") (by decide +kernel)
  unfold fn_X2_hoursOfAll at hF
  refine lv_iconst (v := 0) hx hb dX2_hoursOfAll_0 (by decide) ?_
  refine lv_istore_n (lv' := [(1, .int 0), (0, .ref (Groupa_self a))]) hx hb dX2_hoursOfAll_1 rfl hl (by decide) rfl (fun ls hl => ?_)
  refine lv_iconst (v := 0) hx hb dX2_hoursOfAll_2 (by decide) ?_
  refine lv_istore_n (lv' := [(2, .int 0), (1, .int 0), (0, .ref (Groupa_self a))]) hx hb dX2_hoursOfAll_3 rfl hl (by decide) rfl (fun ls hl => ?_)
  have hL4 : ∀ (n : Nat) (y1_4 : Int32) (y2_4 : Int32) (ls : Array Slot), lp_X2_hoursOfAll_4 v n y1_4 y2_4 = some t → lv_has ls 3 [(0, .ref (Groupa_self a)), (1, .int y1_4), (2, .int y2_4)] → W p l e_ rmX2_hoursOfAll s m args below meth c s.heap [] 0 0 Q (F0 m 4 ls []) := by
    intro n
    induction n with
    | zero =>
      intro y1_4 y2_4 ls hF
      exact nomatch (show (none : Option Int32) = some t from hF)
    | succ n ih4 =>
      intro y1_4 y2_4 ls hF hl
      have hF : st_X2_hoursOfAll_4 v (lp_X2_hoursOfAll_4 v n) y1_4 y2_4 = some t := hF
      unfold st_X2_hoursOfAll_4 at hF
      refine lv_iload_n hx hb dX2_hoursOfAll_4 rfl (lv_at hl 2 rfl) ?_
      refine lv_aload_n hx hb dX2_hoursOfAll_5 rfl (lv_at hl 0 rfl) ?_
      refine va_get (D := E.1) (ci := 2) (v := .int (Group_size v)) (C := RX2) (T := TX2) (N := 11) hx hb hts k1 hown hK hP 0 rfl rfl 0 (by decide) k0 (fun _ h9 => h9) rfl dX2_hoursOfAll_6 ?_
      refine lv_icmp_ge (tgt := 27) hx hb dX2_hoursOfAll_9 (by decide) (fun c1 => ?_) (fun c1 => ?_)
      · have hF := m_pos c1 hF
        refine lv_iload_n hx hb dX2_hoursOfAll_27 rfl (lv_at hl 1 rfl) ?_
        have hF := Option.some.inj hF
        subst hF
        rw [hQ]
        exact W.iret hx hb hr (fun t ht _ => ⟨rfl, ht⟩) (fun _ h => by cases h) dX2_hoursOfAll_28
      · have hF := m_neg c1 hF
        refine lv_iload_n hx hb dX2_hoursOfAll_12 rfl (lv_at hl 1 rfl) ?_
        refine lv_aload_n hx hb dX2_hoursOfAll_13 rfl (lv_at hl 0 rfl) ?_
        refine va_get (D := E.1) (ci := 2) (v := .ref (Groupa_hours a)) (C := RX2) (T := TX2) (N := 11) hx hb hts k1 hown hK hP 0 rfl rfl 7 (by decide) k2 (fun _ h9 => h9) rfl dX2_hoursOfAll_14 ?_
        refine lv_iload_n hx hb dX2_hoursOfAll_17 rfl (lv_at hl 2 rfl) ?_
        obtain ⟨h2, hF⟩ := m_chk hF
        refine va_iald (f := (Group_hours v)) hx hb hK hP 5 1 rfl rfl (mIn_ok h2) dX2_hoursOfAll_18 ?_
        refine W.eq (g2 := F0 m 19 ls [.int ((Group_hours v) (y2_4).toNatClampNeg), .int y1_4]) rfl ?_
        refine lv_iadd hx hb dX2_hoursOfAll_19 ?_
        refine lv_istore_n (lv' := [(1, .int (y1_4 + ((Group_hours v) (y2_4).toNatClampNeg))), (0, .ref (Groupa_self a)), (2, .int y2_4)]) hx hb dX2_hoursOfAll_20 rfl hl (by decide) rfl (fun ls hl => ?_)
        refine lv_iinc (v := (y2_4 + 1)) (lv' := [(2, .int (y2_4 + 1)), (1, .int (y1_4 + ((Group_hours v) (y2_4).toNatClampNeg))), (0, .ref (Groupa_self a))]) hx hb dX2_hoursOfAll_21 hl (k := 2) rfl rfl (by decide) rfl (fun ls hl => ?_)
        refine lv_goto (tgt := 4) hx hb dX2_hoursOfAll_24 (by decide) ?_
        exact ih4 (y1_4 + ((Group_hours v) (y2_4).toNatClampNeg)) (y2_4 + 1) ls hF (lv_sub hl [2, 1, 0] rfl)
  exact hL4 m_N 0 0 ls hF (lv_sub hl [2, 1, 0] rfl)

abbrev rmX2_shareOf : Room := { frames := 1, cells := 0, slots := 0, locals := 22 }
set_option maxRecDepth 100000 in
set_option maxHeartbeats 400000 in
theorem c_X2_shareOf (l : Launch) (E : mE) (a : GroupA) (v : GroupV) (x0 : Int32) (t : Int32) (hF : fn_X2_shareOf v x0 = some t) : Met l yX2_shareOf wsX2_shareOf rmX2_shareOf (mPp E [.ref (Groupa_self a), .int x0] (Group_c E a v)) (mSp (some (.int t))) 0 0 (fun _ => False) := by
  refine mOfP (cc := cX2_shareOf) (maxL := 3) (ret := (some .int)) (by decide) rfl (Nat.le_of_ble_eq_true rfl) ?_
  intro p e_ s m args below meth c Q hQ CC hr hlocks hP hKN hGl ls hl
  have hS : va_S (fun _ => False) s.heap s.heap [] := va_S.rf
  have hK := hKN.1
  have hx := CC.1
  have hb := CC.2.1
  have hml := CC.2.2.1
  have hown : s.vm.findClass RX2 = some m.cls := CC.2.2.2.1
  have hts := CC.2.2.2.2
  have hl : lv_has ls 3 [(0, .ref (Groupa_self a)), (1, .int x0)] := hl
  have k0 := hts (.fieldLink RX2 34 "OneDidAll$Group" "hours" "[I") (by decide +kernel)
  have k1 := (show ∀ w ∈ u_ws RX2 TX2 11, w ∈ wsX2_shareOf by decide +kernel)
  unfold fn_X2_shareOf at hF
  refine lv_aload_n hx hb dX2_shareOf_0 rfl (lv_at hl 0 rfl) ?_
  obtain ⟨t1, ht1, hF⟩ := m_bnd hF
  refine mVP (ci := 2) (n := 0) (rest := []) (As := []) CC hKN hGl hS (c_X2_hoursOfAll l E a v t1 ht1) gX2_shareOf_X2_hoursOfAll rfl ⟨rfl, rfl⟩ (by decide +kernel) ⟨Nat.le_of_ble_eq_true rfl, Nat.le_of_ble_eq_true rfl⟩ hP rfl rfl rfl rfl hl.1 rfl (Nat.le_of_ble_eq_true rfl) ⟨Nat.zero_le _, Nat.zero_le _⟩ dX2_shareOf_1 ?_
  refine W.eq (g2 := F0 m 4 ls [.int t1]) rfl ?_
  refine lv_istore_n (lv' := [(2, .int t1), (0, .ref (Groupa_self a)), (1, .int x0)]) hx hb dX2_shareOf_4 rfl hl (by decide) rfl (fun ls hl => ?_)
  refine lv_iload_n hx hb dX2_shareOf_5 rfl (lv_at hl 0 rfl) ?_
  refine lv_if_ne (tgt := 13) hx hb dX2_shareOf_6 (by decide) (fun c2 => ?_) (fun c2 => ?_)
  · have hF := m_pos c2 hF
    refine lv_bipush (v := 100) hx hb dX2_shareOf_13 (by decide) ?_
    refine lv_aload_n hx hb dX2_shareOf_15 rfl (lv_at hl 1 rfl) ?_
    refine va_get (D := E.1) (ci := 2) (v := .ref (Groupa_hours a)) (C := RX2) (T := TX2) (N := 11) hx hb hts k1 hown hK hP 0 rfl rfl 7 (by decide) k0 (fun _ h9 => h9) rfl dX2_shareOf_16 ?_
    refine lv_iload_n hx hb dX2_shareOf_19 rfl (lv_at hl 2 rfl) ?_
    obtain ⟨h3, hF⟩ := m_chk hF
    refine va_iald (f := (Group_hours v)) hx hb hK hP 5 1 rfl rfl (mIn_ok h3) dX2_shareOf_20 ?_
    refine W.eq (g2 := F0 m 21 ls [.int ((Group_hours v) (x0).toNatClampNeg), .int 100]) rfl ?_
    refine lv_imul hx hb dX2_shareOf_21 ?_
    refine lv_iload_n hx hb dX2_shareOf_22 rfl (lv_at hl 0 rfl) ?_
    obtain ⟨h4, hF⟩ := m_chk hF
    refine lv_idiv hx hb dX2_shareOf_23 h4 ?_
    have hF := Option.some.inj hF
    subst hF
    rw [hQ]
    exact W.iret hx hb hr (fun t ht _ => ⟨rfl, ht⟩) (fun _ h => by cases h) dX2_shareOf_24
  · have hF := m_neg (fun n9 => n9 c2) hF
    refine lv_iconst (v := 0) hx hb dX2_shareOf_9 (by decide) ?_
    refine lv_goto (tgt := 24) hx hb dX2_shareOf_10 (by decide) ?_
    have hF := Option.some.inj hF
    subst hF
    rw [hQ]
    exact W.iret hx hb hr (fun t ht _ => ⟨rfl, ht⟩) (fun _ h => by cases h) dX2_shareOf_24

abbrev rmX2_toHundred : Room := { frames := 1, cells := 0, slots := 0, locals := 21 }
set_option maxRecDepth 100000 in
set_option maxHeartbeats 400000 in
theorem c_X2_toHundred (l : Launch) (E : mE) (x0 : Int32) (t : Int32) (hF : fn_X2_toHundred x0 = some t) : Met l yX2_toHundred wsX2_toHundred rmX2_toHundred (mPp E [.int x0] ([] : va_W)) (mSp (some (.int t))) 0 0 (fun _ => False) := by
  refine mOfP (cc := cX2_toHundred) (maxL := 1) (ret := (some .int)) (by decide) rfl (Nat.le_of_ble_eq_true rfl) ?_
  intro p e_ s m args below meth c Q hQ CC hr hlocks hP hKN hGl ls hl
  have hS : va_S (fun _ => False) s.heap s.heap [] := va_S.rf
  have hK := hKN.1
  have hx := CC.1
  have hb := CC.2.1
  have hml := CC.2.2.1
  have hown : s.vm.findClass RX2 = some m.cls := CC.2.2.2.1
  have hts := CC.2.2.2.2
  have hl : lv_has ls 1 [(0, .int x0)] := hl
  have k0 := hts (.methodLink RX2 70 Lib.Math.min.name) (by decide +kernel)
  have k1 := hts (.static Lib.Math.min.name) (by decide +kernel)
  have k2 := hts (.initialized "java/lang/Math") (by decide +kernel)
  have k3 := hts (.code Lib.Math.min.name Lib.Math.min.code 2 (some .int)) (by decide +kernel)
  have k4 := hts (.methodLink RX2 76 Lib.Math.max.name) (by decide +kernel)
  have k5 := hts (.static Lib.Math.max.name) (by decide +kernel)
  have k6 := hts (.code Lib.Math.max.name Lib.Math.max.code 2 (some .int)) (by decide +kernel)
  unfold fn_X2_toHundred at hF
  refine lv_iconst (v := 0) hx hb dX2_toHundred_0 (by decide) ?_
  refine lv_bipush (v := 100) hx hb dX2_toHundred_1 (by decide) ?_
  refine lv_iload_n hx hb dX2_toHundred_3 rfl (lv_at hl 0 rfl) ?_
  refine va_mmin hx hb (hml.trans hl.1.symm) hown k0 k1 k2 k3 (Nat.le_of_ble_eq_true rfl) (Nat.le_of_ble_eq_true rfl) (Nat.zero_le _) (Nat.zero_le _) dX2_toHundred_4 ?_
  refine W.eq (g2 := F0 m 7 ls [.int (mMin 100 x0), .int 0]) rfl ?_
  refine va_mmax hx hb (hml.trans hl.1.symm) hown k4 k5 k2 k6 (Nat.le_of_ble_eq_true rfl) (Nat.le_of_ble_eq_true rfl) (Nat.zero_le _) (Nat.zero_le _) dX2_toHundred_7 ?_
  refine W.eq (g2 := F0 m 10 ls [.int (mMax 0 (mMin 100 x0))]) rfl ?_
  have hF := Option.some.inj hF
  subst hF
  rw [hQ]
  exact W.iret hx hb hr (fun t ht _ => ⟨rfl, ht⟩) (fun _ h => by cases h) dX2_toHundred_10

abbrev rmX2_base : Room := { frames := 1, cells := 0, slots := 0, locals := 21 }
set_option maxRecDepth 100000 in
set_option maxHeartbeats 400000 in
theorem c_X2_base (l : Launch) (E : mE) (a : GroupA) (v : GroupV) (x0 : Int32) (t : Int32) (hF : fn_X2_base v x0 = some t) : Met l yX2_base wsX2_base rmX2_base (mPp E [.ref (Groupa_self a), .int x0] (Group_c E a v)) (mSp (some (.int t))) 0 0 (fun _ => False) := by
  refine mOfP (cc := cX2_base) (maxL := 2) (ret := (some .int)) (by decide) rfl (Nat.le_of_ble_eq_true rfl) ?_
  intro p e_ s m args below meth c Q hQ CC hr hlocks hP hKN hGl ls hl
  have hS : va_S (fun _ => False) s.heap s.heap [] := va_S.rf
  have hK := hKN.1
  have hx := CC.1
  have hb := CC.2.1
  have hml := CC.2.2.1
  have hown : s.vm.findClass RX2 = some m.cls := CC.2.2.2.1
  have hts := CC.2.2.2.2
  have hl : lv_has ls 2 [(0, .ref (Groupa_self a)), (1, .int x0)] := hl
  have k0 := hts (.fieldLink RX2 18 "OneDidAll$Group" "work" "I") (by decide +kernel)
  have k1 := (show ∀ w ∈ u_ws RX2 TX2 11, w ∈ wsX2_base by decide +kernel)
  have k2 := hts (.methodLink RX2 70 Lib.Math.min.name) (by decide +kernel)
  have k3 := hts (.static Lib.Math.min.name) (by decide +kernel)
  have k4 := hts (.initialized "java/lang/Math") (by decide +kernel)
  have k5 := hts (.code Lib.Math.min.name Lib.Math.min.code 2 (some .int)) (by decide +kernel)
  unfold fn_X2_base at hF
  refine lv_iload_n hx hb dX2_base_0 rfl (lv_at hl 1 rfl) ?_
  refine lv_iconst (v := 1) hx hb dX2_base_1 (by decide) ?_
  refine lv_icmp_ge (tgt := 10) hx hb dX2_base_2 (by decide) (fun c1 => ?_) (fun c1 => ?_)
  · have hF := m_pos c1 hF
    refine lv_bipush (v := 100) hx hb dX2_base_10 (by decide) ?_
    refine lv_bipush (v := 100) hx hb dX2_base_12 (by decide) ?_
    refine lv_aload_n hx hb dX2_base_14 rfl (lv_at hl 0 rfl) ?_
    refine va_get (D := E.1) (ci := 2) (v := .int (Group_work v)) (C := RX2) (T := TX2) (N := 11) hx hb hts k1 hown hK hP 0 rfl rfl 2 (by decide) k0 (fun _ h9 => h9) rfl dX2_base_15 ?_
    refine lv_imul hx hb dX2_base_18 ?_
    refine lv_iload_n hx hb dX2_base_19 rfl (lv_at hl 1 rfl) ?_
    obtain ⟨h2, hF⟩ := m_chk hF
    refine lv_idiv hx hb dX2_base_20 h2 ?_
    refine va_mmin hx hb (hml.trans hl.1.symm) hown k2 k3 k4 k5 (Nat.le_of_ble_eq_true rfl) (Nat.le_of_ble_eq_true rfl) (Nat.zero_le _) (Nat.zero_le _) dX2_base_21 ?_
    refine W.eq (g2 := F0 m 24 ls [.int (mMin 100 ((100 * (Group_work v)) / x0))]) rfl ?_
    have hF := Option.some.inj hF
    subst hF
    rw [hQ]
    exact W.iret hx hb hr (fun t ht _ => ⟨rfl, ht⟩) (fun _ h => by cases h) dX2_base_24
  · have hF := m_neg c1 hF
    refine lv_bipush (v := 100) hx hb dX2_base_5 (by decide) ?_
    refine lv_goto (tgt := 24) hx hb dX2_base_7 (by decide) ?_
    have hF := Option.some.inj hF
    subst hF
    rw [hQ]
    exact W.iret hx hb hr (fun t ht _ => ⟨rfl, ht⟩) (fun _ h => by cases h) dX2_base_24

abbrev rmX2_leastSkillIn : Room := { frames := 1, cells := 0, slots := 0, locals := 21 }
set_option maxRecDepth 100000 in
set_option maxHeartbeats 400000 in
theorem c_X2_leastSkillIn (l : Launch) (E : mE) (a : GroupA) (v : GroupV) (t : Int32) (hF : fn_X2_leastSkillIn v = some t) : Met l yX2_leastSkillIn wsX2_leastSkillIn rmX2_leastSkillIn (mPp E [.ref (Groupa_self a)] (Group_c E a v)) (mSp (some (.int t))) 0 0 (fun _ => False) := by
  refine mOfP (cc := cX2_leastSkillIn) (maxL := 3) (ret := (some .int)) (by decide) rfl (Nat.le_of_ble_eq_true rfl) ?_
  intro p e_ s m args below meth c Q hQ CC hr hlocks hP hKN hGl ls hl
  have hS : va_S (fun _ => False) s.heap s.heap [] := va_S.rf
  have hK := hKN.1
  have hx := CC.1
  have hb := CC.2.1
  have hml := CC.2.2.1
  have hown : s.vm.findClass RX2 = some m.cls := CC.2.2.2.1
  have hts := CC.2.2.2.2
  have hl : lv_has ls 3 [(0, .ref (Groupa_self a))] := hl
  have k0 := hts (.fieldLink RX2 9 "OneDidAll$Group" "size" "I") (by decide +kernel)
  have k1 := (show ∀ w ∈ u_ws RX2 TX2 11, w ∈ wsX2_leastSkillIn by decide +kernel)
  have k2 := hts (.fieldLink RX2 37 "OneDidAll$Group" "outs" "[Z") (by decide +kernel)
  have k3 := hts (.fieldLink RX2 28 "OneDidAll$Group" "skills" "[I") (by decide +kernel)
  have k4 := hts (.methodLink RX2 70 Lib.Math.min.name) (by decide +kernel)
  have k5 := hts (.static Lib.Math.min.name) (by decide +kernel)
  have k6 := hts (.initialized "java/lang/Math") (by decide +kernel)
  have k7 := hts (.code Lib.Math.min.name Lib.Math.min.code 2 (some .int)) (by decide +kernel)
  unfold fn_X2_leastSkillIn at hF
  refine lv_bipush (v := 9) hx hb dX2_leastSkillIn_0 (by decide) ?_
  refine lv_istore_n (lv' := [(1, .int 9), (0, .ref (Groupa_self a))]) hx hb dX2_leastSkillIn_2 rfl hl (by decide) rfl (fun ls hl => ?_)
  refine lv_iconst (v := 0) hx hb dX2_leastSkillIn_3 (by decide) ?_
  refine lv_istore_n (lv' := [(2, .int 0), (1, .int 9), (0, .ref (Groupa_self a))]) hx hb dX2_leastSkillIn_4 rfl hl (by decide) rfl (fun ls hl => ?_)
  have hL5 : ∀ (n : Nat) (y1_5 : Int32) (y2_5 : Int32) (ls : Array Slot), lp_X2_leastSkillIn_5 v n y1_5 y2_5 = some t → lv_has ls 3 [(0, .ref (Groupa_self a)), (1, .int y1_5), (2, .int y2_5)] → W p l e_ rmX2_leastSkillIn s m args below meth c s.heap [] 0 0 Q (F0 m 5 ls []) := by
    intro n
    induction n with
    | zero =>
      intro y1_5 y2_5 ls hF
      exact nomatch (show (none : Option Int32) = some t from hF)
    | succ n ih5 =>
      intro y1_5 y2_5 ls hF hl
      have hF : st_X2_leastSkillIn_5 v (lp_X2_leastSkillIn_5 v n) y1_5 y2_5 = some t := hF
      unfold st_X2_leastSkillIn_5 at hF
      refine lv_iload_n hx hb dX2_leastSkillIn_5 rfl (lv_at hl 2 rfl) ?_
      refine lv_aload_n hx hb dX2_leastSkillIn_6 rfl (lv_at hl 0 rfl) ?_
      refine va_get (D := E.1) (ci := 2) (v := .int (Group_size v)) (C := RX2) (T := TX2) (N := 11) hx hb hts k1 hown hK hP 0 rfl rfl 0 (by decide) k0 (fun _ h9 => h9) rfl dX2_leastSkillIn_7 ?_
      refine lv_icmp_ge (tgt := 39) hx hb dX2_leastSkillIn_10 (by decide) (fun c1 => ?_) (fun c1 => ?_)
      · have hF := m_pos c1 hF
        refine lv_iload_n hx hb dX2_leastSkillIn_39 rfl (lv_at hl 1 rfl) ?_
        have hF := Option.some.inj hF
        subst hF
        rw [hQ]
        exact W.iret hx hb hr (fun t ht _ => ⟨rfl, ht⟩) (fun _ h => by cases h) dX2_leastSkillIn_40
      · have hF := m_neg c1 hF
        refine lv_aload_n hx hb dX2_leastSkillIn_13 rfl (lv_at hl 0 rfl) ?_
        refine va_get (D := E.1) (ci := 2) (v := .ref (Groupa_outs a)) (C := RX2) (T := TX2) (N := 11) hx hb hts k1 hown hK hP 0 rfl rfl 8 (by decide) k2 (fun _ h9 => h9) rfl dX2_leastSkillIn_14 ?_
        refine lv_iload_n hx hb dX2_leastSkillIn_17 rfl (lv_at hl 2 rfl) ?_
        obtain ⟨h2, hF⟩ := m_chk hF
        refine va_zald (f := (Group_outs v)) hx hb hK hP 6 2 rfl rfl (mIn_ok h2) dX2_leastSkillIn_18 ?_
        refine W.eq (g2 := F0 m 19 ls [.int ((Group_outs v) (y2_5).toNatClampNeg)]) rfl ?_
        obtain ⟨j33, hjd33, hF⟩ := m_jp hF
        have hj33 : ∀ (x1_33 : Int32) (ls : Array Slot), j33 x1_33 = some t → lv_has ls 3 [(0, .ref (Groupa_self a)), (1, .int x1_33), (2, .int y2_5)] → W p l e_ rmX2_leastSkillIn s m args below meth c s.heap [] 0 0 Q (F0 m 33 ls []) := by
          intro x1_33 ls hF hl
          rw [hjd33] at hF
          refine lv_iinc (v := (y2_5 + 1)) (lv' := [(2, .int (y2_5 + 1)), (0, .ref (Groupa_self a)), (1, .int x1_33)]) hx hb dX2_leastSkillIn_33 hl (k := 2) rfl rfl (by decide) rfl (fun ls hl => ?_)
          refine lv_goto (tgt := 5) hx hb dX2_leastSkillIn_36 (by decide) ?_
          exact ih5 x1_33 (y2_5 + 1) ls hF (lv_sub hl [1, 2, 0] rfl)
        clear hjd33
        refine lv_if_ne (tgt := 33) hx hb dX2_leastSkillIn_19 (by decide) (fun c3 => ?_) (fun c3 => ?_)
        · have hF := m_pos c3 hF
          exact hj33 y1_5 ls hF (lv_sub hl [0, 1, 2] rfl)
        · have hF := m_neg (fun n9 => n9 c3) hF
          refine lv_iload_n hx hb dX2_leastSkillIn_22 rfl (lv_at hl 1 rfl) ?_
          refine lv_aload_n hx hb dX2_leastSkillIn_23 rfl (lv_at hl 0 rfl) ?_
          refine va_get (D := E.1) (ci := 2) (v := .ref (Groupa_skills a)) (C := RX2) (T := TX2) (N := 11) hx hb hts k1 hown hK hP 0 rfl rfl 5 (by decide) k3 (fun _ h9 => h9) rfl dX2_leastSkillIn_24 ?_
          refine lv_iload_n hx hb dX2_leastSkillIn_27 rfl (lv_at hl 2 rfl) ?_
          obtain ⟨h4, hF⟩ := m_chk hF
          refine va_iald (f := (Group_skills v)) hx hb hK hP 3 1 rfl rfl (mIn_ok h4) dX2_leastSkillIn_28 ?_
          refine W.eq (g2 := F0 m 29 ls [.int ((Group_skills v) (y2_5).toNatClampNeg), .int y1_5]) rfl ?_
          refine va_mmin hx hb (hml.trans hl.1.symm) hown k4 k5 k6 k7 (Nat.le_of_ble_eq_true rfl) (Nat.le_of_ble_eq_true rfl) (Nat.zero_le _) (Nat.zero_le _) dX2_leastSkillIn_29 ?_
          refine W.eq (g2 := F0 m 32 ls [.int (mMin y1_5 ((Group_skills v) (y2_5).toNatClampNeg))]) rfl ?_
          refine lv_istore_n (lv' := [(1, .int (mMin y1_5 ((Group_skills v) (y2_5).toNatClampNeg))), (0, .ref (Groupa_self a)), (2, .int y2_5)]) hx hb dX2_leastSkillIn_32 rfl hl (by decide) rfl (fun ls hl => ?_)
          exact hj33 (mMin y1_5 ((Group_skills v) (y2_5).toNatClampNeg)) ls hF (lv_sub hl [1, 0, 2] rfl)
  exact hL5 m_N 9 0 ls hF (lv_sub hl [2, 1, 0] rfl)

abbrev rmX3_goal : Room := { frames := 1, cells := 0, slots := 0, locals := 21 }
set_option maxRecDepth 100000 in
set_option maxHeartbeats 400000 in
theorem c_X3_goal (l : Launch) (E : mE) (a : LessonA) (v : LessonV) (t : Int32) (hF : fn_X3_goal v = some t) : Met l yX3_goal wsX3_goal rmX3_goal (mPp E [.ref (Lessona_self a)] (Lesson_c E a v)) (mSp (some (.int t))) 0 0 (fun _ => False) := by
  refine mOfP (cc := cX3_goal) (maxL := 1) (ret := (some .int)) (by decide) rfl (Nat.le_of_ble_eq_true rfl) ?_
  intro p e_ s m args below meth c Q hQ CC hr hlocks hP hKN hGl ls hl
  have hS : va_S (fun _ => False) s.heap s.heap [] := va_S.rf
  have hK := hKN.1
  have hx := CC.1
  have hb := CC.2.1
  have hml := CC.2.2.1
  have hown : s.vm.findClass RX3 = some m.cls := CC.2.2.2.1
  have hts := CC.2.2.2.2
  have hl : lv_has ls 1 [(0, .ref (Lessona_self a))] := hl
  have k0 := hts (.fieldLink RX3 28 "OneDidAll$Lesson" "toldGoal" "I") (by decide +kernel)
  have k1 := (show ∀ w ∈ u_ws RX3 TX3 7, w ∈ wsX3_goal by decide +kernel)
  have k2 := hts (.methodLink RX3 34 Lib.Math.max.name) (by decide +kernel)
  have k3 := hts (.static Lib.Math.max.name) (by decide +kernel)
  have k4 := hts (.initialized "java/lang/Math") (by decide +kernel)
  have k5 := hts (.code Lib.Math.max.name Lib.Math.max.code 2 (some .int)) (by decide +kernel)
  unfold fn_X3_goal at hF
  refine lv_iconst (v := 1) hx hb dX3_goal_0 (by decide) ?_
  refine lv_aload_n hx hb dX3_goal_1 rfl (lv_at hl 0 rfl) ?_
  refine va_get (D := E.1) (ci := 3) (v := .int (Lesson_toldGoal v)) (C := RX3) (T := TX3) (N := 7) hx hb hts k1 hown hK hP 0 rfl rfl 5 (by decide) k0 (fun _ h9 => h9) rfl dX3_goal_2 ?_
  refine va_mmax hx hb (hml.trans hl.1.symm) hown k2 k3 k4 k5 (Nat.le_of_ble_eq_true rfl) (Nat.le_of_ble_eq_true rfl) (Nat.zero_le _) (Nat.zero_le _) dX3_goal_5 ?_
  refine W.eq (g2 := F0 m 8 ls [.int (mMax 1 (Lesson_toldGoal v))]) rfl ?_
  have hF := Option.some.inj hF
  subst hF
  rw [hQ]
  exact W.iret hx hb hr (fun t ht _ => ⟨rfl, ht⟩) (fun _ h => by cases h) dX3_goal_8

abbrev rmX3_addCode : Room := { frames := 0, cells := 0, slots := 0, locals := 0 }
set_option maxRecDepth 100000 in
set_option maxHeartbeats 400000 in
theorem c_X3_addCode (l : Launch) (E : mE) (a : LessonA) (v : LessonV) (x0 : Int32) (t : LessonV) (hF : fn_X3_addCode v x0 = some t) (sz : Nat) : Met l yX3_addCode wsX3_addCode rmX3_addCode (mPm E [.ref (Lessona_self a), .int x0] sz ((Lesson_c E a v)) (([] : va_W))) (mSm E (none) ((Lesson_c E a t)) (va_A ((Lesson_c E a v)) sz)) 0 0 (va_A ((Lesson_c E a v)) sz) := by
  refine mOfM (cc := cX3_addCode) (maxL := 2) (ret := none) (by decide) rfl (Nat.le_of_ble_eq_true rfl) ?_
  intro p e_ s m args below meth c Q A hQ CC hr hlocks hin hA hP hD hKN hGl hR0 hRA ls hl
  have hS : va_S A s.heap s.heap [] := va_S.rf
  have hK := hKN.1
  have hx := CC.1
  have hb := CC.2.1
  have hml := CC.2.2.1
  have hown : s.vm.findClass RX3 = some m.cls := CC.2.2.2.1
  have hts := CC.2.2.2.2
  have hl : lv_has ls 2 [(0, .ref (Lessona_self a)), (1, .int x0)] := hl
  have k0 := hts (.fieldLink RX3 15 "OneDidAll$Lesson" "codes" "I") (by decide +kernel)
  have k1 := (show ∀ w ∈ u_ws RX3 TX3 7, w ∈ wsX3_addCode by decide +kernel)
  have k2 := hts (.fieldLink RX3 9 "OneDidAll$Lesson" "code" "[I") (by decide +kernel)
  have hP : va_P E.1 vwCl (Lesson_c E a v) s.heap := hP
  obtain ⟨H, hH⟩ : ∃ H, H = s.heap := ⟨_, rfl⟩
  obtain ⟨locs, hlc⟩ : ∃ z : List Loc, z = [] := ⟨_, rfl⟩
  rw [← hH] at hP
  rw [← hlc] at hS
  have hS : va_S A s.heap H locs := by rw [hH]; exact hS
  rw [← hH, ← hlc]
  unfold fn_X3_addCode at hF
  refine lv_aload_n hx hb dX3_addCode_0 rfl (lv_at hl 0 rfl) ?_
  refine va_get (D := E.1) (ci := 3) (v := .int (Lesson_codes v)) (C := RX3) (T := TX3) (N := 7) hx hb hts k1 hown hK hP 0 rfl rfl 1 (by decide) k0 (fun _ h9 => h9) rfl dX3_addCode_1 ?_
  refine lv_aload_n hx hb dX3_addCode_4 rfl (lv_at hl 0 rfl) ?_
  refine va_get (D := E.1) (ci := 3) (v := .ref (Lessona_code a)) (C := RX3) (T := TX3) (N := 7) hx hb hts k1 hown hK hP 0 rfl rfl 0 (by decide) k2 (fun _ h9 => h9) rfl dX3_addCode_5 ?_
  refine va_alen (v := (Int32.ofNat 100)) hx hb hK hP 1 1 rfl rfl rfl dX3_addCode_8 ?_
  refine lv_icmp_lt (tgt := 13) hx hb dX3_addCode_9 (by decide) (fun c1 => ?_) (fun c1 => ?_)
  · have hF := m_pos c1 hF
    refine lv_aload_n hx hb dX3_addCode_13 rfl (lv_at hl 0 rfl) ?_
    refine va_get (D := E.1) (ci := 3) (v := .ref (Lessona_code a)) (C := RX3) (T := TX3) (N := 7) hx hb hts k1 hown hK hP 0 rfl rfl 0 (by decide) k2 (fun _ h9 => h9) rfl dX3_addCode_14 ?_
    refine lv_aload_n hx hb dX3_addCode_17 rfl (lv_at hl 0 rfl) ?_
    refine va_get (D := E.1) (ci := 3) (v := .int (Lesson_codes v)) (C := RX3) (T := TX3) (N := 7) hx hb hts k1 hown hK hP 0 rfl rfl 1 (by decide) k0 (fun _ h9 => h9) rfl dX3_addCode_18 ?_
    refine lv_iload_n hx hb dX3_addCode_21 rfl (lv_at hl 1 rfl) ?_
    obtain ⟨h2, hF⟩ := m_chk hF
    refine va_iast (f := (Lesson_code v)) hx hb hK hP hD hS 1 1 rfl rfl (mIn_ok h2) dX3_addCode_22 (fun H locs hP hD hS => ?_)
    have hP : va_P E.1 vwCl (Lesson_c E a (Lesson_code_s v (upd (Lesson_code v) ((Lesson_codes v)).toNatClampNeg x0))) H := hP
    have hD : va_D A (Lesson_c E a (Lesson_code_s v (upd (Lesson_code v) ((Lesson_codes v)).toNatClampNeg x0))) := hD
    refine lv_aload_n hx hb dX3_addCode_23 rfl (lv_at hl 0 rfl) ?_
    refine lv_dup hx hb dX3_addCode_24 rfl ?_
    refine va_get (D := E.1) (ci := 3) (v := .int (Lesson_codes v)) (C := RX3) (T := TX3) (N := 7) hx hb hts k1 hown hK hP 0 rfl rfl 1 (by decide) k0 (fun _ h9 => h9) rfl dX3_addCode_25 ?_
    refine lv_iconst (v := 1) hx hb dX3_addCode_28 (by decide) ?_
    refine lv_iadd hx hb dX3_addCode_29 ?_
    refine va_put (D := E.1) (ci := 3) (v := .int ((Lesson_codes v) + 1)) (ty := .int) (C := RX3) (T := TX3) (N := 7) hx hb hts k1 tyX3 tyX3_ok nmX3 hown hK hP hD hS 0 rfl rfl 1 (by decide) k0 (fun _ h9 => h9) rfl (by decide +kernel) rfl rfl (Nat.le_of_ble_eq_true rfl) dX3_addCode_30 (fun H locs hP hD hS => ?_)
    have hP : va_P E.1 vwCl (Lesson_c E a (Lesson_codes_s (Lesson_code_s v (upd (Lesson_code v) ((Lesson_codes v)).toNatClampNeg x0)) ((Lesson_codes v) + 1))) H := hP
    have hD : va_D A (Lesson_c E a (Lesson_codes_s (Lesson_code_s v (upd (Lesson_code v) ((Lesson_codes v)).toNatClampNeg x0)) ((Lesson_codes v) + 1))) := hD
    have hF := Option.some.inj hF
    subst hF
    rw [hQ]
    exact W.vret hx hb hr (fun t ht _ => ⟨⟨rfl, by rw [ht]; exact hP, hD⟩, hS.F ht⟩) hS.2.2 dX3_addCode_33
  · have hF := m_neg c1 hF
    have hF := Option.some.inj hF
    subst hF
    rw [hQ]
    exact W.vret hx hb hr (fun t ht _ => ⟨⟨rfl, by rw [ht]; exact hP, hD⟩, hS.F ht⟩) hS.2.2 dX3_addCode_12

abbrev rmX3_addTest : Room := { frames := 1, cells := 0, slots := 0, locals := 21 }
set_option maxRecDepth 100000 in
set_option maxHeartbeats 400000 in
theorem c_X3_addTest (l : Launch) (E : mE) (a : LessonA) (v : LessonV) (x0 : Int32) (x1 : Int32) (x2 : Int32) (t : LessonV) (hF : fn_X3_addTest v x0 x1 x2 = some t) (sz : Nat) : Met l yX3_addTest wsX3_addTest rmX3_addTest (mPm E [.ref (Lessona_self a), .int x0, .int x1, .int x2] sz ((Lesson_c E a v)) (([] : va_W))) (mSm E (none) ((Lesson_c E a t)) (va_A ((Lesson_c E a v)) sz)) 0 0 (va_A ((Lesson_c E a v)) sz) := by
  refine mOfM (cc := cX3_addTest) (maxL := 4) (ret := none) (by decide) rfl (Nat.le_of_ble_eq_true rfl) ?_
  intro p e_ s m args below meth c Q A hQ CC hr hlocks hin hA hP hD hKN hGl hR0 hRA ls hl
  have hS : va_S A s.heap s.heap [] := va_S.rf
  have hK := hKN.1
  have hx := CC.1
  have hb := CC.2.1
  have hml := CC.2.2.1
  have hown : s.vm.findClass RX3 = some m.cls := CC.2.2.2.1
  have hts := CC.2.2.2.2
  have hl : lv_has ls 4 [(0, .ref (Lessona_self a)), (1, .int x0), (2, .int x1), (3, .int x2)] := hl
  have hP : va_P E.1 vwCl (Lesson_c E a v) s.heap := hP
  obtain ⟨H, hH⟩ : ∃ H, H = s.heap := ⟨_, rfl⟩
  obtain ⟨locs, hlc⟩ : ∃ z : List Loc, z = [] := ⟨_, rfl⟩
  rw [← hH] at hP
  rw [← hlc] at hS
  have hS : va_S A s.heap H locs := by rw [hH]; exact hS
  rw [← hH, ← hlc]
  unfold fn_X3_addTest at hF
  refine lv_aload_n hx hb dX3_addTest_0 rfl (lv_at hl 0 rfl) ?_
  refine lv_iload_n hx hb dX3_addTest_1 rfl (lv_at hl 1 rfl) ?_
  refine lv_iconst (v := 3) hx hb dX3_addTest_2 (by decide) ?_
  refine lv_imul hx hb dX3_addTest_3 ?_
  refine lv_iload_n hx hb dX3_addTest_4 rfl (lv_at hl 2 rfl) ?_
  refine lv_iadd hx hb dX3_addTest_5 ?_
  refine lv_bipush (v := 100) hx hb dX3_addTest_6 (by decide) ?_
  refine lv_imul hx hb dX3_addTest_8 ?_
  refine lv_iload_n hx hb dX3_addTest_9 rfl (lv_at hl 3 rfl) ?_
  refine lv_iadd hx hb dX3_addTest_10 ?_
  obtain ⟨t1, ht1, hF⟩ := m_bnd hF
  have hPc := hP
  have hDc := hD
  have hFc := va_free (wc := (Lesson_c E a v)) hD hS hA [0, 1, 2, 3] rfl
  refine mVM (ci := 3) (n := 1) (rest := []) (As := [.int ((((x0 * 3) + x1) * 100) + x2)]) CC hKN hGl (c_X3_addCode l E a v ((((x0 * 3) + x1) * 100) + x2) t1 ht1 _) gX3_addTest_X3_addCode rfl ⟨rfl, rfl⟩ (by decide +kernel) ⟨Nat.le_of_ble_eq_true rfl, Nat.le_of_ble_eq_true rfl⟩ hPc hDc m_nil m_nilA hS hFc rfl rfl rfl rfl hl.1 rfl (Nat.le_of_ble_eq_true rfl) ⟨Nat.zero_le _, Nat.zero_le _⟩ dX3_addTest_11 (fun H1 locs hP1 hD1 hz1 hk1 hS => ?_)
  have hP : va_P E.1 vwCl (Lesson_c E a t1) H1 := hP1
  have hD : va_D A (Lesson_c E a t1) := m_back hD1 hFc
  generalize H1 = H at hP hS ⊢
  refine W.eq (g2 := F0 m 14 ls []) rfl ?_
  have hF := Option.some.inj hF
  subst hF
  rw [hQ]
  exact W.vret hx hb hr (fun t ht _ => ⟨⟨rfl, by rw [ht]; exact hP, hD⟩, hS.F ht⟩) hS.2.2 dX3_addTest_14

abbrev rmX3_addSpur : Room := { frames := 0, cells := 0, slots := 0, locals := 0 }
set_option maxRecDepth 100000 in
set_option maxHeartbeats 400000 in
theorem c_X3_addSpur (l : Launch) (E : mE) (a : LessonA) (v : LessonV) (x0 : Int32) (t : LessonV) (hF : fn_X3_addSpur v x0 = some t) (sz : Nat) : Met l yX3_addSpur wsX3_addSpur rmX3_addSpur (mPm E [.ref (Lessona_self a), .int x0] sz ((Lesson_c E a v)) (([] : va_W))) (mSm E (none) ((Lesson_c E a t)) (va_A ((Lesson_c E a v)) sz)) 0 0 (va_A ((Lesson_c E a v)) sz) := by
  refine mOfM (cc := cX3_addSpur) (maxL := 2) (ret := none) (by decide) rfl (Nat.le_of_ble_eq_true rfl) ?_
  intro p e_ s m args below meth c Q A hQ CC hr hlocks hin hA hP hD hKN hGl hR0 hRA ls hl
  have hS : va_S A s.heap s.heap [] := va_S.rf
  have hK := hKN.1
  have hx := CC.1
  have hb := CC.2.1
  have hml := CC.2.2.1
  have hown : s.vm.findClass RX3 = some m.cls := CC.2.2.2.1
  have hts := CC.2.2.2.2
  have hl : lv_has ls 2 [(0, .ref (Lessona_self a)), (1, .int x0)] := hl
  have k0 := hts (.fieldLink RX3 25 "OneDidAll$Lesson" "spurs" "I") (by decide +kernel)
  have k1 := (show ∀ w ∈ u_ws RX3 TX3 7, w ∈ wsX3_addSpur by decide +kernel)
  have k2 := hts (.fieldLink RX3 19 "OneDidAll$Lesson" "worths" "[I") (by decide +kernel)
  have k3 := hts (.fieldLink RX3 22 "OneDidAll$Lesson" "ends" "[I") (by decide +kernel)
  have k4 := hts (.fieldLink RX3 15 "OneDidAll$Lesson" "codes" "I") (by decide +kernel)
  have hP : va_P E.1 vwCl (Lesson_c E a v) s.heap := hP
  obtain ⟨H, hH⟩ : ∃ H, H = s.heap := ⟨_, rfl⟩
  obtain ⟨locs, hlc⟩ : ∃ z : List Loc, z = [] := ⟨_, rfl⟩
  rw [← hH] at hP
  rw [← hlc] at hS
  have hS : va_S A s.heap H locs := by rw [hH]; exact hS
  rw [← hH, ← hlc]
  unfold fn_X3_addSpur at hF
  refine lv_aload_n hx hb dX3_addSpur_0 rfl (lv_at hl 0 rfl) ?_
  refine va_get (D := E.1) (ci := 3) (v := .int (Lesson_spurs v)) (C := RX3) (T := TX3) (N := 7) hx hb hts k1 hown hK hP 0 rfl rfl 4 (by decide) k0 (fun _ h9 => h9) rfl dX3_addSpur_1 ?_
  refine lv_aload_n hx hb dX3_addSpur_4 rfl (lv_at hl 0 rfl) ?_
  refine va_get (D := E.1) (ci := 3) (v := .ref (Lessona_worths a)) (C := RX3) (T := TX3) (N := 7) hx hb hts k1 hown hK hP 0 rfl rfl 2 (by decide) k2 (fun _ h9 => h9) rfl dX3_addSpur_5 ?_
  refine va_alen (v := (Int32.ofNat 10)) hx hb hK hP 2 1 rfl rfl rfl dX3_addSpur_8 ?_
  refine lv_icmp_ge (tgt := 24) hx hb dX3_addSpur_9 (by decide) (fun c1 => ?_) (fun c1 => ?_)
  · have hF := m_pos c1 hF
    have hF := Option.some.inj hF
    subst hF
    rw [hQ]
    exact W.vret hx hb hr (fun t ht _ => ⟨⟨rfl, by rw [ht]; exact hP, hD⟩, hS.F ht⟩) hS.2.2 dX3_addSpur_24
  · have hF := m_neg c1 hF
    refine lv_aload_n hx hb dX3_addSpur_12 rfl (lv_at hl 0 rfl) ?_
    refine va_get (D := E.1) (ci := 3) (v := .int (Lesson_spurs v)) (C := RX3) (T := TX3) (N := 7) hx hb hts k1 hown hK hP 0 rfl rfl 4 (by decide) k0 (fun _ h9 => h9) rfl dX3_addSpur_13 ?_
    refine lv_aload_n hx hb dX3_addSpur_16 rfl (lv_at hl 0 rfl) ?_
    refine va_get (D := E.1) (ci := 3) (v := .ref (Lessona_ends a)) (C := RX3) (T := TX3) (N := 7) hx hb hts k1 hown hK hP 0 rfl rfl 3 (by decide) k3 (fun _ h9 => h9) rfl dX3_addSpur_17 ?_
    refine va_alen (v := (Int32.ofNat 10)) hx hb hK hP 3 1 rfl rfl rfl dX3_addSpur_20 ?_
    refine lv_icmp_lt (tgt := 25) hx hb dX3_addSpur_21 (by decide) (fun c2 => ?_) (fun c2 => ?_)
    · have hF := m_pos c2 hF
      refine lv_aload_n hx hb dX3_addSpur_25 rfl (lv_at hl 0 rfl) ?_
      refine va_get (D := E.1) (ci := 3) (v := .ref (Lessona_worths a)) (C := RX3) (T := TX3) (N := 7) hx hb hts k1 hown hK hP 0 rfl rfl 2 (by decide) k2 (fun _ h9 => h9) rfl dX3_addSpur_26 ?_
      refine lv_aload_n hx hb dX3_addSpur_29 rfl (lv_at hl 0 rfl) ?_
      refine va_get (D := E.1) (ci := 3) (v := .int (Lesson_spurs v)) (C := RX3) (T := TX3) (N := 7) hx hb hts k1 hown hK hP 0 rfl rfl 4 (by decide) k0 (fun _ h9 => h9) rfl dX3_addSpur_30 ?_
      refine lv_iload_n hx hb dX3_addSpur_33 rfl (lv_at hl 1 rfl) ?_
      obtain ⟨h3, hF⟩ := m_chk hF
      refine va_iast (f := (Lesson_worths v)) hx hb hK hP hD hS 2 1 rfl rfl (mIn_ok h3) dX3_addSpur_34 (fun H locs hP hD hS => ?_)
      have hP : va_P E.1 vwCl (Lesson_c E a (Lesson_worths_s v (upd (Lesson_worths v) ((Lesson_spurs v)).toNatClampNeg x0))) H := hP
      have hD : va_D A (Lesson_c E a (Lesson_worths_s v (upd (Lesson_worths v) ((Lesson_spurs v)).toNatClampNeg x0))) := hD
      refine lv_aload_n hx hb dX3_addSpur_35 rfl (lv_at hl 0 rfl) ?_
      refine va_get (D := E.1) (ci := 3) (v := .ref (Lessona_ends a)) (C := RX3) (T := TX3) (N := 7) hx hb hts k1 hown hK hP 0 rfl rfl 3 (by decide) k3 (fun _ h9 => h9) rfl dX3_addSpur_36 ?_
      refine lv_aload_n hx hb dX3_addSpur_39 rfl (lv_at hl 0 rfl) ?_
      refine va_get (D := E.1) (ci := 3) (v := .int (Lesson_spurs v)) (C := RX3) (T := TX3) (N := 7) hx hb hts k1 hown hK hP 0 rfl rfl 4 (by decide) k0 (fun _ h9 => h9) rfl dX3_addSpur_40 ?_
      refine lv_aload_n hx hb dX3_addSpur_43 rfl (lv_at hl 0 rfl) ?_
      refine va_get (D := E.1) (ci := 3) (v := .int (Lesson_codes v)) (C := RX3) (T := TX3) (N := 7) hx hb hts k1 hown hK hP 0 rfl rfl 1 (by decide) k4 (fun _ h9 => h9) rfl dX3_addSpur_44 ?_
      obtain ⟨h4, hF⟩ := m_chk hF
      refine va_iast (f := (Lesson_ends v)) hx hb hK hP hD hS 3 1 rfl rfl (mIn_ok h4) dX3_addSpur_47 (fun H locs hP hD hS => ?_)
      have hP : va_P E.1 vwCl (Lesson_c E a (Lesson_ends_s (Lesson_worths_s v (upd (Lesson_worths v) ((Lesson_spurs v)).toNatClampNeg x0)) (upd (Lesson_ends v) ((Lesson_spurs v)).toNatClampNeg (Lesson_codes v)))) H := hP
      have hD : va_D A (Lesson_c E a (Lesson_ends_s (Lesson_worths_s v (upd (Lesson_worths v) ((Lesson_spurs v)).toNatClampNeg x0)) (upd (Lesson_ends v) ((Lesson_spurs v)).toNatClampNeg (Lesson_codes v)))) := hD
      refine lv_aload_n hx hb dX3_addSpur_48 rfl (lv_at hl 0 rfl) ?_
      refine lv_dup hx hb dX3_addSpur_49 rfl ?_
      refine va_get (D := E.1) (ci := 3) (v := .int (Lesson_spurs v)) (C := RX3) (T := TX3) (N := 7) hx hb hts k1 hown hK hP 0 rfl rfl 4 (by decide) k0 (fun _ h9 => h9) rfl dX3_addSpur_50 ?_
      refine lv_iconst (v := 1) hx hb dX3_addSpur_53 (by decide) ?_
      refine lv_iadd hx hb dX3_addSpur_54 ?_
      refine va_put (D := E.1) (ci := 3) (v := .int ((Lesson_spurs v) + 1)) (ty := .int) (C := RX3) (T := TX3) (N := 7) hx hb hts k1 tyX3 tyX3_ok nmX3 hown hK hP hD hS 0 rfl rfl 4 (by decide) k0 (fun _ h9 => h9) rfl (by decide +kernel) rfl rfl (Nat.le_of_ble_eq_true rfl) dX3_addSpur_55 (fun H locs hP hD hS => ?_)
      have hP : va_P E.1 vwCl (Lesson_c E a (Lesson_spurs_s (Lesson_ends_s (Lesson_worths_s v (upd (Lesson_worths v) ((Lesson_spurs v)).toNatClampNeg x0)) (upd (Lesson_ends v) ((Lesson_spurs v)).toNatClampNeg (Lesson_codes v))) ((Lesson_spurs v) + 1))) H := hP
      have hD : va_D A (Lesson_c E a (Lesson_spurs_s (Lesson_ends_s (Lesson_worths_s v (upd (Lesson_worths v) ((Lesson_spurs v)).toNatClampNeg x0)) (upd (Lesson_ends v) ((Lesson_spurs v)).toNatClampNeg (Lesson_codes v))) ((Lesson_spurs v) + 1))) := hD
      have hF := Option.some.inj hF
      subst hF
      rw [hQ]
      exact W.vret hx hb hr (fun t ht _ => ⟨⟨rfl, by rw [ht]; exact hP, hD⟩, hS.F ht⟩) hS.2.2 dX3_addSpur_58
    · have hF := m_neg c2 hF
      have hF := Option.some.inj hF
      subst hF
      rw [hQ]
      exact W.vret hx hb hr (fun t ht _ => ⟨⟨rfl, by rw [ht]; exact hP, hD⟩, hS.F ht⟩) hS.2.2 dX3_addSpur_24

abbrev rmX3_look : Room := { frames := 1, cells := 0, slots := 0, locals := 22 }
set_option maxRecDepth 100000 in
set_option maxHeartbeats 400000 in
theorem c_X3_look (l : Launch) (E : mE) (a2 : GroupA) (v2 : GroupV) (x0 : Int32) (x1 : Int32) (x3 : Int32) (t : Int32) (hF : fn_X3_look v2 x0 x1 x3 = some t) : Met l yX3_look wsX3_look rmX3_look (mPp E [.int x0, .int x1, .ref (Groupa_self a2), .int x3] (Group_c E a2 v2)) (mSp (some (.int t))) 0 0 (fun _ => False) := by
  refine mOfP (cc := cX3_look) (maxL := 10) (ret := (some .int)) (by decide) rfl (Nat.le_of_ble_eq_true rfl) ?_
  intro p e_ s m args below meth c Q hQ CC hr hlocks hP hKN hGl ls hl
  have hS : va_S (fun _ => False) s.heap s.heap [] := va_S.rf
  have hK := hKN.1
  have hx := CC.1
  have hb := CC.2.1
  have hml := CC.2.2.1
  have hown : s.vm.findClass RX3 = some m.cls := CC.2.2.2.1
  have hts := CC.2.2.2.2
  have hl : lv_has ls 10 [(0, .int x0), (1, .int x1), (2, .ref (Groupa_self a2)), (3, .int x3)] := hl
  unfold fn_X3_look at hF
  refine lv_iload_n hx hb dX3_look_0 rfl (lv_at hl 0 rfl) ?_
  refine lv_iconst (v := 1) hx hb dX3_look_1 (by decide) ?_
  refine lv_iand hx hb dX3_look_2 ?_
  refine lv_istore (lv' := [(4, .int (x0 &&& 1)), (0, .int x0), (1, .int x1), (2, .ref (Groupa_self a2)), (3, .int x3)]) hx hb dX3_look_3 hl (by decide) rfl (fun ls hl => ?_)
  refine lv_iload_n hx hb dX3_look_5 rfl (lv_at hl 1 rfl) ?_
  refine lv_iconst (v := 1) hx hb dX3_look_6 (by decide) ?_
  refine lv_ishr hx hb dX3_look_7 ?_
  refine lv_istore (lv' := [(5, .int (x0 >>> ((1 : Int32) &&& 31))), (4, .int (x0 &&& 1)), (0, .int x0), (1, .int x1), (2, .ref (Groupa_self a2)), (3, .int x3)]) hx hb dX3_look_8 hl (by decide) rfl (fun ls hl => ?_)
  refine lv_iload_n hx hb dX3_look_10 rfl (lv_at hl 3 rfl) ?_
  by_cases c1 : x1 = (-3)
  · have hF := m_pos c1 hF
    refine lv_tableIn (off := 46) (tgt := 57) hx hb dX3_look_11 (by rw [c1]; decide) (by rw [c1]; decide) (by rw [c1]; rfl) (by decide) ?_
    refine lv_iload hx hb dX3_look_57 (lv_at hl 0 rfl) ?_
    refine lv_iload hx hb dX3_look_59 (lv_at hl 1 rfl) ?_
    refine lv_ior hx hb dX3_look_61 ?_
    have hF := Option.some.inj hF
    subst hF
    rw [hQ]
    exact W.iret hx hb hr (fun t ht _ => ⟨rfl, ht⟩) (fun _ h => by cases h) dX3_look_62
  · have hF := m_neg c1 hF
    by_cases c2 : x1 = (-2)
    · have hF := m_pos c2 hF
      refine lv_tableIn (off := 29) (tgt := 40) hx hb dX3_look_11 (by rw [c2]; decide) (by rw [c2]; decide) (by rw [c2]; rfl) (by decide) ?_
      refine lv_iload hx hb dX3_look_40 (lv_at hl 1 rfl) ?_
      refine lv_iconst (v := 1) hx hb dX3_look_42 (by decide) ?_
      refine lv_icmp_ne (tgt := 51) hx hb dX3_look_43 (by decide) (fun c3 => ?_) (fun c3 => ?_)
      · have hF := m_pos c3 hF
        refine lv_iload hx hb dX3_look_51 (lv_at hl 0 rfl) ?_
        refine lv_bipush (v := (-2)) hx hb dX3_look_53 (by decide) ?_
        refine lv_iand hx hb dX3_look_55 ?_
        have hF := Option.some.inj hF
        subst hF
        rw [hQ]
        exact W.iret hx hb hr (fun t ht _ => ⟨rfl, ht⟩) (fun _ h => by cases h) dX3_look_56
      · have hF := m_neg (fun n9 => n9 c3) hF
        refine lv_iload hx hb dX3_look_46 (lv_at hl 0 rfl) ?_
        refine lv_goto (tgt := 56) hx hb dX3_look_48 (by decide) ?_
        have hF := Option.some.inj hF
        subst hF
        rw [hQ]
        exact W.iret hx hb hr (fun t ht _ => ⟨rfl, ht⟩) (fun _ h => by cases h) dX3_look_56
    · have hF := m_neg c2 hF
      by_cases c4 : x1 = (-1)
      · have hF := m_pos c4 hF
        refine lv_tableIn (off := 25) (tgt := 36) hx hb dX3_look_11 (by rw [c4]; decide) (by rw [c4]; decide) (by rw [c4]; rfl) (by decide) ?_
        refine lv_iload_n hx hb dX3_look_36 rfl (lv_at hl 2 rfl) ?_
        refine lv_iconst (v := 1) hx hb dX3_look_37 (by decide) ?_
        refine lv_ixor hx hb dX3_look_38 ?_
        have hF := Option.some.inj hF
        subst hF
        rw [hQ]
        exact W.iret hx hb hr (fun t ht _ => ⟨rfl, ht⟩) (fun _ h => by cases h) dX3_look_39
      · have hF := m_neg c4 hF
        have qc1 := lv_neT (a := -3) c1 rfl
        have qc2 := lv_neT (a := -2) c2 rfl
        have qc4 := lv_neT (a := -1) c4 rfl
        refine lv_tableOut (tgt := 63) hx hb dX3_look_11 (by omega) (by decide) ?_
        refine lv_iload_n hx hb dX3_look_63 rfl (lv_at hl 3 rfl) ?_
        refine lv_bipush (v := 100) hx hb dX3_look_64 (by decide) ?_
        refine lv_irem hx hb dX3_look_66 (by decide) ?_
        refine W.eq (g2 := F0 m 67 ls [.int (mRem x1 100)]) rfl ?_
        refine lv_istore (lv' := [(6, .int (mRem x1 100)), (5, .int (x0 >>> ((1 : Int32) &&& 31))), (4, .int (x0 &&& 1)), (0, .int x0), (1, .int x1), (2, .ref (Groupa_self a2)), (3, .int x3)]) hx hb dX3_look_67 hl (by decide) rfl (fun ls hl => ?_)
        refine lv_iload_n hx hb dX3_look_69 rfl (lv_at hl 4 rfl) ?_
        refine lv_bipush (v := 100) hx hb dX3_look_70 (by decide) ?_
        refine lv_idiv hx hb dX3_look_72 (by decide) ?_
        refine lv_iconst (v := 3) hx hb dX3_look_73 (by decide) ?_
        refine lv_irem hx hb dX3_look_74 (by decide) ?_
        refine W.eq (g2 := F0 m 75 ls [.int (mRem (x1 / 100) 3)]) rfl ?_
        refine lv_istore (lv' := [(7, .int (mRem (x1 / 100) 3)), (6, .int (mRem x1 100)), (5, .int (x0 >>> ((1 : Int32) &&& 31))), (4, .int (x0 &&& 1)), (0, .int x0), (1, .int x1), (2, .ref (Groupa_self a2)), (3, .int x3)]) hx hb dX3_look_75 hl (by decide) rfl (fun ls hl => ?_)
        refine lv_aload_n hx hb dX3_look_77 rfl (lv_at hl 6 rfl) ?_
        refine lv_iload_n hx hb dX3_look_78 rfl (lv_at hl 7 rfl) ?_
        refine lv_iload_n hx hb dX3_look_79 rfl (lv_at hl 5 rfl) ?_
        refine lv_bipush (v := 100) hx hb dX3_look_80 (by decide) ?_
        refine lv_idiv hx hb dX3_look_82 (by decide) ?_
        refine lv_iconst (v := 3) hx hb dX3_look_83 (by decide) ?_
        refine lv_idiv hx hb dX3_look_84 (by decide) ?_
        obtain ⟨t5, ht5, hF⟩ := m_bnd hF
        refine mVP (ci := 2) (n := 2) (rest := []) (As := [.int x3, .int ((x1 / 100) / 3)]) CC hKN hGl hS (c_X2_subjectOf l E a2 v2 x3 ((x1 / 100) / 3) t5 ht5) gX3_look_X2_subjectOf rfl ⟨rfl, rfl⟩ (by decide +kernel) ⟨Nat.le_of_ble_eq_true rfl, Nat.le_of_ble_eq_true rfl⟩ hP rfl rfl rfl rfl hl.1 rfl (Nat.le_of_ble_eq_true rfl) ⟨Nat.zero_le _, Nat.zero_le _⟩ dX3_look_85 ?_
        refine W.eq (g2 := F0 m 88 ls [.int t5]) rfl ?_
        refine lv_istore (lv' := [(8, .int t5), (7, .int (mRem (x1 / 100) 3)), (6, .int (mRem x1 100)), (5, .int (x0 >>> ((1 : Int32) &&& 31))), (4, .int (x0 &&& 1)), (0, .int x0), (1, .int x1), (2, .ref (Groupa_self a2)), (3, .int x3)]) hx hb dX3_look_88 hl (by decide) rfl (fun ls hl => ?_)
        refine lv_iload hx hb dX3_look_90 (lv_at hl 1 rfl) ?_
        obtain ⟨j143, hjd143, hF⟩ := m_jp hF
        have hj143 : ∀ (z0_143 : Int32) (ls : Array Slot), j143 z0_143 = some t → lv_has ls 10 [(0, .int x0)] → W p l e_ rmX3_look s m args below meth c s.heap [] 0 0 Q (F0 m 143 ls [.int z0_143]) := by
          intro z0_143 ls hF hl
          rw [hjd143] at hF
          refine lv_istore (lv' := [(9, .int z0_143), (0, .int x0)]) hx hb dX3_look_143 hl (by decide) rfl (fun ls hl => ?_)
          refine lv_iload_n hx hb dX3_look_145 rfl (lv_at hl 1 rfl) ?_
          refine lv_iconst (v := 1) hx hb dX3_look_146 (by decide) ?_
          refine lv_ishl hx hb dX3_look_147 ?_
          refine lv_iload hx hb dX3_look_148 (lv_at hl 0 rfl) ?_
          obtain ⟨j158, hjd158, hF⟩ := m_jp hF
          have hj158 : ∀ (z0_158 : Int32) (ls : Array Slot), j158 z0_158 = some t → lv_has ls 10 [] → W p l e_ rmX3_look s m args below meth c s.heap [] 0 0 Q (F0 m 158 ls [.int z0_158, .int (x0 <<< ((1 : Int32) &&& 31))]) := by
            intro z0_158 ls hF hl
            rw [hjd158] at hF
            refine lv_ior hx hb dX3_look_158 ?_
            have hF := Option.some.inj hF
            subst hF
            rw [hQ]
            exact W.iret hx hb hr (fun t ht _ => ⟨rfl, ht⟩) (fun _ h => by cases h) dX3_look_159
          clear hjd158
          refine lv_if_eq (tgt := 157) hx hb dX3_look_150 (by decide) (fun c6 => ?_) (fun c6 => ?_)
          · have hF := m_pos c6 hF
            refine lv_iconst (v := 0) hx hb dX3_look_157 (by decide) ?_
            exact hj158 0 ls hF (lv_sub hl [] rfl)
          · have hF := m_neg c6 hF
            refine lv_iconst (v := 1) hx hb dX3_look_153 (by decide) ?_
            refine lv_goto (tgt := 158) hx hb dX3_look_154 (by decide) ?_
            exact hj158 1 ls hF (lv_sub hl [] rfl)
        clear hjd143
        refine lv_if_ne (tgt := 110) hx hb dX3_look_92 (by decide) (fun c7 => ?_) (fun c7 => ?_)
        · have hF := m_pos c7 hF
          refine lv_iload hx hb dX3_look_110 (lv_at hl 1 rfl) ?_
          refine lv_iconst (v := 1) hx hb dX3_look_112 (by decide) ?_
          refine lv_icmp_ne (tgt := 131) hx hb dX3_look_113 (by decide) (fun c8 => ?_) (fun c8 => ?_)
          · have hF := m_pos c8 hF
            refine lv_iload hx hb dX3_look_131 (lv_at hl 0 rfl) ?_
            refine lv_iload hx hb dX3_look_133 (lv_at hl 2 rfl) ?_
            refine lv_icmp_le (tgt := 142) hx hb dX3_look_135 (by decide) (fun c9 => ?_) (fun c9 => ?_)
            · have hF := m_pos c9 hF
              refine lv_iconst (v := 0) hx hb dX3_look_142 (by decide) ?_
              exact hj143 0 ls hF (lv_sub hl [5] rfl)
            · have hF := m_neg c9 hF
              refine lv_iconst (v := 1) hx hb dX3_look_138 (by decide) ?_
              refine lv_goto (tgt := 143) hx hb dX3_look_139 (by decide) ?_
              exact hj143 1 ls hF (lv_sub hl [5] rfl)
          · have hF := m_neg (fun n9 => n9 c8) hF
            refine lv_iload hx hb dX3_look_116 (lv_at hl 0 rfl) ?_
            refine lv_iload hx hb dX3_look_118 (lv_at hl 2 rfl) ?_
            refine lv_icmp_ne (tgt := 127) hx hb dX3_look_120 (by decide) (fun c10 => ?_) (fun c10 => ?_)
            · have hF := m_pos c10 hF
              refine lv_iconst (v := 0) hx hb dX3_look_127 (by decide) ?_
              refine lv_goto (tgt := 143) hx hb dX3_look_128 (by decide) ?_
              exact hj143 0 ls hF (lv_sub hl [5] rfl)
            · have hF := m_neg (fun n9 => n9 c10) hF
              refine lv_iconst (v := 1) hx hb dX3_look_123 (by decide) ?_
              refine lv_goto (tgt := 143) hx hb dX3_look_124 (by decide) ?_
              exact hj143 1 ls hF (lv_sub hl [5] rfl)
        · have hF := m_neg (fun n9 => n9 c7) hF
          refine lv_iload hx hb dX3_look_95 (lv_at hl 0 rfl) ?_
          refine lv_iload hx hb dX3_look_97 (lv_at hl 2 rfl) ?_
          refine lv_icmp_ge (tgt := 106) hx hb dX3_look_99 (by decide) (fun c11 => ?_) (fun c11 => ?_)
          · have hF := m_pos c11 hF
            refine lv_iconst (v := 0) hx hb dX3_look_106 (by decide) ?_
            refine lv_goto (tgt := 143) hx hb dX3_look_107 (by decide) ?_
            exact hj143 0 ls hF (lv_sub hl [5] rfl)
          · have hF := m_neg c11 hF
            refine lv_iconst (v := 1) hx hb dX3_look_102 (by decide) ?_
            refine lv_goto (tgt := 143) hx hb dX3_look_103 (by decide) ?_
            exact hj143 1 ls hF (lv_sub hl [5] rfl)

abbrev rmX4_take : Room := { frames := 0, cells := 0, slots := 0, locals := 0 }
set_option maxRecDepth 100000 in
set_option maxHeartbeats 400000 in
theorem c_X4_take (l : Launch) (E : mE) (a : ReaderA) (v : ReaderV) (x0 : Int32) (t : (Int32 × ReaderV)) (hF : fn_X4_take v x0 = some t) (sz : Nat) : Met l yX4_take wsX4_take rmX4_take (mPm E [.ref (Readera_self a), .int x0] sz ((Reader_c E a v)) (([] : va_W))) (mSm E (some (.int t.1)) ((Reader_c E a t.2)) (va_A ((Reader_c E a v)) sz)) 0 0 (va_A ((Reader_c E a v)) sz) := by
  refine mOfM (cc := cX4_take) (maxL := 2) (ret := (some .boolean)) (by decide) rfl (Nat.le_of_ble_eq_true rfl) ?_
  intro p e_ s m args below meth c Q A hQ CC hr hlocks hin hA hP hD hKN hGl hR0 hRA ls hl
  have hS : va_S A s.heap s.heap [] := va_S.rf
  have hK := hKN.1
  have hx := CC.1
  have hb := CC.2.1
  have hml := CC.2.2.1
  have hown : s.vm.findClass RX4 = some m.cls := CC.2.2.2.1
  have hts := CC.2.2.2.2
  have hl : lv_has ls 2 [(0, .ref (Readera_self a)), (1, .int x0)] := hl
  have k0 := hts (.fieldLink RX4 9 "OneDidAll$Reader" "place" "I") (by decide +kernel)
  have k1 := (show ∀ w ∈ u_ws RX4 TX4 5, w ∈ wsX4_take by decide +kernel)
  have k2 := hts (.fieldLink RX4 35 "OneDidAll$Reader" "size" "I") (by decide +kernel)
  have k3 := hts (.fieldLink RX4 25 "OneDidAll$Reader" "tape" "[B") (by decide +kernel)
  have hP : va_P E.1 vwCl (Reader_c E a v) s.heap := hP
  obtain ⟨H, hH⟩ : ∃ H, H = s.heap := ⟨_, rfl⟩
  obtain ⟨locs, hlc⟩ : ∃ z : List Loc, z = [] := ⟨_, rfl⟩
  rw [← hH] at hP
  rw [← hlc] at hS
  have hS : va_S A s.heap H locs := by rw [hH]; exact hS
  rw [← hH, ← hlc]
  unfold fn_X4_take at hF
  refine lv_aload_n hx hb dX4_take_0 rfl (lv_at hl 0 rfl) ?_
  refine va_get (D := E.1) (ci := 4) (v := .int (Reader_place v)) (C := RX4) (T := TX4) (N := 5) hx hb hts k1 hown hK hP 0 rfl rfl 2 (by decide) k0 (fun _ h9 => h9) rfl dX4_take_1 ?_
  refine lv_aload_n hx hb dX4_take_4 rfl (lv_at hl 0 rfl) ?_
  refine va_get (D := E.1) (ci := 4) (v := .int (Reader_size v)) (C := RX4) (T := TX4) (N := 5) hx hb hts k1 hown hK hP 0 rfl rfl 1 (by decide) k2 (fun _ h9 => h9) rfl dX4_take_5 ?_
  refine lv_icmp_ge (tgt := 24) hx hb dX4_take_8 (by decide) (fun c1 => ?_) (fun c1 => ?_)
  · have hF := m_pos c1 hF
    refine lv_iconst (v := 0) hx hb dX4_take_24 (by decide) ?_
    have hF := Option.some.inj hF
    subst hF
    rw [hQ]
    exact W.zret hx hb hr rfl (fun t ht _ => ⟨⟨rfl, by rw [ht]; exact hP, hD⟩, hS.F ht⟩) hS.2.2 dX4_take_25
  · have hF := m_neg c1 hF
    refine lv_aload_n hx hb dX4_take_11 rfl (lv_at hl 0 rfl) ?_
    refine va_get (D := E.1) (ci := 4) (v := .ref (Readera_tape a)) (C := RX4) (T := TX4) (N := 5) hx hb hts k1 hown hK hP 0 rfl rfl 0 (by decide) k3 (fun _ h9 => h9) rfl dX4_take_12 ?_
    refine lv_aload_n hx hb dX4_take_15 rfl (lv_at hl 0 rfl) ?_
    refine va_get (D := E.1) (ci := 4) (v := .int (Reader_place v)) (C := RX4) (T := TX4) (N := 5) hx hb hts k1 hown hK hP 0 rfl rfl 2 (by decide) k0 (fun _ h9 => h9) rfl dX4_take_16 ?_
    obtain ⟨h2, hF⟩ := m_chk hF
    refine va_bald (f := (Reader_tape v)) hx hb hK hP 1 0 rfl rfl (mIn_ok h2) dX4_take_19 ?_
    refine W.eq (g2 := F0 m 20 ls [.int ((Reader_tape v) ((Reader_place v)).toNatClampNeg)]) rfl ?_
    refine lv_iload_n hx hb dX4_take_20 rfl (lv_at hl 1 rfl) ?_
    refine lv_icmp_eq (tgt := 26) hx hb dX4_take_21 (by decide) (fun c3 => ?_) (fun c3 => ?_)
    · have hF := m_pos c3 hF
      refine lv_aload_n hx hb dX4_take_26 rfl (lv_at hl 0 rfl) ?_
      refine lv_dup hx hb dX4_take_27 rfl ?_
      refine va_get (D := E.1) (ci := 4) (v := .int (Reader_place v)) (C := RX4) (T := TX4) (N := 5) hx hb hts k1 hown hK hP 0 rfl rfl 2 (by decide) k0 (fun _ h9 => h9) rfl dX4_take_28 ?_
      refine lv_iconst (v := 1) hx hb dX4_take_31 (by decide) ?_
      refine lv_iadd hx hb dX4_take_32 ?_
      refine va_put (D := E.1) (ci := 4) (v := .int ((Reader_place v) + 1)) (ty := .int) (C := RX4) (T := TX4) (N := 5) hx hb hts k1 tyX4 tyX4_ok nmX4 hown hK hP hD hS 0 rfl rfl 2 (by decide) k0 (fun _ h9 => h9) rfl (by decide +kernel) rfl rfl (Nat.le_of_ble_eq_true rfl) dX4_take_33 (fun H locs hP hD hS => ?_)
      have hP : va_P E.1 vwCl (Reader_c E a (Reader_place_s v ((Reader_place v) + 1))) H := hP
      have hD : va_D A (Reader_c E a (Reader_place_s v ((Reader_place v) + 1))) := hD
      refine lv_iconst (v := 1) hx hb dX4_take_36 (by decide) ?_
      have hF := Option.some.inj hF
      subst hF
      rw [hQ]
      exact W.zret hx hb hr rfl (fun t ht _ => ⟨⟨rfl, by rw [ht]; exact hP, hD⟩, hS.F ht⟩) hS.2.2 dX4_take_37
    · have hF := m_neg c3 hF
      refine lv_iconst (v := 0) hx hb dX4_take_24 (by decide) ?_
      have hF := Option.some.inj hF
      subst hF
      rw [hQ]
      exact W.zret hx hb hr rfl (fun t ht _ => ⟨⟨rfl, by rw [ht]; exact hP, hD⟩, hS.F ht⟩) hS.2.2 dX4_take_25

abbrev rmX4_takeOneOf : Room := { frames := 4, cells := 0, slots := 0, locals := 91 }
set_option maxRecDepth 100000 in
set_option maxHeartbeats 400000 in
theorem c_X4_takeOneOf (l : Launch) (E : mE) (a : ReaderA) (v : ReaderV) (x0 : Nat) (t : (Int32 × ReaderV)) (hF : fn_X4_takeOneOf v x0 = some t) (sz : Nat) : Met l yX4_takeOneOf wsX4_takeOneOf rmX4_takeOneOf (mPm E [.ref (Readera_self a), .ref (m_adK E x0)] sz ((Reader_c E a v)) (([] : va_W))) (mSm E (some (.int t.1)) ((Reader_c E a t.2)) (va_A ((Reader_c E a v)) sz)) 0 0 (va_A ((Reader_c E a v)) sz) := by
  refine mOfM (cc := cX4_takeOneOf) (maxL := 3) (ret := (some .int)) (by decide) rfl (Nat.le_of_ble_eq_true rfl) ?_
  intro p e_ s m args below meth c Q A hQ CC hr hlocks hin hA hP hD hKN hGl hR0 hRA ls hl
  have hS : va_S A s.heap s.heap [] := va_S.rf
  have hK := hKN.1
  have hx := CC.1
  have hb := CC.2.1
  have hml := CC.2.2.1
  have hown : s.vm.findClass RX4 = some m.cls := CC.2.2.2.1
  have hts := CC.2.2.2.2
  have hl : lv_has ls 3 [(0, .ref (Readera_self a)), (1, .ref (m_adK E x0))] := hl
  have k0 := hts (.fieldLink RX4 9 "OneDidAll$Reader" "place" "I") (by decide +kernel)
  have k1 := (show ∀ w ∈ u_ws RX4 TX4 5, w ∈ wsX4_takeOneOf by decide +kernel)
  have k2 := hts (.fieldLink RX4 35 "OneDidAll$Reader" "size" "I") (by decide +kernel)
  have k3 := hts (.fieldLink RX4 25 "OneDidAll$Reader" "tape" "[B") (by decide +kernel)
  have hP : va_P E.1 vwCl (Reader_c E a v) s.heap := hP
  obtain ⟨H, hH⟩ : ∃ H, H = s.heap := ⟨_, rfl⟩
  obtain ⟨locs, hlc⟩ : ∃ z : List Loc, z = [] := ⟨_, rfl⟩
  rw [← hH] at hP
  rw [← hlc] at hS
  have hS : va_S A s.heap H locs := by rw [hH]; exact hS
  rw [← hH, ← hlc]
  unfold fn_X4_takeOneOf at hF
  refine lv_aload_n hx hb dX4_takeOneOf_0 rfl (lv_at hl 0 rfl) ?_
  refine va_get (D := E.1) (ci := 4) (v := .int (Reader_place v)) (C := RX4) (T := TX4) (N := 5) hx hb hts k1 hown hK hP 0 rfl rfl 2 (by decide) k0 (fun _ h9 => h9) rfl dX4_takeOneOf_1 ?_
  refine lv_aload_n hx hb dX4_takeOneOf_4 rfl (lv_at hl 0 rfl) ?_
  refine va_get (D := E.1) (ci := 4) (v := .int (Reader_size v)) (C := RX4) (T := TX4) (N := 5) hx hb hts k1 hown hK hP 0 rfl rfl 1 (by decide) k2 (fun _ h9 => h9) rfl dX4_takeOneOf_5 ?_
  refine lv_icmp_lt (tgt := 13) hx hb dX4_takeOneOf_8 (by decide) (fun c1 => ?_) (fun c1 => ?_)
  · have hF := m_pos c1 hF
    refine lv_aload_n hx hb dX4_takeOneOf_13 rfl (lv_at hl 1 rfl) ?_
    refine lv_aload_n hx hb dX4_takeOneOf_14 rfl (lv_at hl 0 rfl) ?_
    refine va_get (D := E.1) (ci := 4) (v := .ref (Readera_tape a)) (C := RX4) (T := TX4) (N := 5) hx hb hts k1 hown hK hP 0 rfl rfl 0 (by decide) k3 (fun _ h9 => h9) rfl dX4_takeOneOf_15 ?_
    refine lv_aload_n hx hb dX4_takeOneOf_18 rfl (lv_at hl 0 rfl) ?_
    refine va_get (D := E.1) (ci := 4) (v := .int (Reader_place v)) (C := RX4) (T := TX4) (N := 5) hx hb hts k1 hown hK hP 0 rfl rfl 2 (by decide) k0 (fun _ h9 => h9) rfl dX4_takeOneOf_19 ?_
    obtain ⟨h2, hF⟩ := m_chk hF
    refine va_bald (f := (Reader_tape v)) hx hb hK hP 1 0 rfl rfl (mIn_ok h2) dX4_takeOneOf_22 ?_
    refine W.eq (g2 := F0 m 23 ls [.int ((Reader_tape v) ((Reader_place v)).toNatClampNeg), .ref (m_adK E x0)]) rfl ?_
    refine lv_i2c (v := ((((Reader_tape v) ((Reader_place v)).toNatClampNeg)).toUInt32 % 65536).toInt32) hx hb dX4_takeOneOf_23 rfl ?_
    obtain ⟨h4, hF⟩ := m_chk hF
    obtain ⟨t3, ht3, hF⟩ := m_bnd hF
    refine mVPs (n := 1) (rest := []) (As := [.int ((((Reader_tape v) ((Reader_place v)).toNatClampNeg)).toUInt32 % 65536).toInt32]) CC hKN hGl hS (c_J0_indexOf_0f7a4 l E x0 ((((Reader_tape v) ((Reader_place v)).toNatClampNeg)).toUInt32 % 65536).toInt32 t3 ht3) gX4_takeOneOf_J0_indexOf_0f7a4 rfl ⟨rfl, rfl⟩ (by decide +kernel) ⟨Nat.le_of_ble_eq_true rfl, Nat.le_of_ble_eq_true rfl⟩ m_nil (vk_recv hGl.2.2.2.2.1 h4 hS) rfl hl.1 rfl (Nat.le_of_ble_eq_true rfl) ⟨Nat.zero_le _, Nat.zero_le _⟩ dX4_takeOneOf_24 ?_
    refine W.eq (g2 := F0 m 27 ls [.int t3]) rfl ?_
    refine lv_istore_n (lv' := [(2, .int t3), (0, .ref (Readera_self a)), (1, .ref (m_adK E x0))]) hx hb dX4_takeOneOf_27 rfl hl (by decide) rfl (fun ls hl => ?_)
    refine lv_iload_n hx hb dX4_takeOneOf_28 rfl (lv_at hl 0 rfl) ?_
    refine lv_if_lt (tgt := 42) hx hb dX4_takeOneOf_29 (by decide) (fun c5 => ?_) (fun c5 => ?_)
    · have hF := m_pos c5 hF
      refine lv_iload_n hx hb dX4_takeOneOf_42 rfl (lv_at hl 0 rfl) ?_
      have hF := Option.some.inj hF
      subst hF
      rw [hQ]
      exact W.iret hx hb hr (fun t ht _ => ⟨⟨rfl, by rw [ht]; exact hP, hD⟩, hS.F ht⟩) hS.2.2 dX4_takeOneOf_43
    · have hF := m_neg c5 hF
      refine lv_aload_n hx hb dX4_takeOneOf_32 rfl (lv_at hl 1 rfl) ?_
      refine lv_dup hx hb dX4_takeOneOf_33 rfl ?_
      refine va_get (D := E.1) (ci := 4) (v := .int (Reader_place v)) (C := RX4) (T := TX4) (N := 5) hx hb hts k1 hown hK hP 0 rfl rfl 2 (by decide) k0 (fun _ h9 => h9) rfl dX4_takeOneOf_34 ?_
      refine lv_iconst (v := 1) hx hb dX4_takeOneOf_37 (by decide) ?_
      refine lv_iadd hx hb dX4_takeOneOf_38 ?_
      refine va_put (D := E.1) (ci := 4) (v := .int ((Reader_place v) + 1)) (ty := .int) (C := RX4) (T := TX4) (N := 5) hx hb hts k1 tyX4 tyX4_ok nmX4 hown hK hP hD hS 0 rfl rfl 2 (by decide) k0 (fun _ h9 => h9) rfl (by decide +kernel) rfl rfl (Nat.le_of_ble_eq_true rfl) dX4_takeOneOf_39 (fun H locs hP hD hS => ?_)
      have hP : va_P E.1 vwCl (Reader_c E a (Reader_place_s v ((Reader_place v) + 1))) H := hP
      have hD : va_D A (Reader_c E a (Reader_place_s v ((Reader_place v) + 1))) := hD
      refine lv_iload_n hx hb dX4_takeOneOf_42 rfl (lv_at hl 0 rfl) ?_
      have hF := Option.some.inj hF
      subst hF
      rw [hQ]
      exact W.iret hx hb hr (fun t ht _ => ⟨⟨rfl, by rw [ht]; exact hP, hD⟩, hS.F ht⟩) hS.2.2 dX4_takeOneOf_43
  · have hF := m_neg c1 hF
    refine lv_iconst (v := (-1)) hx hb dX4_takeOneOf_11 (by decide) ?_
    have hF := Option.some.inj hF
    subst hF
    rw [hQ]
    exact W.iret hx hb hr (fun t ht _ => ⟨⟨rfl, by rw [ht]; exact hP, hD⟩, hS.F ht⟩) hS.2.2 dX4_takeOneOf_12

abbrev rmX5_lesson : Room := { frames := 0, cells := 0, slots := 0, locals := 0 }
set_option maxRecDepth 100000 in
set_option maxHeartbeats 400000 in
theorem c_X5_lesson (l : Launch) (E : mE) (a : RoomA) (v : RoomV) (t : Nat) (hF : fn_X5_lesson v = some t) : Met l yX5_lesson wsX5_lesson rmX5_lesson (mPp E [.ref (Rooma_self a)] (Room_c E a v)) (mSp (some (.ref t))) 0 0 (fun _ => False) := by
  refine mOfP (cc := cX5_lesson) (maxL := 2) (ret := (some (.object "OneDidAll$Lesson"))) (by decide) rfl (Nat.le_of_ble_eq_true rfl) ?_
  intro p e_ s m args below meth c Q hQ CC hr hlocks hP hKN hGl ls hl
  have hS : va_S (fun _ => False) s.heap s.heap [] := va_S.rf
  have hK := hKN.1
  have hx := CC.1
  have hb := CC.2.1
  have hml := CC.2.2.1
  have hown : s.vm.findClass RX5 = some m.cls := CC.2.2.2.1
  have hts := CC.2.2.2.2
  have hl : lv_has ls 2 [(0, .ref (Rooma_self a))] := hl
  have k0 := hts (.fieldLink RX5 32 "OneDidAll$Room" "lessonCount" "I") (by decide +kernel)
  have k1 := (show ∀ w ∈ u_ws RX5 TX5 9, w ∈ wsX5_lesson by decide +kernel)
  have k2 := hts (.fieldLink RX5 36 "OneDidAll$Room" "none" "LOneDidAll$Lesson;") (by decide +kernel)
  have k3 := hts (.fieldLink RX5 28 "OneDidAll$Room" "lessons" "[LOneDidAll$Lesson;") (by decide +kernel)
  unfold fn_X5_lesson at hF
  refine lv_aload_n hx hb dX5_lesson_0 rfl (lv_at hl 0 rfl) ?_
  refine va_get (D := E.1) (ci := 5) (v := .int (Room_lessonCount v)) (C := RX5) (T := TX5) (N := 9) hx hb hts k1 hown hK hP 0 rfl rfl 4 (by decide) k0 (fun _ h9 => h9) rfl dX5_lesson_1 ?_
  refine lv_iconst (v := 1) hx hb dX5_lesson_4 (by decide) ?_
  obtain ⟨j16, hjd16, hF⟩ := m_jp hF
  have hj16 : ∀ (ls : Array Slot), j16 () = some t → lv_has ls 2 [(0, .ref (Rooma_self a))] → W p l e_ rmX5_lesson s m args below meth c s.heap [] 0 0 Q (F0 m 16 ls []) := by
    intro ls hF hl
    rw [hjd16] at hF
    refine lv_aload_n hx hb dX5_lesson_16 rfl (lv_at hl 0 rfl) ?_
    refine va_get (D := E.1) (ci := 5) (v := .ref (Room_none v)) (C := RX5) (T := TX5) (N := 9) hx hb hts k1 hown hK hP 0 rfl rfl 5 (by decide) k2 (fun _ h9 => h9) rfl dX5_lesson_17 ?_
    have hF := Option.some.inj hF
    subst hF
    rw [hQ]
    exact W.aret hx hb hr (Or.inl ⟨_, rfl⟩) (Or.inr ⟨_, rfl⟩) (fun t ht _ => ⟨rfl, ht⟩) (fun _ h => by cases h) dX5_lesson_20
  clear hjd16
  refine lv_icmp_lt (tgt := 16) hx hb dX5_lesson_5 (by decide) (fun c1 => ?_) (fun c1 => ?_)
  · have hF := m_pos c1 hF
    exact hj16 ls hF (lv_sub hl [0] rfl)
  · have hF := m_neg c1 hF
    refine lv_aload_n hx hb dX5_lesson_8 rfl (lv_at hl 0 rfl) ?_
    refine va_get (D := E.1) (ci := 5) (v := .int (Room_lessonCount v)) (C := RX5) (T := TX5) (N := 9) hx hb hts k1 hown hK hP 0 rfl rfl 4 (by decide) k0 (fun _ h9 => h9) rfl dX5_lesson_9 ?_
    refine lv_iconst (v := 5) hx hb dX5_lesson_12 (by decide) ?_
    refine lv_icmp_le (tgt := 21) hx hb dX5_lesson_13 (by decide) (fun c2 => ?_) (fun c2 => ?_)
    · have hF := m_pos c2 hF
      refine lv_aload_n hx hb dX5_lesson_21 rfl (lv_at hl 0 rfl) ?_
      refine va_get (D := E.1) (ci := 5) (v := .ref (Rooma_lessons a)) (C := RX5) (T := TX5) (N := 9) hx hb hts k1 hown hK hP 0 rfl rfl 3 (by decide) k3 (fun _ h9 => h9) rfl dX5_lesson_22 ?_
      refine lv_aload_n hx hb dX5_lesson_25 rfl (lv_at hl 0 rfl) ?_
      refine va_get (D := E.1) (ci := 5) (v := .int (Room_lessonCount v)) (C := RX5) (T := TX5) (N := 9) hx hb hts k1 hown hK hP 0 rfl rfl 4 (by decide) k0 (fun _ h9 => h9) rfl dX5_lesson_26 ?_
      refine lv_iconst (v := 1) hx hb dX5_lesson_29 (by decide) ?_
      refine lv_isub hx hb dX5_lesson_30 ?_
      obtain ⟨h3, hF⟩ := m_chk hF
      refine va_aldq (f := (Room_lessons v)) hx hb hK hP 11 3 rfl rfl (mIn_ok h3) dX5_lesson_31 ?_
      rcases qr4 : ((Room_lessons v) (((Room_lessonCount v) - 1)).toNatClampNeg) with _ | r4
      · rw [qr4] at hF
        replace hF := m_on hF
        refine W.eq (g2 := F0 m 32 ls [.null]) (by first | rfl | (rw [qr4]; rfl)) ?_
        refine lv_astore_nN (lv' := [(1, .null), (0, .ref (Rooma_self a))]) hx hb dX5_lesson_32 rfl hl (by decide) rfl (fun ls hl => ?_)
        refine lv_aload_nN hx hb dX5_lesson_33 rfl (lv_at hl 0 rfl) ?_
        refine lv_ifnonnullN hx hb dX5_lesson_34 ?_
        refine lv_aload_n hx hb dX5_lesson_37 rfl (lv_at hl 1 rfl) ?_
        refine va_get (D := E.1) (ci := 5) (v := .ref (Room_none v)) (C := RX5) (T := TX5) (N := 9) hx hb hts k1 hown hK hP 0 rfl rfl 5 (by decide) k2 (fun _ h9 => h9) rfl dX5_lesson_38 ?_
        refine lv_goto (tgt := 45) hx hb dX5_lesson_41 (by decide) ?_
        have hF := Option.some.inj hF
        subst hF
        rw [hQ]
        exact W.aret hx hb hr (Or.inl ⟨_, rfl⟩) (Or.inr ⟨_, rfl⟩) (fun t ht _ => ⟨rfl, ht⟩) (fun _ h => by cases h) dX5_lesson_45
      · rw [qr4] at hF
        replace hF := m_os hF
        refine W.eq (g2 := F0 m 32 ls [.ref r4]) (by first | rfl | (rw [qr4]; rfl)) ?_
        refine lv_astore_n (lv' := [(1, .ref r4), (0, .ref (Rooma_self a))]) hx hb dX5_lesson_32 rfl hl (by decide) rfl (fun ls hl => ?_)
        refine lv_aload_n hx hb dX5_lesson_33 rfl (lv_at hl 0 rfl) ?_
        refine lv_ifnonnull (tgt := 44) hx hb dX5_lesson_34 (by decide) ?_
        refine lv_aload_n hx hb dX5_lesson_44 rfl (lv_at hl 0 rfl) ?_
        have hF := Option.some.inj hF
        subst hF
        rw [hQ]
        exact W.aret hx hb hr (Or.inl ⟨_, rfl⟩) (Or.inr ⟨_, rfl⟩) (fun t ht _ => ⟨rfl, ht⟩) (fun _ h => by cases h) dX5_lesson_45
    · have hF := m_neg c2 hF
      exact hj16 ls hF (lv_sub hl [0] rfl)

abbrev rmX6_isFull : Room := { frames := 0, cells := 0, slots := 0, locals := 0 }
set_option maxRecDepth 100000 in
set_option maxHeartbeats 400000 in
theorem c_X6_isFull (l : Launch) (E : mE) (a : RowsA) (v : RowsV) (t : Int32) (hF : fn_X6_isFull v = some t) : Met l yX6_isFull wsX6_isFull rmX6_isFull (mPp E [.ref (Rowsa_self a)] (Rows_c E a v)) (mSp (some (.int t))) 0 0 (fun _ => False) := by
  refine mOfP (cc := cX6_isFull) (maxL := 1) (ret := (some .boolean)) (by decide) rfl (Nat.le_of_ble_eq_true rfl) ?_
  intro p e_ s m args below meth c Q hQ CC hr hlocks hP hKN hGl ls hl
  have hS : va_S (fun _ => False) s.heap s.heap [] := va_S.rf
  have hK := hKN.1
  have hx := CC.1
  have hb := CC.2.1
  have hml := CC.2.2.1
  have hown : s.vm.findClass RX6 = some m.cls := CC.2.2.2.1
  have hts := CC.2.2.2.2
  have hl : lv_has ls 1 [(0, .ref (Rowsa_self a))] := hl
  have k0 := hts (.fieldLink RX6 7 "OneDidAll$Rows" "size" "I") (by decide +kernel)
  have k1 := (show ∀ w ∈ u_ws RX6 TX6 3, w ∈ wsX6_isFull by decide +kernel)
  have k2 := hts (.fieldLink RX6 19 "OneDidAll$Rows" "firsts" "[I") (by decide +kernel)
  have k3 := hts (.fieldLink RX6 23 "OneDidAll$Rows" "seconds" "[I") (by decide +kernel)
  unfold fn_X6_isFull at hF
  refine lv_aload_n hx hb dX6_isFull_0 rfl (lv_at hl 0 rfl) ?_
  refine va_get (D := E.1) (ci := 6) (v := .int (Rows_size v)) (C := RX6) (T := TX6) (N := 3) hx hb hts k1 hown hK hP 0 rfl rfl 2 (by decide) k0 (fun _ h9 => h9) rfl dX6_isFull_1 ?_
  refine lv_aload_n hx hb dX6_isFull_4 rfl (lv_at hl 0 rfl) ?_
  refine va_get (D := E.1) (ci := 6) (v := .ref (Rowsa_firsts a)) (C := RX6) (T := TX6) (N := 3) hx hb hts k1 hown hK hP 0 rfl rfl 0 (by decide) k2 (fun _ h9 => h9) rfl dX6_isFull_5 ?_
  refine va_alen (v := (Int32.ofNat (Rows_len v))) hx hb hK hP 1 1 rfl rfl rfl dX6_isFull_8 ?_
  obtain ⟨j24, hjd24, hF⟩ := m_jp hF
  have hj24 : ∀ (ls : Array Slot), j24 () = some t → lv_has ls 1 [] → W p l e_ rmX6_isFull s m args below meth c s.heap [] 0 0 Q (F0 m 24 ls []) := by
    intro ls hF hl
    rw [hjd24] at hF
    refine lv_iconst (v := 1) hx hb dX6_isFull_24 (by decide) ?_
    refine lv_goto (tgt := 29) hx hb dX6_isFull_25 (by decide) ?_
    have hF := Option.some.inj hF
    subst hF
    rw [hQ]
    exact W.zret hx hb hr rfl (fun t ht _ => ⟨rfl, ht⟩) (fun _ h => by cases h) dX6_isFull_29
  clear hjd24
  refine lv_icmp_ge (tgt := 24) hx hb dX6_isFull_9 (by decide) (fun c1 => ?_) (fun c1 => ?_)
  · have hF := m_pos c1 hF
    exact hj24 ls hF (lv_sub hl [] rfl)
  · have hF := m_neg c1 hF
    refine lv_aload_n hx hb dX6_isFull_12 rfl (lv_at hl 0 rfl) ?_
    refine va_get (D := E.1) (ci := 6) (v := .int (Rows_size v)) (C := RX6) (T := TX6) (N := 3) hx hb hts k1 hown hK hP 0 rfl rfl 2 (by decide) k0 (fun _ h9 => h9) rfl dX6_isFull_13 ?_
    refine lv_aload_n hx hb dX6_isFull_16 rfl (lv_at hl 0 rfl) ?_
    refine va_get (D := E.1) (ci := 6) (v := .ref (Rowsa_seconds a)) (C := RX6) (T := TX6) (N := 3) hx hb hts k1 hown hK hP 0 rfl rfl 1 (by decide) k3 (fun _ h9 => h9) rfl dX6_isFull_17 ?_
    refine va_alen (v := (Int32.ofNat (Rows_len v))) hx hb hK hP 2 1 rfl rfl rfl dX6_isFull_20 ?_
    refine lv_icmp_lt (tgt := 28) hx hb dX6_isFull_21 (by decide) (fun c2 => ?_) (fun c2 => ?_)
    · have hF := m_pos c2 hF
      refine lv_iconst (v := 0) hx hb dX6_isFull_28 (by decide) ?_
      have hF := Option.some.inj hF
      subst hF
      rw [hQ]
      exact W.zret hx hb hr rfl (fun t ht _ => ⟨rfl, ht⟩) (fun _ h => by cases h) dX6_isFull_29
    · have hF := m_neg c2 hF
      exact hj24 ls hF (lv_sub hl [] rfl)

abbrev rmX6_add : Room := { frames := 1, cells := 0, slots := 0, locals := 20 }
set_option maxRecDepth 100000 in
set_option maxHeartbeats 400000 in
theorem c_X6_add (l : Launch) (E : mE) (a : RowsA) (v : RowsV) (x0 : Int32) (x1 : Int32) (t : (Int32 × RowsV)) (hF : fn_X6_add v x0 x1 = some t) (sz : Nat) : Met l yX6_add wsX6_add rmX6_add (mPm E [.ref (Rowsa_self a), .int x0, .int x1] sz ((Rows_c E a v)) (([] : va_W))) (mSm E (some (.int t.1)) ((Rows_c E a t.2)) (va_A ((Rows_c E a v)) sz)) 0 0 (va_A ((Rows_c E a v)) sz) := by
  refine mOfM (cc := cX6_add) (maxL := 3) (ret := (some .int)) (by decide) rfl (Nat.le_of_ble_eq_true rfl) ?_
  intro p e_ s m args below meth c Q A hQ CC hr hlocks hin hA hP hD hKN hGl hR0 hRA ls hl
  have hS : va_S A s.heap s.heap [] := va_S.rf
  have hK := hKN.1
  have hx := CC.1
  have hb := CC.2.1
  have hml := CC.2.2.1
  have hown : s.vm.findClass RX6 = some m.cls := CC.2.2.2.1
  have hts := CC.2.2.2.2
  have hl : lv_has ls 3 [(0, .ref (Rowsa_self a)), (1, .int x0), (2, .int x1)] := hl
  have k0 := hts (.fieldLink RX6 7 "OneDidAll$Rows" "size" "I") (by decide +kernel)
  have k1 := (show ∀ w ∈ u_ws RX6 TX6 3, w ∈ wsX6_add by decide +kernel)
  have k2 := hts (.fieldLink RX6 19 "OneDidAll$Rows" "firsts" "[I") (by decide +kernel)
  have k3 := hts (.fieldLink RX6 23 "OneDidAll$Rows" "seconds" "[I") (by decide +kernel)
  have hP : va_P E.1 vwCl (Rows_c E a v) s.heap := hP
  obtain ⟨H, hH⟩ : ∃ H, H = s.heap := ⟨_, rfl⟩
  obtain ⟨locs, hlc⟩ : ∃ z : List Loc, z = [] := ⟨_, rfl⟩
  rw [← hH] at hP
  rw [← hlc] at hS
  have hS : va_S A s.heap H locs := by rw [hH]; exact hS
  rw [← hH, ← hlc]
  unfold fn_X6_add at hF
  refine lv_aload_n hx hb dX6_add_0 rfl (lv_at hl 0 rfl) ?_
  obtain ⟨t1, ht1, hF⟩ := m_bnd hF
  refine mVP (ci := 6) (n := 0) (rest := []) (As := []) CC hKN hGl hS (c_X6_isFull l E a v t1 ht1) gX6_add_X6_isFull rfl ⟨rfl, rfl⟩ (by decide +kernel) ⟨Nat.le_of_ble_eq_true rfl, Nat.le_of_ble_eq_true rfl⟩ hP rfl rfl rfl rfl hl.1 rfl (Nat.le_of_ble_eq_true rfl) ⟨Nat.zero_le _, Nat.zero_le _⟩ dX6_add_1 ?_
  refine W.eq (g2 := F0 m 4 ls [.int t1]) rfl ?_
  obtain ⟨j37, hjd37, hF⟩ := m_jp hF
  have hj37 : ∀ (wx_37 : RowsV) (H : Heap) (locs : List Loc) (ls : Array Slot), j37 wx_37 = some t → va_P E.1 vwCl (Rows_c E a wx_37) H → va_D A (Rows_c E a wx_37) → va_S A s.heap H locs → lv_has ls 3 [(0, .ref (Rowsa_self a))] → W p l e_ rmX6_add s m args below meth c H locs 0 0 Q (F0 m 37 ls []) := by
    intro wx_37 H locs ls hF hP hD hS hl
    rw [hjd37] at hF
    refine lv_aload_n hx hb dX6_add_37 rfl (lv_at hl 0 rfl) ?_
    refine va_get (D := E.1) (ci := 6) (v := .int (Rows_size wx_37)) (C := RX6) (T := TX6) (N := 3) hx hb hts k1 hown hK hP 0 rfl rfl 2 (by decide) k0 (fun _ h9 => h9) rfl dX6_add_38 ?_
    have hF := Option.some.inj hF
    subst hF
    rw [hQ]
    exact W.iret hx hb hr (fun t ht _ => ⟨⟨rfl, by rw [ht]; exact hP, hD⟩, hS.F ht⟩) hS.2.2 dX6_add_41
  clear hjd37
  refine lv_if_ne (tgt := 37) hx hb dX6_add_4 (by decide) (fun c2 => ?_) (fun c2 => ?_)
  · have hF := m_pos c2 hF
    exact hj37 v H locs ls hF hP hD hS (lv_sub hl [0] rfl)
  · have hF := m_neg (fun n9 => n9 c2) hF
    refine lv_aload_n hx hb dX6_add_7 rfl (lv_at hl 0 rfl) ?_
    refine va_get (D := E.1) (ci := 6) (v := .ref (Rowsa_firsts a)) (C := RX6) (T := TX6) (N := 3) hx hb hts k1 hown hK hP 0 rfl rfl 0 (by decide) k2 (fun _ h9 => h9) rfl dX6_add_8 ?_
    refine lv_aload_n hx hb dX6_add_11 rfl (lv_at hl 0 rfl) ?_
    refine va_get (D := E.1) (ci := 6) (v := .int (Rows_size v)) (C := RX6) (T := TX6) (N := 3) hx hb hts k1 hown hK hP 0 rfl rfl 2 (by decide) k0 (fun _ h9 => h9) rfl dX6_add_12 ?_
    refine lv_iload_n hx hb dX6_add_15 rfl (lv_at hl 1 rfl) ?_
    obtain ⟨h3, hF⟩ := m_chk hF
    refine va_iast (f := (Rows_firsts v)) hx hb hK hP hD hS 1 1 rfl rfl (mIn_ok h3) dX6_add_16 (fun H locs hP hD hS => ?_)
    have hP : va_P E.1 vwCl (Rows_c E a (Rows_firsts_s v (upd (Rows_firsts v) ((Rows_size v)).toNatClampNeg x0))) H := hP
    have hD : va_D A (Rows_c E a (Rows_firsts_s v (upd (Rows_firsts v) ((Rows_size v)).toNatClampNeg x0))) := hD
    refine lv_aload_n hx hb dX6_add_17 rfl (lv_at hl 0 rfl) ?_
    refine va_get (D := E.1) (ci := 6) (v := .ref (Rowsa_seconds a)) (C := RX6) (T := TX6) (N := 3) hx hb hts k1 hown hK hP 0 rfl rfl 1 (by decide) k3 (fun _ h9 => h9) rfl dX6_add_18 ?_
    refine lv_aload_n hx hb dX6_add_21 rfl (lv_at hl 0 rfl) ?_
    refine va_get (D := E.1) (ci := 6) (v := .int (Rows_size v)) (C := RX6) (T := TX6) (N := 3) hx hb hts k1 hown hK hP 0 rfl rfl 2 (by decide) k0 (fun _ h9 => h9) rfl dX6_add_22 ?_
    refine lv_iload_n hx hb dX6_add_25 rfl (lv_at hl 2 rfl) ?_
    obtain ⟨h4, hF⟩ := m_chk hF
    refine va_iast (f := (Rows_seconds v)) hx hb hK hP hD hS 2 1 rfl rfl (mIn_ok h4) dX6_add_26 (fun H locs hP hD hS => ?_)
    have hP : va_P E.1 vwCl (Rows_c E a (Rows_seconds_s (Rows_firsts_s v (upd (Rows_firsts v) ((Rows_size v)).toNatClampNeg x0)) (upd (Rows_seconds v) ((Rows_size v)).toNatClampNeg x1))) H := hP
    have hD : va_D A (Rows_c E a (Rows_seconds_s (Rows_firsts_s v (upd (Rows_firsts v) ((Rows_size v)).toNatClampNeg x0)) (upd (Rows_seconds v) ((Rows_size v)).toNatClampNeg x1))) := hD
    refine lv_aload_n hx hb dX6_add_27 rfl (lv_at hl 0 rfl) ?_
    refine lv_dup hx hb dX6_add_28 rfl ?_
    refine va_get (D := E.1) (ci := 6) (v := .int (Rows_size v)) (C := RX6) (T := TX6) (N := 3) hx hb hts k1 hown hK hP 0 rfl rfl 2 (by decide) k0 (fun _ h9 => h9) rfl dX6_add_29 ?_
    refine lv_iconst (v := 1) hx hb dX6_add_32 (by decide) ?_
    refine lv_iadd hx hb dX6_add_33 ?_
    refine va_put (D := E.1) (ci := 6) (v := .int ((Rows_size v) + 1)) (ty := .int) (C := RX6) (T := TX6) (N := 3) hx hb hts k1 tyX6 tyX6_ok nmX6 hown hK hP hD hS 0 rfl rfl 2 (by decide) k0 (fun _ h9 => h9) rfl (by decide +kernel) rfl rfl (Nat.le_of_ble_eq_true rfl) dX6_add_34 (fun H locs hP hD hS => ?_)
    have hP : va_P E.1 vwCl (Rows_c E a (Rows_size_s (Rows_seconds_s (Rows_firsts_s v (upd (Rows_firsts v) ((Rows_size v)).toNatClampNeg x0)) (upd (Rows_seconds v) ((Rows_size v)).toNatClampNeg x1)) ((Rows_size v) + 1))) H := hP
    have hD : va_D A (Rows_c E a (Rows_size_s (Rows_seconds_s (Rows_firsts_s v (upd (Rows_firsts v) ((Rows_size v)).toNatClampNeg x0)) (upd (Rows_seconds v) ((Rows_size v)).toNatClampNeg x1)) ((Rows_size v) + 1))) := hD
    exact hj37 (Rows_size_s (Rows_seconds_s (Rows_firsts_s v (upd (Rows_firsts v) ((Rows_size v)).toNatClampNeg x0)) (upd (Rows_seconds v) ((Rows_size v)).toNatClampNeg x1)) ((Rows_size v) + 1)) H locs ls hF hP hD hS (lv_sub hl [0] rfl)

abbrev rmX6_clear : Room := { frames := 0, cells := 0, slots := 0, locals := 0 }
set_option maxRecDepth 100000 in
set_option maxHeartbeats 400000 in
theorem c_X6_clear (l : Launch) (E : mE) (a : RowsA) (v : RowsV) (t : (Int32 × RowsV)) (hF : fn_X6_clear v = some t) (sz : Nat) : Met l yX6_clear wsX6_clear rmX6_clear (mPm E [.ref (Rowsa_self a)] sz ((Rows_c E a v)) (([] : va_W))) (mSm E (some (.int t.1)) ((Rows_c E a t.2)) (va_A ((Rows_c E a v)) sz)) 0 0 (va_A ((Rows_c E a v)) sz) := by
  refine mOfM (cc := cX6_clear) (maxL := 1) (ret := (some .int)) (by decide) rfl (Nat.le_of_ble_eq_true rfl) ?_
  intro p e_ s m args below meth c Q A hQ CC hr hlocks hin hA hP hD hKN hGl hR0 hRA ls hl
  have hS : va_S A s.heap s.heap [] := va_S.rf
  have hK := hKN.1
  have hx := CC.1
  have hb := CC.2.1
  have hml := CC.2.2.1
  have hown : s.vm.findClass RX6 = some m.cls := CC.2.2.2.1
  have hts := CC.2.2.2.2
  have hl : lv_has ls 1 [(0, .ref (Rowsa_self a))] := hl
  have k0 := hts (.fieldLink RX6 7 "OneDidAll$Rows" "size" "I") (by decide +kernel)
  have k1 := (show ∀ w ∈ u_ws RX6 TX6 3, w ∈ wsX6_clear by decide +kernel)
  have hP : va_P E.1 vwCl (Rows_c E a v) s.heap := hP
  obtain ⟨H, hH⟩ : ∃ H, H = s.heap := ⟨_, rfl⟩
  obtain ⟨locs, hlc⟩ : ∃ z : List Loc, z = [] := ⟨_, rfl⟩
  rw [← hH] at hP
  rw [← hlc] at hS
  have hS : va_S A s.heap H locs := by rw [hH]; exact hS
  rw [← hH, ← hlc]
  unfold fn_X6_clear at hF
  refine lv_aload_n hx hb dX6_clear_0 rfl (lv_at hl 0 rfl) ?_
  refine lv_iconst (v := 0) hx hb dX6_clear_1 (by decide) ?_
  refine va_put (D := E.1) (ci := 6) (v := .int 0) (ty := .int) (C := RX6) (T := TX6) (N := 3) hx hb hts k1 tyX6 tyX6_ok nmX6 hown hK hP hD hS 0 rfl rfl 2 (by decide) k0 (fun _ h9 => h9) rfl (by decide +kernel) rfl rfl (Nat.le_of_ble_eq_true rfl) dX6_clear_2 (fun H locs hP hD hS => ?_)
  have hP : va_P E.1 vwCl (Rows_c E a (Rows_size_s v 0)) H := hP
  have hD : va_D A (Rows_c E a (Rows_size_s v 0)) := hD
  refine lv_aload_n hx hb dX6_clear_5 rfl (lv_at hl 0 rfl) ?_
  refine va_get (D := E.1) (ci := 6) (v := .int 0) (C := RX6) (T := TX6) (N := 3) hx hb hts k1 hown hK hP 0 rfl rfl 2 (by decide) k0 (fun _ h9 => h9) rfl dX6_clear_6 ?_
  have hF := Option.some.inj hF
  subst hF
  rw [hQ]
  exact W.iret hx hb hr (fun t ht _ => ⟨⟨rfl, by rw [ht]; exact hP, hD⟩, hS.F ht⟩) hS.2.2 dX6_clear_9

