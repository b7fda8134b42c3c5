def st_X7_inLowestTerms_12 (j47 : Int64 → Option Int64) (rec12 : Int64 → Int64 → Int32 → Option Int64) (y5_12 : Int64) (y7_12 : Int64) (y9_12 : Int32) : Option Int64 :=
  (if 100 ≤ y9_12 then j47 y5_12 else (if (lg_cmp y7_12 (0 : Int64)) = 0 then j47 y5_12 else (if ¬ y7_12 = 0 then rec12 y7_12 (mRemL y5_12 y7_12) (y9_12 + 1) else none)))
def lp_X7_inLowestTerms_12 (j47 : Int64 → Option Int64) : Nat → Int64 → Int64 → Int32 → Option Int64
  | 0 => fun _ _ _ => none
  | n + 1 => st_X7_inLowestTerms_12 j47 (lp_X7_inLowestTerms_12 j47 n)
def fn_X7_inLowestTerms (x0 : Int64) (x1 : Int64) (x2 : Int32) : Option Int64 :=
  jp (fun (x5_47 : Int64) => (if ¬ (lg_cmp x5_47 (0 : Int64)) = 0 then jp (fun (z0_68 : Int64) => (if ¬ x5_47 = 0 then some (z0_68 / x5_47) else none)) (fun j68 => (if ¬ x2 = 0 then j68 x1 else j68 x0)) else some (-9223372036854775808 : Int64))) (fun j47 => lp_X7_inLowestTerms_12 j47 m_N (mAbsL x0) x1 0)
abbrev rmX7_inLowestTerms : Room := { frames := 1, cells := 0, slots := 0, locals := 21 }
set_option maxRecDepth 100000 in
set_option maxHeartbeats 400000 in
theorem c_X7_inLowestTerms (l : Launch) (E : mE) (x0 : Int64) (x1 : Int64) (x2 : Int32) (t : Int64) (hF : fn_X7_inLowestTerms x0 x1 x2 = some t) : Met l yX7_inLowestTerms wsX7_inLowestTerms rmX7_inLowestTerms (mPp E [.long x0, .long x1, .int x2] ([] : va_W)) (mSp (some (.long t))) 0 0 (fun _ => False) := by
  refine mOfP (cc := cX7_inLowestTerms) (maxL := 12) (ret := (some .long)) (by decide) rfl (Nat.le_of_ble_eq_true rfl) ?_
  intro p e_ s m args below meth c Q hQ CC hr hlocks hP hKN hGl ls hl
  have hS : va_S (fun _ => False) s.heap s.heap [] := va_S.rf
  have hK := hKN.1
  have hx := CC.1
  have hb := CC.2.1
  have hml := CC.2.2.1
  have hown : s.vm.findClass RX7 = some m.cls := CC.2.2.2.1
  have hts := CC.2.2.2.2
  have hl : lv_has ls 12 [(0, .long x0), (2, .long x1), (4, .int x2)] := hl
  have k0 := hts (.methodLink RX7 296 Lib.MathLoose.abs_long.x) (by decide +kernel)
  have k1 := hts (.static Lib.MathLoose.abs_long.x) (by decide +kernel)
  have k2 := hts (.initialized "java/lang/Math") (by decide +kernel)
  have k3 := hts (.code Lib.MathLoose.abs_long.x Lib.MathLoose.abs_long.code 2 (some .long)) (by decide +kernel)
  have k4 := hts (.constantLong RX7 214 (-9223372036854775808)) (by decide +kernel)
  unfold fn_X7_inLowestTerms at hF
  refine lv_lload_n hx hb dX7_inLowestTerms_0 rfl (lv_at hl 0 rfl) ?_
  refine va_mabs_long hx hb (hml.trans hl.1.symm) hown k0 k1 k2 k3 (Nat.le_of_ble_eq_true rfl) (Nat.le_of_ble_eq_true rfl) (Nat.zero_le _) (Nat.zero_le _) dX7_inLowestTerms_1 ?_
  refine W.eq (g2 := F0 m 4 ls [.long (mAbsL x0)]) rfl ?_
  refine lv_lstore (lv' := [(5, .long (mAbsL x0)), (0, .long x0), (2, .long x1), (4, .int x2)]) hx hb dX7_inLowestTerms_4 hl (by decide) rfl (fun ls hl => ?_)
  refine lv_lload_n hx hb dX7_inLowestTerms_6 rfl (lv_at hl 2 rfl) ?_
  refine lv_lstore (lv' := [(7, .long x1), (5, .long (mAbsL x0)), (0, .long x0), (2, .long x1), (4, .int x2)]) hx hb dX7_inLowestTerms_7 hl (by decide) rfl (fun ls hl => ?_)
  refine lv_iconst (v := 0) hx hb dX7_inLowestTerms_9 (by decide) ?_
  refine lv_istore (lv' := [(9, .int 0), (7, .long x1), (5, .long (mAbsL x0)), (0, .long x0), (2, .long x1), (4, .int x2)]) hx hb dX7_inLowestTerms_10 hl (by decide) rfl (fun ls hl => ?_)
  obtain ⟨j47, hjd47, hF⟩ := m_jp hF
  have hj47 : ∀ (x5_47 : Int64) (ls : Array Slot), j47 x5_47 = some t → lv_has ls 12 [(0, .long x0), (2, .long x1), (4, .int x2), (5, .long x5_47)] → W p l e_ rmX7_inLowestTerms s m args below meth c s.heap [] 0 0 Q (F0 m 47 ls []) := by
    intro x5_47 ls hF hl
    rw [hjd47] at hF
    refine lv_lload hx hb dX7_inLowestTerms_47 (lv_at hl 3 rfl) ?_
    refine lv_lconst (v := 0) hx hb dX7_inLowestTerms_49 (by decide) ?_
    refine W.lcmp hx hb dX7_inLowestTerms_50 ?_
    refine lv_if_ne (tgt := 58) hx hb dX7_inLowestTerms_51 (by decide) (fun c1 => ?_) (fun c1 => ?_)
    · have hF := m_pos c1 hF
      refine lv_iload hx hb dX7_inLowestTerms_58 (lv_at hl 2 rfl) ?_
      obtain ⟨j68, hjd68, hF⟩ := m_jp hF
      have hj68 : ∀ (z0_68 : Int64) (ls : Array Slot), j68 z0_68 = some t → lv_has ls 12 [(5, .long x5_47)] → W p l e_ rmX7_inLowestTerms s m args below meth c s.heap [] 0 0 Q (F0 m 68 ls [.long z0_68]) := by
        intro z0_68 ls hF hl
        rw [hjd68] at hF
        refine lv_lload hx hb dX7_inLowestTerms_68 (lv_at hl 0 rfl) ?_
        obtain ⟨h2, hF⟩ := m_chk hF
        refine lv_ldiv hx hb dX7_inLowestTerms_70 h2 ?_
        have hF := Option.some.inj hF
        subst hF
        rw [hQ]
        exact W.lret hx hb hr (fun t ht _ => ⟨rfl, ht⟩) (fun _ h => by cases h) dX7_inLowestTerms_71
      clear hjd68
      refine lv_if_ne (tgt := 67) hx hb dX7_inLowestTerms_60 (by decide) (fun c3 => ?_) (fun c3 => ?_)
      · have hF := m_pos c3 hF
        refine lv_lload_n hx hb dX7_inLowestTerms_67 rfl (lv_at hl 1 rfl) ?_
        exact hj68 x1 ls hF (lv_sub hl [3] rfl)
      · have hF := m_neg (fun n9 => n9 c3) hF
        refine lv_lload_n hx hb dX7_inLowestTerms_63 rfl (lv_at hl 0 rfl) ?_
        refine lv_goto (tgt := 68) hx hb dX7_inLowestTerms_64 (by decide) ?_
        exact hj68 x0 ls hF (lv_sub hl [3] rfl)
    · have hF := m_neg (fun n9 => n9 c1) hF
      refine lv_ldc2 (v := (-9223372036854775808 : Int64)) hx hb hown k4 dX7_inLowestTerms_54 ?_
      have hF := Option.some.inj hF
      subst hF
      rw [hQ]
      exact W.lret hx hb hr (fun t ht _ => ⟨rfl, ht⟩) (fun _ h => by cases h) dX7_inLowestTerms_57
  clear hjd47
  have hL12 : ∀ (n : Nat) (y5_12 : Int64) (y7_12 : Int64) (y9_12 : Int32) (ls : Array Slot), lp_X7_inLowestTerms_12 j47 n y5_12 y7_12 y9_12 = some t → lv_has ls 12 [(0, .long x0), (2, .long x1), (4, .int x2), (5, .long y5_12), (7, .long y7_12), (9, .int y9_12)] → W p l e_ rmX7_inLowestTerms s m args below meth c s.heap [] 0 0 Q (F0 m 12 ls []) := by
    intro n
    induction n with
    | zero =>
      intro y5_12 y7_12 y9_12 ls hF
      exact nomatch (show (none : Option Int64) = some t from hF)
    | succ n ih12 =>
      intro y5_12 y7_12 y9_12 ls hF hl
      have hF : st_X7_inLowestTerms_12 j47 (lp_X7_inLowestTerms_12 j47 n) y5_12 y7_12 y9_12 = some t := hF
      unfold st_X7_inLowestTerms_12 at hF
      refine lv_iload hx hb dX7_inLowestTerms_12 (lv_at hl 5 rfl) ?_
      refine lv_bipush (v := 100) hx hb dX7_inLowestTerms_14 (by decide) ?_
      refine lv_icmp_ge (tgt := 47) hx hb dX7_inLowestTerms_16 (by decide) (fun c4 => ?_) (fun c4 => ?_)
      · have hF := m_pos c4 hF
        exact hj47 y5_12 ls hF (lv_sub hl [0, 1, 2, 3] rfl)
      · have hF := m_neg c4 hF
        refine lv_lload hx hb dX7_inLowestTerms_19 (lv_at hl 4 rfl) ?_
        refine lv_lconst (v := 0) hx hb dX7_inLowestTerms_21 (by decide) ?_
        refine W.lcmp hx hb dX7_inLowestTerms_22 ?_
        refine lv_if_eq (tgt := 47) hx hb dX7_inLowestTerms_23 (by decide) (fun c5 => ?_) (fun c5 => ?_)
        · have hF := m_pos c5 hF
          exact hj47 y5_12 ls hF (lv_sub hl [0, 1, 2, 3] rfl)
        · have hF := m_neg c5 hF
          refine lv_lload hx hb dX7_inLowestTerms_26 (lv_at hl 3 rfl) ?_
          refine lv_lload hx hb dX7_inLowestTerms_28 (lv_at hl 4 rfl) ?_
          obtain ⟨h6, hF⟩ := m_chk hF
          refine lv_lrem hx hb dX7_inLowestTerms_30 h6 ?_
          refine W.eq (g2 := F0 m 31 ls [.long (mRemL y5_12 y7_12)]) rfl ?_
          refine lv_lstore (lv' := [(10, .long (mRemL y5_12 y7_12)), (0, .long x0), (2, .long x1), (4, .int x2), (5, .long y5_12), (7, .long y7_12), (9, .int y9_12)]) hx hb dX7_inLowestTerms_31 hl (by decide) rfl (fun ls hl => ?_)
          refine lv_lload hx hb dX7_inLowestTerms_33 (lv_at hl 5 rfl) ?_
          refine lv_lstore (lv' := [(5, .long y7_12), (10, .long (mRemL y5_12 y7_12)), (0, .long x0), (2, .long x1), (4, .int x2), (7, .long y7_12), (9, .int y9_12)]) hx hb dX7_inLowestTerms_35 hl (by decide) rfl (fun ls hl => ?_)
          refine lv_lload hx hb dX7_inLowestTerms_37 (lv_at hl 1 rfl) ?_
          refine lv_lstore (lv' := [(7, .long (mRemL y5_12 y7_12)), (5, .long y7_12), (10, .long (mRemL y5_12 y7_12)), (0, .long x0), (2, .long x1), (4, .int x2), (9, .int y9_12)]) hx hb dX7_inLowestTerms_39 hl (by decide) rfl (fun ls hl => ?_)
          refine lv_iinc (v := (y9_12 + 1)) (lv' := [(9, .int (y9_12 + 1)), (7, .long (mRemL y5_12 y7_12)), (5, .long y7_12), (10, .long (mRemL y5_12 y7_12)), (0, .long x0), (2, .long x1), (4, .int x2)]) hx hb dX7_inLowestTerms_41 hl (k := 6) rfl rfl (by decide) rfl (fun ls hl => ?_)
          refine lv_goto (tgt := 12) hx hb dX7_inLowestTerms_44 (by decide) ?_
          exact ih12 y7_12 (mRemL y5_12 y7_12) (y9_12 + 1) ls hF (lv_sub hl [4, 5, 6, 2, 1, 0] rfl)
  exact hL12 m_N (mAbsL x0) x1 0 ls hF (lv_sub hl [3, 4, 5, 2, 1, 0] rfl)

def fn_X8_in (x0 : Int32) (x1 : Int32) (x2 : Int32) : Option Int32 :=
  (if x0 < x1 then some 0 else (if x2 < x0 then some 0 else some 1))
abbrev rmX8_in : Room := { frames := 0, cells := 0, slots := 0, locals := 0 }
set_option maxRecDepth 100000 in
set_option maxHeartbeats 400000 in
theorem c_X8_in (l : Launch) (E : mE) (x0 : Int32) (x1 : Int32) (x2 : Int32) (t : Int32) (hF : fn_X8_in x0 x1 x2 = some t) : Met l yX8_in wsX8_in rmX8_in (mPp E [.int x0, .int x1, .int x2] ([] : va_W)) (mSp (some (.int t))) 0 0 (fun _ => False) := by
  refine mOfP (cc := cX8_in) (maxL := 3) (ret := (some .boolean)) (by decide) rfl (Nat.le_of_ble_eq_true rfl) ?_
  intro p e_ s m args below meth c Q hQ CC hr hlocks hP hKN hGl ls hl
  have hS : va_S (fun _ => False) s.heap s.heap [] := va_S.rf
  have hK := hKN.1
  have hx := CC.1
  have hb := CC.2.1
  have hml := CC.2.2.1
  have hown : s.vm.findClass RX8 = some m.cls := CC.2.2.2.1
  have hts := CC.2.2.2.2
  have hl : lv_has ls 3 [(0, .int x0), (1, .int x1), (2, .int x2)] := hl
  unfold fn_X8_in at hF
  refine lv_iload_n hx hb dX8_in_0 rfl (lv_at hl 0 rfl) ?_
  refine lv_iload_n hx hb dX8_in_1 rfl (lv_at hl 1 rfl) ?_
  refine lv_icmp_lt (tgt := 14) hx hb dX8_in_2 (by decide) (fun c1 => ?_) (fun c1 => ?_)
  · have hF := m_pos c1 hF
    refine lv_iconst (v := 0) hx hb dX8_in_14 (by decide) ?_
    have hF := Option.some.inj hF
    subst hF
    rw [hQ]
    exact W.zret hx hb hr rfl (fun t ht _ => ⟨rfl, ht⟩) (fun _ h => by cases h) dX8_in_15
  · have hF := m_neg c1 hF
    refine lv_iload_n hx hb dX8_in_5 rfl (lv_at hl 0 rfl) ?_
    refine lv_iload_n hx hb dX8_in_6 rfl (lv_at hl 2 rfl) ?_
    refine lv_icmp_gt (tgt := 14) hx hb dX8_in_7 (by decide) (fun c2 => ?_) (fun c2 => ?_)
    · have hF := m_pos c2 hF
      refine lv_iconst (v := 0) hx hb dX8_in_14 (by decide) ?_
      have hF := Option.some.inj hF
      subst hF
      rw [hQ]
      exact W.zret hx hb hr rfl (fun t ht _ => ⟨rfl, ht⟩) (fun _ h => by cases h) dX8_in_15
    · have hF := m_neg c2 hF
      refine lv_iconst (v := 1) hx hb dX8_in_10 (by decide) ?_
      refine lv_goto (tgt := 15) hx hb dX8_in_11 (by decide) ?_
      have hF := Option.some.inj hF
      subst hF
      rw [hQ]
      exact W.zret hx hb hr rfl (fun t ht _ => ⟨rfl, ht⟩) (fun _ h => by cases h) dX8_in_15

def fn_X8_within (x0 : Int32) (x1 : Int32) (x2 : Int32) : Option Int32 :=
  (if x1 ≤ x0 then (if x0 ≤ x2 then some x0 else some x2) else some x1)
abbrev rmX8_within : Room := { frames := 0, cells := 0, slots := 0, locals := 0 }
set_option maxRecDepth 100000 in
set_option maxHeartbeats 400000 in
theorem c_X8_within (l : Launch) (E : mE) (x0 : Int32) (x1 : Int32) (x2 : Int32) (t : Int32) (hF : fn_X8_within x0 x1 x2 = some t) : Met l yX8_within wsX8_within rmX8_within (mPp E [.int x0, .int x1, .int x2] ([] : va_W)) (mSp (some (.int t))) 0 0 (fun _ => False) := by
  refine mOfP (cc := cX8_within) (maxL := 3) (ret := (some .int)) (by decide) rfl (Nat.le_of_ble_eq_true rfl) ?_
  intro p e_ s m args below meth c Q hQ CC hr hlocks hP hKN hGl ls hl
  have hS : va_S (fun _ => False) s.heap s.heap [] := va_S.rf
  have hK := hKN.1
  have hx := CC.1
  have hb := CC.2.1
  have hml := CC.2.2.1
  have hown : s.vm.findClass RX8 = some m.cls := CC.2.2.2.1
  have hts := CC.2.2.2.2
  have hl : lv_has ls 3 [(0, .int x0), (1, .int x1), (2, .int x2)] := hl
  unfold fn_X8_within at hF
  refine lv_iload_n hx hb dX8_within_0 rfl (lv_at hl 0 rfl) ?_
  refine lv_iload_n hx hb dX8_within_1 rfl (lv_at hl 1 rfl) ?_
  refine lv_icmp_ge (tgt := 9) hx hb dX8_within_2 (by decide) (fun c1 => ?_) (fun c1 => ?_)
  · have hF := m_pos c1 hF
    refine lv_iload_n hx hb dX8_within_9 rfl (lv_at hl 0 rfl) ?_
    refine lv_iload_n hx hb dX8_within_10 rfl (lv_at hl 2 rfl) ?_
    refine lv_icmp_le (tgt := 18) hx hb dX8_within_11 (by decide) (fun c2 => ?_) (fun c2 => ?_)
    · have hF := m_pos c2 hF
      refine lv_iload_n hx hb dX8_within_18 rfl (lv_at hl 0 rfl) ?_
      have hF := Option.some.inj hF
      subst hF
      rw [hQ]
      exact W.iret hx hb hr (fun t ht _ => ⟨rfl, ht⟩) (fun _ h => by cases h) dX8_within_19
    · have hF := m_neg c2 hF
      refine lv_iload_n hx hb dX8_within_14 rfl (lv_at hl 2 rfl) ?_
      refine lv_goto (tgt := 19) hx hb dX8_within_15 (by decide) ?_
      have hF := Option.some.inj hF
      subst hF
      rw [hQ]
      exact W.iret hx hb hr (fun t ht _ => ⟨rfl, ht⟩) (fun _ h => by cases h) dX8_within_19
  · have hF := m_neg c1 hF
    refine lv_iload_n hx hb dX8_within_5 rfl (lv_at hl 1 rfl) ?_
    refine lv_goto (tgt := 19) hx hb dX8_within_6 (by decide) ?_
    have hF := Option.some.inj hF
    subst hF
    rw [hQ]
    exact W.iret hx hb hr (fun t ht _ => ⟨rfl, ht⟩) (fun _ h => by cases h) dX8_within_19

def fn_X8_size (x0 : Int32) : Option Int32 :=
  (if 0 ≤ x0 then some x0 else some (-x0))
abbrev rmX8_size : Room := { frames := 0, cells := 0, slots := 0, locals := 0 }
set_option maxRecDepth 100000 in
set_option maxHeartbeats 400000 in
theorem c_X8_size (l : Launch) (E : mE) (x0 : Int32) (t : Int32) (hF : fn_X8_size x0 = some t) : Met l yX8_size wsX8_size rmX8_size (mPp E [.int x0] ([] : va_W)) (mSp (some (.int t))) 0 0 (fun _ => False) := by
  refine mOfP (cc := cX8_size) (maxL := 1) (ret := (some .int)) (by decide) rfl (Nat.le_of_ble_eq_true rfl) ?_
  intro p e_ s m args below meth c Q hQ CC hr hlocks hP hKN hGl ls hl
  have hS : va_S (fun _ => False) s.heap s.heap [] := va_S.rf
  have hK := hKN.1
  have hx := CC.1
  have hb := CC.2.1
  have hml := CC.2.2.1
  have hown : s.vm.findClass RX8 = some m.cls := CC.2.2.2.1
  have hts := CC.2.2.2.2
  have hl : lv_has ls 1 [(0, .int x0)] := hl
  unfold fn_X8_size at hF
  refine lv_iload_n hx hb dX8_size_0 rfl (lv_at hl 0 rfl) ?_
  refine lv_if_ge (tgt := 9) hx hb dX8_size_1 (by decide) (fun c1 => ?_) (fun c1 => ?_)
  · have hF := m_pos c1 hF
    refine lv_iload_n hx hb dX8_size_9 rfl (lv_at hl 0 rfl) ?_
    have hF := Option.some.inj hF
    subst hF
    rw [hQ]
    exact W.iret hx hb hr (fun t ht _ => ⟨rfl, ht⟩) (fun _ h => by cases h) dX8_size_10
  · have hF := m_neg c1 hF
    refine lv_iload_n hx hb dX8_size_4 rfl (lv_at hl 0 rfl) ?_
    refine lv_ineg hx hb dX8_size_5 ?_
    refine lv_goto (tgt := 10) hx hb dX8_size_6 (by decide) ?_
    have hF := Option.some.inj hF
    subst hF
    rw [hQ]
    exact W.iret hx hb hr (fun t ht _ => ⟨rfl, ht⟩) (fun _ h => by cases h) dX8_size_10

def fn_X8_isPupil (v : ModelV) (x0 : Int32) : Option Int32 :=
  (if mIn 20 926 = true then (Option.bind (fn_X8_in x0 0 (((Model_s v) (20 : Int32).toNatClampNeg) - 1)) (fun t2 => (if mBit t2 = true then some t2 else none))) else none)
abbrev rmX8_isPupil : Room := { frames := 1, cells := 0, slots := 0, locals := 22 }
set_option maxRecDepth 100000 in
set_option maxHeartbeats 400000 in
theorem c_X8_isPupil (l : Launch) (E : mE) (a : ModelA) (v : ModelV) (x0 : Int32) (t : Int32) (hF : fn_X8_isPupil v x0 = some t) : Met l yX8_isPupil wsX8_isPupil rmX8_isPupil (mPp E [.ref (Modela_self a), .int x0] (Model_c E a v)) (mSp (some (.int t))) 0 0 (fun _ => False) := by
  refine mOfP (cc := cX8_isPupil) (maxL := 2) (ret := (some .boolean)) (by decide) rfl (Nat.le_of_ble_eq_true rfl) ?_
  intro p e_ s m args below meth c Q hQ CC hr hlocks hP hKN hGl ls hl
  have hS : va_S (fun _ => False) s.heap s.heap [] := va_S.rf
  have hK := hKN.1
  have hx := CC.1
  have hb := CC.2.1
  have hml := CC.2.2.1
  have hown : s.vm.findClass RX8 = some m.cls := CC.2.2.2.1
  have hts := CC.2.2.2.2
  have hl : lv_has ls 2 [(0, .ref (Modela_self a)), (1, .int x0)] := hl
  have k0 := hts (.fieldLink RX8 9 "OneDidAllModel" "s" "[I") (by decide +kernel)
  have k1 := (show ∀ w ∈ u_ws RX8 TX8 20, w ∈ wsX8_isPupil by decide +kernel)
  unfold fn_X8_isPupil at hF
  refine lv_iload_n hx hb dX8_isPupil_0 rfl (lv_at hl 1 rfl) ?_
  refine lv_iconst (v := 0) hx hb dX8_isPupil_1 (by decide) ?_
  refine lv_aload_n hx hb dX8_isPupil_2 rfl (lv_at hl 0 rfl) ?_
  refine va_get (D := E.1) (ci := 8) (v := .ref (Modela_s a)) (C := RX8) (T := TX8) (N := 20) hx hb hts k1 hown hK hP 0 rfl rfl 1 (by decide) k0 (fun _ h9 => h9) rfl dX8_isPupil_3 ?_
  refine lv_bipush (v := 20) hx hb dX8_isPupil_6 (by decide) ?_
  obtain ⟨h1, hF⟩ := m_chk hF
  refine va_iald (f := (Model_s v)) hx hb hK hP 1 1 rfl rfl (mIn_ok h1) dX8_isPupil_8 ?_
  refine W.eq (g2 := F0 m 9 ls [.int ((Model_s v) (20 : Int32).toNatClampNeg), .int 0, .int x0]) rfl ?_
  refine lv_iconst (v := 1) hx hb dX8_isPupil_9 (by decide) ?_
  refine lv_isub hx hb dX8_isPupil_10 ?_
  obtain ⟨t2, ht2, hF⟩ := m_bnd hF
  refine mSP (n := 3) (rest := []) (As := [.int x0, .int 0, .int (((Model_s v) (20 : Int32).toNatClampNeg) - 1)]) CC hKN hGl hS (c_X8_in l E x0 0 (((Model_s v) (20 : Int32).toNatClampNeg) - 1) t2 ht2) gX8_isPupil_X8_in rfl ⟨rfl, rfl⟩ (by decide +kernel) ⟨Nat.le_of_ble_eq_true rfl, Nat.le_of_ble_eq_true rfl⟩ m_nil rfl hl.1 rfl (Nat.le_of_ble_eq_true rfl) ⟨Nat.zero_le _, Nat.zero_le _⟩ dX8_isPupil_11 ?_
  refine W.eq (g2 := F0 m 14 ls [.int t2]) rfl ?_
  obtain ⟨h3, hF⟩ := m_chk hF
  have hF := Option.some.inj hF
  subst hF
  rw [hQ]
  exact W.zret hx hb hr (mBit_nar h3) (fun t ht _ => ⟨rfl, ht⟩) (fun _ h => by cases h) dX8_isPupil_14

def st_X8_keeps_2  (rec2 : Int32 → ModelV → Option ModelV) (y1_2 : Int32) (wy_2 : ModelV) : Option ModelV :=
  (if 20 ≤ y1_2 then some wy_2 else (if mIn y1_2 926 = true then (if mIn y1_2 20 = true then rec2 (y1_2 + 1) (Model_frame_s wy_2 (upd (Model_frame wy_2) (y1_2).toNatClampNeg ((Model_s wy_2) (y1_2).toNatClampNeg))) else none) else none))
def lp_X8_keeps_2  : Nat → Int32 → ModelV → Option ModelV
  | 0 => fun _ _ => none
  | n + 1 => st_X8_keeps_2  (lp_X8_keeps_2  n)
def fn_X8_keeps (v : ModelV) : Option ModelV :=
  lp_X8_keeps_2  m_N 0 v
abbrev rmX8_keeps : Room := { frames := 0, cells := 0, slots := 0, locals := 0 }
set_option maxRecDepth 100000 in
set_option maxHeartbeats 400000 in
theorem c_X8_keeps (l : Launch) (E : mE) (a : ModelA) (v : ModelV) (t : ModelV) (hF : fn_X8_keeps v = some t) (sz : Nat) : Met l yX8_keeps wsX8_keeps rmX8_keeps (mPm E [.ref (Modela_self a)] sz ((Model_c E a v)) (([] : va_W))) (mSm E (none) ((Model_c E a t)) (va_A ((Model_c E a v)) sz)) 0 0 (va_A ((Model_c E a v)) sz) := by
  refine mOfM (cc := cX8_keeps) (maxL := 2) (ret := none) (by decide) rfl (Nat.le_of_ble_eq_true rfl) ?_
  intro p e_ s m args below meth c Q A hQ CC hr hlocks hin hA hP hD hKN hGl hR0 hRA ls hl
  have hS : va_S A s.heap s.heap [] := va_S.rf
  have hK := hKN.1
  have hx := CC.1
  have hb := CC.2.1
  have hml := CC.2.2.1
  have hown : s.vm.findClass RX8 = some m.cls := CC.2.2.2.1
  have hts := CC.2.2.2.2
  have hl : lv_has ls 2 [(0, .ref (Modela_self a))] := hl
  have k0 := hts (.fieldLink RX8 18 "OneDidAllModel" "frame" "[I") (by decide +kernel)
  have k1 := (show ∀ w ∈ u_ws RX8 TX8 20, w ∈ wsX8_keeps by decide +kernel)
  have k2 := hts (.fieldLink RX8 9 "OneDidAllModel" "s" "[I") (by decide +kernel)
  have hP : va_P E.1 vwCl (Model_c E a v) s.heap := hP
  obtain ⟨H, hH⟩ : ∃ H, H = s.heap := ⟨_, rfl⟩
  obtain ⟨locs, hlc⟩ : ∃ z : List Loc, z = [] := ⟨_, rfl⟩
  rw [← hH] at hP
  rw [← hlc] at hS
  have hS : va_S A s.heap H locs := by rw [hH]; exact hS
  rw [← hH, ← hlc]
  unfold fn_X8_keeps at hF
  refine lv_iconst (v := 0) hx hb dX8_keeps_0 (by decide) ?_
  refine lv_istore_n (lv' := [(1, .int 0), (0, .ref (Modela_self a))]) hx hb dX8_keeps_1 rfl hl (by decide) rfl (fun ls hl => ?_)
  have hL2 : ∀ (n : Nat) (y1_2 : Int32) (wy_2 : ModelV) (H : Heap) (locs : List Loc) (ls : Array Slot), lp_X8_keeps_2  n y1_2 wy_2 = some t → va_P E.1 vwCl (Model_c E a wy_2) H → va_D A (Model_c E a wy_2) → va_S A s.heap H locs → lv_has ls 2 [(0, .ref (Modela_self a)), (1, .int y1_2)] → W p l e_ rmX8_keeps s m args below meth c H locs 0 0 Q (F0 m 2 ls []) := by
    intro n
    induction n with
    | zero =>
      intro y1_2 wy_2 H locs ls hF
      exact nomatch (show (none : Option ModelV) = some t from hF)
    | succ n ih2 =>
      intro y1_2 wy_2 H locs ls hF hP hD hS hl
      have hF : st_X8_keeps_2  (lp_X8_keeps_2  n) y1_2 wy_2 = some t := hF
      unfold st_X8_keeps_2 at hF
      refine lv_iload_n hx hb dX8_keeps_2 rfl (lv_at hl 1 rfl) ?_
      refine lv_bipush (v := 20) hx hb dX8_keeps_3 (by decide) ?_
      refine lv_icmp_ge (tgt := 26) hx hb dX8_keeps_5 (by decide) (fun c1 => ?_) (fun c1 => ?_)
      · have hF := m_pos c1 hF
        have hF := Option.some.inj hF
        subst hF
        rw [hQ]
        exact W.vret hx hb hr (fun t ht _ => ⟨⟨rfl, by rw [ht]; exact hP, hD⟩, hS.F ht⟩) hS.2.2 dX8_keeps_26
      · have hF := m_neg c1 hF
        refine lv_aload_n hx hb dX8_keeps_8 rfl (lv_at hl 0 rfl) ?_
        refine va_get (D := E.1) (ci := 8) (v := .ref (Modela_frame a)) (C := RX8) (T := TX8) (N := 20) hx hb hts k1 hown hK hP 0 rfl rfl 3 (by decide) k0 (fun _ h9 => h9) rfl dX8_keeps_9 ?_
        refine lv_iload_n hx hb dX8_keeps_12 rfl (lv_at hl 1 rfl) ?_
        refine lv_aload_n hx hb dX8_keeps_13 rfl (lv_at hl 0 rfl) ?_
        refine va_get (D := E.1) (ci := 8) (v := .ref (Modela_s a)) (C := RX8) (T := TX8) (N := 20) hx hb hts k1 hown hK hP 0 rfl rfl 1 (by decide) k2 (fun _ h9 => h9) rfl dX8_keeps_14 ?_
        refine lv_iload_n hx hb dX8_keeps_17 rfl (lv_at hl 1 rfl) ?_
        obtain ⟨h2, hF⟩ := m_chk hF
        refine va_iald (f := (Model_s wy_2)) hx hb hK hP 1 1 rfl rfl (mIn_ok h2) dX8_keeps_18 ?_
        refine W.eq (g2 := F0 m 19 ls [.int ((Model_s wy_2) (y1_2).toNatClampNeg), .int y1_2, .ref (Modela_frame a)]) rfl ?_
        obtain ⟨h3, hF⟩ := m_chk hF
        refine va_iast (f := (Model_frame wy_2)) hx hb hK hP hD hS 3 1 rfl rfl (mIn_ok h3) dX8_keeps_19 (fun H locs hP hD hS => ?_)
        have hP : va_P E.1 vwCl (Model_c E a (Model_frame_s wy_2 (upd (Model_frame wy_2) (y1_2).toNatClampNeg ((Model_s wy_2) (y1_2).toNatClampNeg)))) H := hP
        have hD : va_D A (Model_c E a (Model_frame_s wy_2 (upd (Model_frame wy_2) (y1_2).toNatClampNeg ((Model_s wy_2) (y1_2).toNatClampNeg)))) := hD
        refine lv_iinc (v := (y1_2 + 1)) (lv' := [(1, .int (y1_2 + 1)), (0, .ref (Modela_self a))]) hx hb dX8_keeps_20 hl (k := 1) rfl rfl (by decide) rfl (fun ls hl => ?_)
        refine lv_goto (tgt := 2) hx hb dX8_keeps_23 (by decide) ?_
        exact ih2 (y1_2 + 1) (Model_frame_s wy_2 (upd (Model_frame wy_2) (y1_2).toNatClampNeg ((Model_s wy_2) (y1_2).toNatClampNeg))) H locs ls hF hP hD hS (lv_sub hl [1, 0] rfl)
  exact hL2 m_N 0 v H locs ls hF hP hD hS (lv_sub hl [1, 0] rfl)

def st_X8_goesBack_2  (rec2 : Int32 → ModelV → Option ModelV) (y1_2 : Int32) (wy_2 : ModelV) : Option ModelV :=
  (if 20 ≤ y1_2 then some wy_2 else (if mIn y1_2 20 = true then (if mIn y1_2 926 = true then rec2 (y1_2 + 1) (Model_s_s wy_2 (upd (Model_s wy_2) (y1_2).toNatClampNeg ((Model_frame wy_2) (y1_2).toNatClampNeg))) else none) else none))
def lp_X8_goesBack_2  : Nat → Int32 → ModelV → Option ModelV
  | 0 => fun _ _ => none
  | n + 1 => st_X8_goesBack_2  (lp_X8_goesBack_2  n)
def fn_X8_goesBack (v : ModelV) : Option ModelV :=
  lp_X8_goesBack_2  m_N 0 v
abbrev rmX8_goesBack : Room := { frames := 0, cells := 0, slots := 0, locals := 0 }
set_option maxRecDepth 100000 in
set_option maxHeartbeats 400000 in
theorem c_X8_goesBack (l : Launch) (E : mE) (a : ModelA) (v : ModelV) (t : ModelV) (hF : fn_X8_goesBack v = some t) (sz : Nat) : Met l yX8_goesBack wsX8_goesBack rmX8_goesBack (mPm E [.ref (Modela_self a)] sz ((Model_c E a v)) (([] : va_W))) (mSm E (none) ((Model_c E a t)) (va_A ((Model_c E a v)) sz)) 0 0 (va_A ((Model_c E a v)) sz) := by
  refine mOfM (cc := cX8_goesBack) (maxL := 2) (ret := none) (by decide) rfl (Nat.le_of_ble_eq_true rfl) ?_
  intro p e_ s m args below meth c Q A hQ CC hr hlocks hin hA hP hD hKN hGl hR0 hRA ls hl
  have hS : va_S A s.heap s.heap [] := va_S.rf
  have hK := hKN.1
  have hx := CC.1
  have hb := CC.2.1
  have hml := CC.2.2.1
  have hown : s.vm.findClass RX8 = some m.cls := CC.2.2.2.1
  have hts := CC.2.2.2.2
  have hl : lv_has ls 2 [(0, .ref (Modela_self a))] := hl
  have k0 := hts (.fieldLink RX8 9 "OneDidAllModel" "s" "[I") (by decide +kernel)
  have k1 := (show ∀ w ∈ u_ws RX8 TX8 20, w ∈ wsX8_goesBack by decide +kernel)
  have k2 := hts (.fieldLink RX8 18 "OneDidAllModel" "frame" "[I") (by decide +kernel)
  have hP : va_P E.1 vwCl (Model_c E a v) s.heap := hP
  obtain ⟨H, hH⟩ : ∃ H, H = s.heap := ⟨_, rfl⟩
  obtain ⟨locs, hlc⟩ : ∃ z : List Loc, z = [] := ⟨_, rfl⟩
  rw [← hH] at hP
  rw [← hlc] at hS
  have hS : va_S A s.heap H locs := by rw [hH]; exact hS
  rw [← hH, ← hlc]
  unfold fn_X8_goesBack at hF
  refine lv_iconst (v := 0) hx hb dX8_goesBack_0 (by decide) ?_
  refine lv_istore_n (lv' := [(1, .int 0), (0, .ref (Modela_self a))]) hx hb dX8_goesBack_1 rfl hl (by decide) rfl (fun ls hl => ?_)
  have hL2 : ∀ (n : Nat) (y1_2 : Int32) (wy_2 : ModelV) (H : Heap) (locs : List Loc) (ls : Array Slot), lp_X8_goesBack_2  n y1_2 wy_2 = some t → va_P E.1 vwCl (Model_c E a wy_2) H → va_D A (Model_c E a wy_2) → va_S A s.heap H locs → lv_has ls 2 [(0, .ref (Modela_self a)), (1, .int y1_2)] → W p l e_ rmX8_goesBack s m args below meth c H locs 0 0 Q (F0 m 2 ls []) := by
    intro n
    induction n with
    | zero =>
      intro y1_2 wy_2 H locs ls hF
      exact nomatch (show (none : Option ModelV) = some t from hF)
    | succ n ih2 =>
      intro y1_2 wy_2 H locs ls hF hP hD hS hl
      have hF : st_X8_goesBack_2  (lp_X8_goesBack_2  n) y1_2 wy_2 = some t := hF
      unfold st_X8_goesBack_2 at hF
      refine lv_iload_n hx hb dX8_goesBack_2 rfl (lv_at hl 1 rfl) ?_
      refine lv_bipush (v := 20) hx hb dX8_goesBack_3 (by decide) ?_
      refine lv_icmp_ge (tgt := 26) hx hb dX8_goesBack_5 (by decide) (fun c1 => ?_) (fun c1 => ?_)
      · have hF := m_pos c1 hF
        have hF := Option.some.inj hF
        subst hF
        rw [hQ]
        exact W.vret hx hb hr (fun t ht _ => ⟨⟨rfl, by rw [ht]; exact hP, hD⟩, hS.F ht⟩) hS.2.2 dX8_goesBack_26
      · have hF := m_neg c1 hF
        refine lv_aload_n hx hb dX8_goesBack_8 rfl (lv_at hl 0 rfl) ?_
        refine va_get (D := E.1) (ci := 8) (v := .ref (Modela_s a)) (C := RX8) (T := TX8) (N := 20) hx hb hts k1 hown hK hP 0 rfl rfl 1 (by decide) k0 (fun _ h9 => h9) rfl dX8_goesBack_9 ?_
        refine lv_iload_n hx hb dX8_goesBack_12 rfl (lv_at hl 1 rfl) ?_
        refine lv_aload_n hx hb dX8_goesBack_13 rfl (lv_at hl 0 rfl) ?_
        refine va_get (D := E.1) (ci := 8) (v := .ref (Modela_frame a)) (C := RX8) (T := TX8) (N := 20) hx hb hts k1 hown hK hP 0 rfl rfl 3 (by decide) k2 (fun _ h9 => h9) rfl dX8_goesBack_14 ?_
        refine lv_iload_n hx hb dX8_goesBack_17 rfl (lv_at hl 1 rfl) ?_
        obtain ⟨h2, hF⟩ := m_chk hF
        refine va_iald (f := (Model_frame wy_2)) hx hb hK hP 3 1 rfl rfl (mIn_ok h2) dX8_goesBack_18 ?_
        refine W.eq (g2 := F0 m 19 ls [.int ((Model_frame wy_2) (y1_2).toNatClampNeg), .int y1_2, .ref (Modela_s a)]) rfl ?_
        obtain ⟨h3, hF⟩ := m_chk hF
        refine va_iast (f := (Model_s wy_2)) hx hb hK hP hD hS 1 1 rfl rfl (mIn_ok h3) dX8_goesBack_19 (fun H locs hP hD hS => ?_)
        have hP : va_P E.1 vwCl (Model_c E a (Model_s_s wy_2 (upd (Model_s wy_2) (y1_2).toNatClampNeg ((Model_frame wy_2) (y1_2).toNatClampNeg)))) H := hP
        have hD : va_D A (Model_c E a (Model_s_s wy_2 (upd (Model_s wy_2) (y1_2).toNatClampNeg ((Model_frame wy_2) (y1_2).toNatClampNeg)))) := hD
        refine lv_iinc (v := (y1_2 + 1)) (lv' := [(1, .int (y1_2 + 1)), (0, .ref (Modela_self a))]) hx hb dX8_goesBack_20 hl (k := 1) rfl rfl (by decide) rfl (fun ls hl => ?_)
        refine lv_goto (tgt := 2) hx hb dX8_goesBack_23 (by decide) ?_
        exact ih2 (y1_2 + 1) (Model_s_s wy_2 (upd (Model_s wy_2) (y1_2).toNatClampNeg ((Model_frame wy_2) (y1_2).toNatClampNeg))) H locs ls hF hP hD hS (lv_sub hl [1, 0] rfl)
  exact hL2 m_N 0 v H locs ls hF hP hD hS (lv_sub hl [1, 0] rfl)

def fn_X8_feed (v : ModelV) (x0 : Int32) : Option (Int32 × ModelV) :=
  (Option.bind (fn_X8_in x0 0 127) (fun t1 => (if ¬ t1 = 0 then (if mIn 25 926 = true then (if ¬ ((Model_s v) (25 : Int32).toNatClampNeg) = 100 then (if mIn 25 926 = true then (if mIn (111 + ((Model_s v) (25 : Int32).toNatClampNeg)) 926 = true then (if mIn 25 926 = true then (if mIn 25 926 = true then (if mIn 25 926 = true then some (((upd (upd (Model_s v) ((111 + ((Model_s v) (25 : Int32).toNatClampNeg))).toNatClampNeg x0) (25 : Int32).toNatClampNeg (((upd (Model_s v) ((111 + ((Model_s v) (25 : Int32).toNatClampNeg))).toNatClampNeg x0) (25 : Int32).toNatClampNeg) + 1)) (25 : Int32).toNatClampNeg), (Model_s_s v (upd (upd (Model_s v) ((111 + ((Model_s v) (25 : Int32).toNatClampNeg))).toNatClampNeg x0) (25 : Int32).toNatClampNeg (((upd (Model_s v) ((111 + ((Model_s v) (25 : Int32).toNatClampNeg))).toNatClampNeg x0) (25 : Int32).toNatClampNeg) + 1)))) else none) else none) else none) else none) else none) else some ((-4), v)) else none) else some ((-2), v))))
abbrev rmX8_feed : Room := { frames := 1, cells := 0, slots := 0, locals := 22 }
set_option maxRecDepth 100000 in
set_option maxHeartbeats 400000 in
theorem c_X8_feed (l : Launch) (E : mE) (a : ModelA) (v : ModelV) (x0 : Int32) (t : (Int32 × ModelV)) (hF : fn_X8_feed v x0 = some t) (sz : Nat) : Met l yX8_feed wsX8_feed rmX8_feed (mPm E [.ref (Modela_self a), .int x0] sz ((Model_c E a v)) (([] : va_W))) (mSm E (some (.int t.1)) ((Model_c E a t.2)) (va_A ((Model_c E a v)) sz)) 0 0 (va_A ((Model_c E a v)) sz) := by
  refine mOfM (cc := cX8_feed) (maxL := 2) (ret := (some .int)) (by decide) rfl (Nat.le_of_ble_eq_true rfl) ?_
  intro p e_ s m args below meth c Q A hQ CC hr hlocks hin hA hP hD hKN hGl hR0 hRA ls hl
  have hS : va_S A s.heap s.heap [] := va_S.rf
  have hK := hKN.1
  have hx := CC.1
  have hb := CC.2.1
  have hml := CC.2.2.1
  have hown : s.vm.findClass RX8 = some m.cls := CC.2.2.2.1
  have hts := CC.2.2.2.2
  have hl : lv_has ls 2 [(0, .ref (Modela_self a)), (1, .int x0)] := hl
  have k0 := hts (.fieldLink RX8 9 "OneDidAllModel" "s" "[I") (by decide +kernel)
  have k1 := (show ∀ w ∈ u_ws RX8 TX8 20, w ∈ wsX8_feed by decide +kernel)
  have hP : va_P E.1 vwCl (Model_c E a v) s.heap := hP
  obtain ⟨H, hH⟩ : ∃ H, H = s.heap := ⟨_, rfl⟩
  obtain ⟨locs, hlc⟩ : ∃ z : List Loc, z = [] := ⟨_, rfl⟩
  rw [← hH] at hP
  rw [← hlc] at hS
  have hS : va_S A s.heap H locs := by rw [hH]; exact hS
  rw [← hH, ← hlc]
  unfold fn_X8_feed at hF
  refine lv_iload_n hx hb dX8_feed_0 rfl (lv_at hl 1 rfl) ?_
  refine lv_iconst (v := 0) hx hb dX8_feed_1 (by decide) ?_
  refine lv_bipush (v := 127) hx hb dX8_feed_2 (by decide) ?_
  obtain ⟨t1, ht1, hF⟩ := m_bnd hF
  refine mSP (n := 3) (rest := []) (As := [.int x0, .int 0, .int 127]) CC hKN hGl hS (c_X8_in l E x0 0 127 t1 ht1) gX8_feed_X8_in rfl ⟨rfl, rfl⟩ (by decide +kernel) ⟨Nat.le_of_ble_eq_true rfl, Nat.le_of_ble_eq_true rfl⟩ m_nil rfl hl.1 rfl (Nat.le_of_ble_eq_true rfl) ⟨Nat.zero_le _, Nat.zero_le _⟩ dX8_feed_4 ?_
  refine W.eq (g2 := F0 m 7 ls [.int t1]) rfl ?_
  refine lv_if_ne (tgt := 13) hx hb dX8_feed_7 (by decide) (fun c2 => ?_) (fun c2 => ?_)
  · have hF := m_pos c2 hF
    refine lv_aload_n hx hb dX8_feed_13 rfl (lv_at hl 0 rfl) ?_
    refine va_get (D := E.1) (ci := 8) (v := .ref (Modela_s a)) (C := RX8) (T := TX8) (N := 20) hx hb hts k1 hown hK hP 0 rfl rfl 1 (by decide) k0 (fun _ h9 => h9) rfl dX8_feed_14 ?_
    refine lv_bipush (v := 25) hx hb dX8_feed_17 (by decide) ?_
    obtain ⟨h3, hF⟩ := m_chk hF
    refine va_iald (f := (Model_s v)) hx hb hK hP 1 1 rfl rfl (mIn_ok h3) dX8_feed_19 ?_
    refine W.eq (g2 := F0 m 20 ls [.int ((Model_s v) (25 : Int32).toNatClampNeg)]) rfl ?_
    refine lv_bipush (v := 100) hx hb dX8_feed_20 (by decide) ?_
    refine lv_icmp_ne (tgt := 28) hx hb dX8_feed_22 (by decide) (fun c4 => ?_) (fun c4 => ?_)
    · have hF := m_pos c4 hF
      refine lv_aload_n hx hb dX8_feed_28 rfl (lv_at hl 0 rfl) ?_
      refine va_get (D := E.1) (ci := 8) (v := .ref (Modela_s a)) (C := RX8) (T := TX8) (N := 20) hx hb hts k1 hown hK hP 0 rfl rfl 1 (by decide) k0 (fun _ h9 => h9) rfl dX8_feed_29 ?_
      refine lv_bipush (v := 111) hx hb dX8_feed_32 (by decide) ?_
      refine lv_aload_n hx hb dX8_feed_34 rfl (lv_at hl 0 rfl) ?_
      refine va_get (D := E.1) (ci := 8) (v := .ref (Modela_s a)) (C := RX8) (T := TX8) (N := 20) hx hb hts k1 hown hK hP 0 rfl rfl 1 (by decide) k0 (fun _ h9 => h9) rfl dX8_feed_35 ?_
      refine lv_bipush (v := 25) hx hb dX8_feed_38 (by decide) ?_
      obtain ⟨h5, hF⟩ := m_chk hF
      refine va_iald (f := (Model_s v)) hx hb hK hP 1 1 rfl rfl (mIn_ok h5) dX8_feed_40 ?_
      refine W.eq (g2 := F0 m 41 ls [.int ((Model_s v) (25 : Int32).toNatClampNeg), .int 111, .ref (Modela_s a)]) rfl ?_
      refine lv_iadd hx hb dX8_feed_41 ?_
      refine lv_iload_n hx hb dX8_feed_42 rfl (lv_at hl 1 rfl) ?_
      obtain ⟨h6, hF⟩ := m_chk hF
      refine va_iast (f := (Model_s v)) hx hb hK hP hD hS 1 1 rfl rfl (mIn_ok h6) dX8_feed_43 (fun H locs hP hD hS => ?_)
      have hP : va_P E.1 vwCl (Model_c E a (Model_s_s v (upd (Model_s v) ((111 + ((Model_s v) (25 : Int32).toNatClampNeg))).toNatClampNeg x0))) H := hP
      have hD : va_D A (Model_c E a (Model_s_s v (upd (Model_s v) ((111 + ((Model_s v) (25 : Int32).toNatClampNeg))).toNatClampNeg x0))) := hD
      refine lv_aload_n hx hb dX8_feed_44 rfl (lv_at hl 0 rfl) ?_
      refine va_get (D := E.1) (ci := 8) (v := .ref (Modela_s a)) (C := RX8) (T := TX8) (N := 20) hx hb hts k1 hown hK hP 0 rfl rfl 1 (by decide) k0 (fun _ h9 => h9) rfl dX8_feed_45 ?_
      refine lv_bipush (v := 25) hx hb dX8_feed_48 (by decide) ?_
      refine lv_dup2_11 hx hb dX8_feed_50 rfl rfl ?_
      obtain ⟨h7, hF⟩ := m_chk hF
      refine va_iald (f := (upd (Model_s v) ((111 + ((Model_s v) (25 : Int32).toNatClampNeg))).toNatClampNeg x0)) hx hb hK hP 1 1 rfl rfl (mIn_ok h7) dX8_feed_51 ?_
      refine W.eq (g2 := F0 m 52 ls [.int ((upd (Model_s v) ((111 + ((Model_s v) (25 : Int32).toNatClampNeg))).toNatClampNeg x0) (25 : Int32).toNatClampNeg), .int 25, .ref (Modela_s a)]) rfl ?_
      refine lv_iconst (v := 1) hx hb dX8_feed_52 (by decide) ?_
      refine lv_iadd hx hb dX8_feed_53 ?_
      obtain ⟨h8, hF⟩ := m_chk hF
      refine va_iast (f := (upd (Model_s v) ((111 + ((Model_s v) (25 : Int32).toNatClampNeg))).toNatClampNeg x0)) hx hb hK hP hD hS 1 1 rfl rfl (mIn_ok h8) dX8_feed_54 (fun H locs hP hD hS => ?_)
      have hP : va_P E.1 vwCl (Model_c E a (Model_s_s v (upd (upd (Model_s v) ((111 + ((Model_s v) (25 : Int32).toNatClampNeg))).toNatClampNeg x0) (25 : Int32).toNatClampNeg (((upd (Model_s v) ((111 + ((Model_s v) (25 : Int32).toNatClampNeg))).toNatClampNeg x0) (25 : Int32).toNatClampNeg) + 1)))) H := hP
      have hD : va_D A (Model_c E a (Model_s_s v (upd (upd (Model_s v) ((111 + ((Model_s v) (25 : Int32).toNatClampNeg))).toNatClampNeg x0) (25 : Int32).toNatClampNeg (((upd (Model_s v) ((111 + ((Model_s v) (25 : Int32).toNatClampNeg))).toNatClampNeg x0) (25 : Int32).toNatClampNeg) + 1)))) := hD
      refine lv_aload_n hx hb dX8_feed_55 rfl (lv_at hl 0 rfl) ?_
      refine va_get (D := E.1) (ci := 8) (v := .ref (Modela_s a)) (C := RX8) (T := TX8) (N := 20) hx hb hts k1 hown hK hP 0 rfl rfl 1 (by decide) k0 (fun _ h9 => h9) rfl dX8_feed_56 ?_
      refine lv_bipush (v := 25) hx hb dX8_feed_59 (by decide) ?_
      obtain ⟨h9, hF⟩ := m_chk hF
      refine va_iald (f := (upd (upd (Model_s v) ((111 + ((Model_s v) (25 : Int32).toNatClampNeg))).toNatClampNeg x0) (25 : Int32).toNatClampNeg (((upd (Model_s v) ((111 + ((Model_s v) (25 : Int32).toNatClampNeg))).toNatClampNeg x0) (25 : Int32).toNatClampNeg) + 1))) hx hb hK hP 1 1 rfl rfl (mIn_ok h9) dX8_feed_61 ?_
      refine W.eq (g2 := F0 m 62 ls [.int ((upd (upd (Model_s v) ((111 + ((Model_s v) (25 : Int32).toNatClampNeg))).toNatClampNeg x0) (25 : Int32).toNatClampNeg (((upd (Model_s v) ((111 + ((Model_s v) (25 : Int32).toNatClampNeg))).toNatClampNeg x0) (25 : Int32).toNatClampNeg) + 1)) (25 : Int32).toNatClampNeg)]) rfl ?_
      have hF := Option.some.inj hF
      subst hF
      rw [hQ]
      exact W.iret hx hb hr (fun t ht _ => ⟨⟨rfl, by rw [ht]; exact hP, hD⟩, hS.F ht⟩) hS.2.2 dX8_feed_62
    · have hF := m_neg (fun n9 => n9 c4) hF
      refine lv_bipush (v := (-4)) hx hb dX8_feed_25 (by decide) ?_
      have hF := Option.some.inj hF
      subst hF
      rw [hQ]
      exact W.iret hx hb hr (fun t ht _ => ⟨⟨rfl, by rw [ht]; exact hP, hD⟩, hS.F ht⟩) hS.2.2 dX8_feed_27
  · have hF := m_neg (fun n9 => n9 c2) hF
    refine lv_bipush (v := (-2)) hx hb dX8_feed_10 (by decide) ?_
    have hF := Option.some.inj hF
    subst hF
    rw [hQ]
    exact W.iret hx hb hr (fun t ht _ => ⟨⟨rfl, by rw [ht]; exact hP, hD⟩, hS.F ht⟩) hS.2.2 dX8_feed_12

def fn_X8_here (v : ModelV) : Option Int32 :=
  (if (Model_end v) ≤ (Model_spot v) then some (-1) else (if mIn (111 + (Model_spot v)) 926 = true then some ((Model_s v) ((111 + (Model_spot v))).toNatClampNeg) else none))
abbrev rmX8_here : Room := { frames := 0, cells := 0, slots := 0, locals := 0 }
set_option maxRecDepth 100000 in
set_option maxHeartbeats 400000 in
theorem c_X8_here (l : Launch) (E : mE) (a : ModelA) (v : ModelV) (t : Int32) (hF : fn_X8_here v = some t) : Met l yX8_here wsX8_here rmX8_here (mPp E [.ref (Modela_self a)] (Model_c E a v)) (mSp (some (.int t))) 0 0 (fun _ => False) := by
  refine mOfP (cc := cX8_here) (maxL := 1) (ret := (some .int)) (by decide) rfl (Nat.le_of_ble_eq_true rfl) ?_
  intro p e_ s m args below meth c Q hQ CC hr hlocks hP hKN hGl ls hl
  have hS : va_S (fun _ => False) s.heap s.heap [] := va_S.rf
  have hK := hKN.1
  have hx := CC.1
  have hb := CC.2.1
  have hml := CC.2.2.1
  have hown : s.vm.findClass RX8 = some m.cls := CC.2.2.2.1
  have hts := CC.2.2.2.2
  have hl : lv_has ls 1 [(0, .ref (Modela_self a))] := hl
  have k0 := hts (.fieldLink RX8 42 "OneDidAllModel" "spot" "I") (by decide +kernel)
  have k1 := (show ∀ w ∈ u_ws RX8 TX8 20, w ∈ wsX8_here by decide +kernel)
  have k2 := hts (.fieldLink RX8 45 "OneDidAllModel" "end" "I") (by decide +kernel)
  have k3 := hts (.fieldLink RX8 9 "OneDidAllModel" "s" "[I") (by decide +kernel)
  unfold fn_X8_here at hF
  refine lv_aload_n hx hb dX8_here_0 rfl (lv_at hl 0 rfl) ?_
  refine va_get (D := E.1) (ci := 8) (v := .int (Model_spot v)) (C := RX8) (T := TX8) (N := 20) hx hb hts k1 hown hK hP 0 rfl rfl 6 (by decide) k0 (fun _ h9 => h9) rfl dX8_here_1 ?_
  refine lv_aload_n hx hb dX8_here_4 rfl (lv_at hl 0 rfl) ?_
  refine va_get (D := E.1) (ci := 8) (v := .int (Model_end v)) (C := RX8) (T := TX8) (N := 20) hx hb hts k1 hown hK hP 0 rfl rfl 7 (by decide) k2 (fun _ h9 => h9) rfl dX8_here_5 ?_
  refine lv_icmp_ge (tgt := 26) hx hb dX8_here_8 (by decide) (fun c1 => ?_) (fun c1 => ?_)
  · have hF := m_pos c1 hF
    refine lv_iconst (v := (-1)) hx hb dX8_here_26 (by decide) ?_
    have hF := Option.some.inj hF
    subst hF
    rw [hQ]
    exact W.iret hx hb hr (fun t ht _ => ⟨rfl, ht⟩) (fun _ h => by cases h) dX8_here_27
  · have hF := m_neg c1 hF
    refine lv_aload_n hx hb dX8_here_11 rfl (lv_at hl 0 rfl) ?_
    refine va_get (D := E.1) (ci := 8) (v := .ref (Modela_s a)) (C := RX8) (T := TX8) (N := 20) hx hb hts k1 hown hK hP 0 rfl rfl 1 (by decide) k3 (fun _ h9 => h9) rfl dX8_here_12 ?_
    refine lv_bipush (v := 111) hx hb dX8_here_15 (by decide) ?_
    refine lv_aload_n hx hb dX8_here_17 rfl (lv_at hl 0 rfl) ?_
    refine va_get (D := E.1) (ci := 8) (v := .int (Model_spot v)) (C := RX8) (T := TX8) (N := 20) hx hb hts k1 hown hK hP 0 rfl rfl 6 (by decide) k0 (fun _ h9 => h9) rfl dX8_here_18 ?_
    refine lv_iadd hx hb dX8_here_21 ?_
    obtain ⟨h2, hF⟩ := m_chk hF
    refine va_iald (f := (Model_s v)) hx hb hK hP 1 1 rfl rfl (mIn_ok h2) dX8_here_22 ?_
    refine W.eq (g2 := F0 m 23 ls [.int ((Model_s v) ((111 + (Model_spot v))).toNatClampNeg)]) rfl ?_
    refine lv_goto (tgt := 27) hx hb dX8_here_23 (by decide) ?_
    have hF := Option.some.inj hF
    subst hF
    rw [hQ]
    exact W.iret hx hb hr (fun t ht _ => ⟨rfl, ht⟩) (fun _ h => by cases h) dX8_here_27

def fn_X8_must (v : ModelV) (x0 : Int32) : Option ModelV :=
  jp (fun (z0_21 : Int32) => (if mBit z0_21 = true then jp (fun (z0_41 : Int32) => some (Model_isWrong_s (Model_spot_s v ((Model_spot v) + z0_41)) z0_21)) (fun j41 => (if z0_21 = 0 then j41 1 else j41 0)) else none)) (fun j21 => jp (fun (_ : Unit) => j21 1) (fun j16 => (if ¬ (Model_isWrong v) = 0 then j16 () else (Option.bind (fn_X8_here v) (fun t4 => (if t4 = x0 then j21 0 else j16 ()))))))
abbrev rmX8_must : Room := { frames := 1, cells := 0, slots := 0, locals := 20 }
set_option maxRecDepth 100000 in
set_option maxHeartbeats 400000 in
theorem c_X8_must (l : Launch) (E : mE) (a : ModelA) (v : ModelV) (x0 : Int32) (t : ModelV) (hF : fn_X8_must v x0 = some t) (sz : Nat) : Met l yX8_must wsX8_must rmX8_must (mPm E [.ref (Modela_self a), .int x0] sz ((Model_c E a v)) (([] : va_W))) (mSm E (none) ((Model_c E a t)) (va_A ((Model_c E a v)) sz)) 0 0 (va_A ((Model_c E a v)) sz) := by
  refine mOfM (cc := cX8_must) (maxL := 2) (ret := none) (by decide) rfl (Nat.le_of_ble_eq_true rfl) ?_
  intro p e_ s m args below meth c Q A hQ CC hr hlocks hin hA hP hD hKN hGl hR0 hRA ls hl
  have hS : va_S A s.heap s.heap [] := va_S.rf
  have hK := hKN.1
  have hx := CC.1
  have hb := CC.2.1
  have hml := CC.2.2.1
  have hown : s.vm.findClass RX8 = some m.cls := CC.2.2.2.1
  have hts := CC.2.2.2.2
  have hl : lv_has ls 2 [(0, .ref (Modela_self a)), (1, .int x0)] := hl
  have k0 := hts (.fieldLink RX8 48 "OneDidAllModel" "isWrong" "Z") (by decide +kernel)
  have k1 := (show ∀ w ∈ u_ws RX8 TX8 20, w ∈ wsX8_must by decide +kernel)
  have k2 := hts (.fieldLink RX8 42 "OneDidAllModel" "spot" "I") (by decide +kernel)
  have hP : va_P E.1 vwCl (Model_c E a v) s.heap := hP
  obtain ⟨H, hH⟩ : ∃ H, H = s.heap := ⟨_, rfl⟩
  obtain ⟨locs, hlc⟩ : ∃ z : List Loc, z = [] := ⟨_, rfl⟩
  rw [← hH] at hP
  rw [← hlc] at hS
  have hS : va_S A s.heap H locs := by rw [hH]; exact hS
  rw [← hH, ← hlc]
  unfold fn_X8_must at hF
  refine lv_aload_n hx hb dX8_must_0 rfl (lv_at hl 0 rfl) ?_
  refine lv_aload_n hx hb dX8_must_1 rfl (lv_at hl 0 rfl) ?_
  refine va_get (D := E.1) (ci := 8) (v := .int (Model_isWrong v)) (C := RX8) (T := TX8) (N := 20) hx hb hts k1 hown hK hP 0 rfl rfl 8 (by decide) k0 (fun _ h9 => h9) rfl dX8_must_2 ?_
  obtain ⟨j21, hjd21, hF⟩ := m_jp hF
  have hj21 : ∀ (z0_21 : Int32) (H : Heap) (locs : List Loc) (ls : Array Slot), j21 z0_21 = some t → va_P E.1 vwCl (Model_c E a v) H → va_D A (Model_c E a v) → va_S A s.heap H locs → lv_has ls 2 [(0, .ref (Modela_self a))] → W p l e_ rmX8_must s m args below meth c H locs 0 0 Q (F0 m 21 ls [.int z0_21, .ref (Modela_self a)]) := by
    intro z0_21 H locs ls hF hP hD hS hl
    rw [hjd21] at hF
    obtain ⟨h1, hF⟩ := m_chk hF
    refine va_put (D := E.1) (ci := 8) (v := .int z0_21) (ty := .boolean) (C := RX8) (T := TX8) (N := 20) hx hb hts k1 tyX8 tyX8_ok nmX8 hown hK hP hD hS 0 rfl rfl 8 (by decide) k0 (fun _ h9 => h9) rfl (by decide +kernel) (mBit_nar h1) (mBit_fit h1) (Nat.le_of_ble_eq_true rfl) dX8_must_21 (fun H locs hP hD hS => ?_)
    have hP : va_P E.1 vwCl (Model_c E a (Model_isWrong_s v z0_21)) H := hP
    have hD : va_D A (Model_c E a (Model_isWrong_s v z0_21)) := hD
    refine lv_aload_n hx hb dX8_must_24 rfl (lv_at hl 0 rfl) ?_
    refine lv_dup hx hb dX8_must_25 rfl ?_
    refine va_get (D := E.1) (ci := 8) (v := .int (Model_spot v)) (C := RX8) (T := TX8) (N := 20) hx hb hts k1 hown hK hP 0 rfl rfl 6 (by decide) k2 (fun _ h9 => h9) rfl dX8_must_26 ?_
    refine lv_aload_n hx hb dX8_must_29 rfl (lv_at hl 0 rfl) ?_
    refine va_get (D := E.1) (ci := 8) (v := .int z0_21) (C := RX8) (T := TX8) (N := 20) hx hb hts k1 hown hK hP 0 rfl rfl 8 (by decide) k0 (fun _ h9 => h9) rfl dX8_must_30 ?_
    obtain ⟨j41, hjd41, hF⟩ := m_jp hF
    have hj41 : ∀ (z0_41 : Int32) (H : Heap) (locs : List Loc) (ls : Array Slot), j41 z0_41 = some t → va_P E.1 vwCl (Model_c E a (Model_isWrong_s v z0_21)) H → va_D A (Model_c E a (Model_isWrong_s v z0_21)) → va_S A s.heap H locs → lv_has ls 2 [] → W p l e_ rmX8_must s m args below meth c H locs 0 0 Q (F0 m 41 ls [.int z0_41, .int (Model_spot v), .ref (Modela_self a)]) := by
      intro z0_41 H locs ls hF hP hD hS hl
      rw [hjd41] at hF
      refine lv_iadd hx hb dX8_must_41 ?_
      refine va_put (D := E.1) (ci := 8) (v := .int ((Model_spot v) + z0_41)) (ty := .int) (C := RX8) (T := TX8) (N := 20) hx hb hts k1 tyX8 tyX8_ok nmX8 hown hK hP hD hS 0 rfl rfl 6 (by decide) k2 (fun _ h9 => h9) rfl (by decide +kernel) rfl rfl (Nat.le_of_ble_eq_true rfl) dX8_must_42 (fun H locs hP hD hS => ?_)
      have hP : va_P E.1 vwCl (Model_c E a (Model_isWrong_s (Model_spot_s v ((Model_spot v) + z0_41)) z0_21)) H := hP
      have hD : va_D A (Model_c E a (Model_isWrong_s (Model_spot_s v ((Model_spot v) + z0_41)) z0_21)) := hD
      have hF := Option.some.inj hF
      subst hF
      rw [hQ]
      exact W.vret hx hb hr (fun t ht _ => ⟨⟨rfl, by rw [ht]; exact hP, hD⟩, hS.F ht⟩) hS.2.2 dX8_must_45
    clear hjd41
    refine lv_if_eq (tgt := 40) hx hb dX8_must_33 (by decide) (fun c2 => ?_) (fun c2 => ?_)
    · have hF := m_pos c2 hF
      refine lv_iconst (v := 1) hx hb dX8_must_40 (by decide) ?_
      exact hj41 1 H locs ls hF hP hD hS (lv_sub hl [] rfl)
    · have hF := m_neg c2 hF
      refine lv_iconst (v := 0) hx hb dX8_must_36 (by decide) ?_
      refine lv_goto (tgt := 41) hx hb dX8_must_37 (by decide) ?_
      exact hj41 0 H locs ls hF hP hD hS (lv_sub hl [] rfl)
  clear hjd21
  obtain ⟨j16, hjd16, hF⟩ := m_jp hF
  have hj16 : ∀ (H : Heap) (locs : List Loc) (ls : Array Slot), j16 () = some t → va_P E.1 vwCl (Model_c E a v) H → va_D A (Model_c E a v) → va_S A s.heap H locs → lv_has ls 2 [(0, .ref (Modela_self a))] → W p l e_ rmX8_must s m args below meth c H locs 0 0 Q (F0 m 16 ls [.ref (Modela_self a)]) := by
    intro H locs ls hF hP hD hS hl
    rw [hjd16] at hF
    refine lv_iconst (v := 1) hx hb dX8_must_16 (by decide) ?_
    refine lv_goto (tgt := 21) hx hb dX8_must_17 (by decide) ?_
    exact hj21 1 H locs ls hF hP hD hS (lv_sub hl [0] rfl)
  clear hjd16
  refine lv_if_ne (tgt := 16) hx hb dX8_must_5 (by decide) (fun c3 => ?_) (fun c3 => ?_)
  · have hF := m_pos c3 hF
    exact hj16 H locs ls hF hP hD hS (lv_sub hl [0] rfl)
  · have hF := m_neg (fun n9 => n9 c3) hF
    refine lv_aload_n hx hb dX8_must_8 rfl (lv_at hl 0 rfl) ?_
    obtain ⟨t4, ht4, hF⟩ := m_bnd hF
    refine mVP (ci := 8) (n := 0) (rest := [.ref (Modela_self a)]) (As := []) CC hKN hGl hS (c_X8_here l E a v t4 ht4) gX8_must_X8_here rfl ⟨rfl, rfl⟩ (by decide +kernel) ⟨Nat.le_of_ble_eq_true rfl, Nat.le_of_ble_eq_true rfl⟩ hP rfl rfl rfl rfl hl.1 rfl (Nat.le_of_ble_eq_true rfl) ⟨Nat.zero_le _, Nat.zero_le _⟩ dX8_must_9 ?_
    refine W.eq (g2 := F0 m 12 ls [.int t4, .ref (Modela_self a)]) rfl ?_
    refine lv_iload_n hx hb dX8_must_12 rfl (lv_at hl 1 rfl) ?_
    refine lv_icmp_eq (tgt := 20) hx hb dX8_must_13 (by decide) (fun c5 => ?_) (fun c5 => ?_)
    · have hF := m_pos c5 hF
      refine lv_iconst (v := 0) hx hb dX8_must_20 (by decide) ?_
      exact hj21 0 H locs ls hF hP hD hS (lv_sub hl [0] rfl)
    · have hF := m_neg c5 hF
      exact hj16 H locs ls hF hP hD hS (lv_sub hl [0] rfl)

def st_X8_figures_34  (rec34 : Int32 → Int32 → ModelV → Option (Int32 × ModelV)) (y1_34 : Int32) (y2_34 : Int32) (wy_34 : ModelV) : Option (Int32 × ModelV) :=
  (if 2 ≤ y2_34 then some (y1_34, wy_34) else (if ¬ (Model_isWrong wy_34) = 0 then some (y1_34, wy_34) else (Option.bind (fn_X8_here wy_34) (fun t4 => (Option.bind (fn_X8_in t4 48 57) (fun t5 => (if t5 = 0 then some (y1_34, wy_34) else jp (fun (_ : Unit) => (Option.bind (fn_X8_here wy_34) (fun t7 => rec34 (((10 * y1_34) + t7) - 48) (y2_34 + 1) (Model_spot_s wy_34 ((Model_spot wy_34) + 1))))) (fun j68 => (if y2_34 = 0 then j68 () else (if y1_34 ≤ 0 then some (y1_34, wy_34) else j68 ()))))))))))
def lp_X8_figures_34  : Nat → Int32 → Int32 → ModelV → Option (Int32 × ModelV)
  | 0 => fun _ _ _ => none
  | n + 1 => st_X8_figures_34  (lp_X8_figures_34  n)
def fn_X8_figures (v : ModelV) : Option (Int32 × ModelV) :=
  jp (fun (z0_27 : Int32) => (if mBit z0_27 = true then lp_X8_figures_34  m_N 0 0 (Model_isWrong_s v z0_27) else none)) (fun j27 => jp (fun (_ : Unit) => j27 1) (fun j22 => (if ¬ (Model_isWrong v) = 0 then j22 () else (Option.bind (fn_X8_here v) (fun t11 => (Option.bind (fn_X8_in t11 48 57) (fun t12 => (if ¬ t12 = 0 then j27 0 else j22 ()))))))))
abbrev rmX8_figures : Room := { frames := 1, cells := 0, slots := 0, locals := 22 }
set_option maxRecDepth 100000 in
set_option maxHeartbeats 400000 in
theorem c_X8_figures (l : Launch) (E : mE) (a : ModelA) (v : ModelV) (t : (Int32 × ModelV)) (hF : fn_X8_figures v = some t) (sz : Nat) : Met l yX8_figures wsX8_figures rmX8_figures (mPm E [.ref (Modela_self a)] sz ((Model_c E a v)) (([] : va_W))) (mSm E (some (.int t.1)) ((Model_c E a t.2)) (va_A ((Model_c E a v)) sz)) 0 0 (va_A ((Model_c E a v)) sz) := by
  refine mOfM (cc := cX8_figures) (maxL := 3) (ret := (some .int)) (by decide) rfl (Nat.le_of_ble_eq_true rfl) ?_
  intro p e_ s m args below meth c Q A hQ CC hr hlocks hin hA hP hD hKN hGl hR0 hRA ls hl
  have hS : va_S A s.heap s.heap [] := va_S.rf
  have hK := hKN.1
  have hx := CC.1
  have hb := CC.2.1
  have hml := CC.2.2.1
  have hown : s.vm.findClass RX8 = some m.cls := CC.2.2.2.1
  have hts := CC.2.2.2.2
  have hl : lv_has ls 3 [(0, .ref (Modela_self a))] := hl
  have k0 := hts (.fieldLink RX8 48 "OneDidAllModel" "isWrong" "Z") (by decide +kernel)
  have k1 := (show ∀ w ∈ u_ws RX8 TX8 20, w ∈ wsX8_figures by decide +kernel)
  have k2 := hts (.fieldLink RX8 42 "OneDidAllModel" "spot" "I") (by decide +kernel)
  have hP : va_P E.1 vwCl (Model_c E a v) s.heap := hP
  obtain ⟨H, hH⟩ : ∃ H, H = s.heap := ⟨_, rfl⟩
  obtain ⟨locs, hlc⟩ : ∃ z : List Loc, z = [] := ⟨_, rfl⟩
  rw [← hH] at hP
  rw [← hlc] at hS
  have hS : va_S A s.heap H locs := by rw [hH]; exact hS
  rw [← hH, ← hlc]
  unfold fn_X8_figures at hF
  refine lv_aload_n hx hb dX8_figures_0 rfl (lv_at hl 0 rfl) ?_
  refine lv_aload_n hx hb dX8_figures_1 rfl (lv_at hl 0 rfl) ?_
  refine va_get (D := E.1) (ci := 8) (v := .int (Model_isWrong v)) (C := RX8) (T := TX8) (N := 20) hx hb hts k1 hown hK hP 0 rfl rfl 8 (by decide) k0 (fun _ h9 => h9) rfl dX8_figures_2 ?_
  obtain ⟨j27, hjd27, hF⟩ := m_jp hF
  have hj27 : ∀ (z0_27 : Int32) (H : Heap) (locs : List Loc) (ls : Array Slot), j27 z0_27 = some t → va_P E.1 vwCl (Model_c E a v) H → va_D A (Model_c E a v) → va_S A s.heap H locs → lv_has ls 3 [(0, .ref (Modela_self a))] → W p l e_ rmX8_figures s m args below meth c H locs 0 0 Q (F0 m 27 ls [.int z0_27, .ref (Modela_self a)]) := by
    intro z0_27 H locs ls hF hP hD hS hl
    rw [hjd27] at hF
    obtain ⟨h1, hF⟩ := m_chk hF
    refine va_put (D := E.1) (ci := 8) (v := .int z0_27) (ty := .boolean) (C := RX8) (T := TX8) (N := 20) hx hb hts k1 tyX8 tyX8_ok nmX8 hown hK hP hD hS 0 rfl rfl 8 (by decide) k0 (fun _ h9 => h9) rfl (by decide +kernel) (mBit_nar h1) (mBit_fit h1) (Nat.le_of_ble_eq_true rfl) dX8_figures_27 (fun H locs hP hD hS => ?_)
    have hP : va_P E.1 vwCl (Model_c E a (Model_isWrong_s v z0_27)) H := hP
    have hD : va_D A (Model_c E a (Model_isWrong_s v z0_27)) := hD
    refine lv_iconst (v := 0) hx hb dX8_figures_30 (by decide) ?_
    refine lv_istore_n (lv' := [(1, .int 0), (0, .ref (Modela_self a))]) hx hb dX8_figures_31 rfl hl (by decide) rfl (fun ls hl => ?_)
    refine lv_iconst (v := 0) hx hb dX8_figures_32 (by decide) ?_
    refine lv_istore_n (lv' := [(2, .int 0), (1, .int 0), (0, .ref (Modela_self a))]) hx hb dX8_figures_33 rfl hl (by decide) rfl (fun ls hl => ?_)
    have hL34 : ∀ (n : Nat) (y1_34 : Int32) (y2_34 : Int32) (wy_34 : ModelV) (H : Heap) (locs : List Loc) (ls : Array Slot), lp_X8_figures_34  n y1_34 y2_34 wy_34 = some t → va_P E.1 vwCl (Model_c E a wy_34) H → va_D A (Model_c E a wy_34) → va_S A s.heap H locs → lv_has ls 3 [(0, .ref (Modela_self a)), (1, .int y1_34), (2, .int y2_34)] → W p l e_ rmX8_figures s m args below meth c H locs 0 0 Q (F0 m 34 ls []) := by
      intro n
      induction n with
      | zero =>
        intro y1_34 y2_34 wy_34 H locs ls hF
        exact nomatch (show (none : Option (Int32 × ModelV)) = some t from hF)
      | succ n ih34 =>
        intro y1_34 y2_34 wy_34 H locs ls hF hP hD hS hl
        have hF : st_X8_figures_34  (lp_X8_figures_34  n) y1_34 y2_34 wy_34 = some t := hF
        unfold st_X8_figures_34 at hF
        refine lv_iload_n hx hb dX8_figures_34 rfl (lv_at hl 2 rfl) ?_
        refine lv_iconst (v := 2) hx hb dX8_figures_35 (by decide) ?_
        refine lv_icmp_ge (tgt := 97) hx hb dX8_figures_36 (by decide) (fun c2 => ?_) (fun c2 => ?_)
        · have hF := m_pos c2 hF
          refine lv_iload_n hx hb dX8_figures_97 rfl (lv_at hl 1 rfl) ?_
          have hF := Option.some.inj hF
          subst hF
          rw [hQ]
          exact W.iret hx hb hr (fun t ht _ => ⟨⟨rfl, by rw [ht]; exact hP, hD⟩, hS.F ht⟩) hS.2.2 dX8_figures_98
        · have hF := m_neg c2 hF
          refine lv_aload_n hx hb dX8_figures_39 rfl (lv_at hl 0 rfl) ?_
          refine va_get (D := E.1) (ci := 8) (v := .int (Model_isWrong wy_34)) (C := RX8) (T := TX8) (N := 20) hx hb hts k1 hown hK hP 0 rfl rfl 8 (by decide) k0 (fun _ h9 => h9) rfl dX8_figures_40 ?_
          refine lv_if_ne (tgt := 97) hx hb dX8_figures_43 (by decide) (fun c3 => ?_) (fun c3 => ?_)
          · have hF := m_pos c3 hF
            refine lv_iload_n hx hb dX8_figures_97 rfl (lv_at hl 1 rfl) ?_
            have hF := Option.some.inj hF
            subst hF
            rw [hQ]
            exact W.iret hx hb hr (fun t ht _ => ⟨⟨rfl, by rw [ht]; exact hP, hD⟩, hS.F ht⟩) hS.2.2 dX8_figures_98
          · have hF := m_neg (fun n9 => n9 c3) hF
            refine lv_aload_n hx hb dX8_figures_46 rfl (lv_at hl 0 rfl) ?_
            obtain ⟨t4, ht4, hF⟩ := m_bnd hF
            refine mVP (ci := 8) (n := 0) (rest := []) (As := []) CC hKN hGl hS (c_X8_here l E a wy_34 t4 ht4) gX8_figures_X8_here rfl ⟨rfl, rfl⟩ (by decide +kernel) ⟨Nat.le_of_ble_eq_true rfl, Nat.le_of_ble_eq_true rfl⟩ hP rfl rfl rfl rfl hl.1 rfl (Nat.le_of_ble_eq_true rfl) ⟨Nat.zero_le _, Nat.zero_le _⟩ dX8_figures_47 ?_
            refine W.eq (g2 := F0 m 50 ls [.int t4]) rfl ?_
            refine lv_bipush (v := 48) hx hb dX8_figures_50 (by decide) ?_
            refine lv_bipush (v := 57) hx hb dX8_figures_52 (by decide) ?_
            obtain ⟨t5, ht5, hF⟩ := m_bnd hF
            refine mSP (n := 3) (rest := []) (As := [.int t4, .int 48, .int 57]) CC hKN hGl hS (c_X8_in l E t4 48 57 t5 ht5) gX8_figures_X8_in rfl ⟨rfl, rfl⟩ (by decide +kernel) ⟨Nat.le_of_ble_eq_true rfl, Nat.le_of_ble_eq_true rfl⟩ m_nil rfl hl.1 rfl (Nat.le_of_ble_eq_true rfl) ⟨Nat.zero_le _, Nat.zero_le _⟩ dX8_figures_54 ?_
            refine W.eq (g2 := F0 m 57 ls [.int t5]) rfl ?_
            refine lv_if_eq (tgt := 97) hx hb dX8_figures_57 (by decide) (fun c6 => ?_) (fun c6 => ?_)
            · have hF := m_pos c6 hF
              refine lv_iload_n hx hb dX8_figures_97 rfl (lv_at hl 1 rfl) ?_
              have hF := Option.some.inj hF
              subst hF
              rw [hQ]
              exact W.iret hx hb hr (fun t ht _ => ⟨⟨rfl, by rw [ht]; exact hP, hD⟩, hS.F ht⟩) hS.2.2 dX8_figures_98
            · have hF := m_neg c6 hF
              refine lv_iload_n hx hb dX8_figures_60 rfl (lv_at hl 2 rfl) ?_
              obtain ⟨j68, hjd68, hF⟩ := m_jp hF
              have hj68 : ∀ (H : Heap) (locs : List Loc) (ls : Array Slot), j68 () = some t → va_P E.1 vwCl (Model_c E a wy_34) H → va_D A (Model_c E a wy_34) → va_S A s.heap H locs → lv_has ls 3 [(0, .ref (Modela_self a)), (1, .int y1_34), (2, .int y2_34)] → W p l e_ rmX8_figures s m args below meth c H locs 0 0 Q (F0 m 68 ls []) := by
                intro H locs ls hF hP hD hS hl
                rw [hjd68] at hF
                refine lv_bipush (v := 10) hx hb dX8_figures_68 (by decide) ?_
                refine lv_iload_n hx hb dX8_figures_70 rfl (lv_at hl 1 rfl) ?_
                refine lv_imul hx hb dX8_figures_71 ?_
                refine lv_aload_n hx hb dX8_figures_72 rfl (lv_at hl 0 rfl) ?_
                obtain ⟨t7, ht7, hF⟩ := m_bnd hF
                refine mVP (ci := 8) (n := 0) (rest := [.int (10 * y1_34)]) (As := []) CC hKN hGl hS (c_X8_here l E a wy_34 t7 ht7) gX8_figures_X8_here rfl ⟨rfl, rfl⟩ (by decide +kernel) ⟨Nat.le_of_ble_eq_true rfl, Nat.le_of_ble_eq_true rfl⟩ hP rfl rfl rfl rfl hl.1 rfl (Nat.le_of_ble_eq_true rfl) ⟨Nat.zero_le _, Nat.zero_le _⟩ dX8_figures_73 ?_
                refine W.eq (g2 := F0 m 76 ls [.int t7, .int (10 * y1_34)]) rfl ?_
                refine lv_iadd hx hb dX8_figures_76 ?_
                refine lv_bipush (v := 48) hx hb dX8_figures_77 (by decide) ?_
                refine lv_isub hx hb dX8_figures_79 ?_
                refine lv_istore_n (lv' := [(1, .int (((10 * y1_34) + t7) - 48)), (0, .ref (Modela_self a)), (2, .int y2_34)]) hx hb dX8_figures_80 rfl hl (by decide) rfl (fun ls hl => ?_)
                refine lv_aload_n hx hb dX8_figures_81 rfl (lv_at hl 1 rfl) ?_
                refine lv_dup hx hb dX8_figures_82 rfl ?_
                refine va_get (D := E.1) (ci := 8) (v := .int (Model_spot wy_34)) (C := RX8) (T := TX8) (N := 20) hx hb hts k1 hown hK hP 0 rfl rfl 6 (by decide) k2 (fun _ h9 => h9) rfl dX8_figures_83 ?_
                refine lv_iconst (v := 1) hx hb dX8_figures_86 (by decide) ?_
                refine lv_iadd hx hb dX8_figures_87 ?_
                refine va_put (D := E.1) (ci := 8) (v := .int ((Model_spot wy_34) + 1)) (ty := .int) (C := RX8) (T := TX8) (N := 20) hx hb hts k1 tyX8 tyX8_ok nmX8 hown hK hP hD hS 0 rfl rfl 6 (by decide) k2 (fun _ h9 => h9) rfl (by decide +kernel) rfl rfl (Nat.le_of_ble_eq_true rfl) dX8_figures_88 (fun H locs hP hD hS => ?_)
                have hP : va_P E.1 vwCl (Model_c E a (Model_spot_s wy_34 ((Model_spot wy_34) + 1))) H := hP
                have hD : va_D A (Model_c E a (Model_spot_s wy_34 ((Model_spot wy_34) + 1))) := hD
                refine lv_iinc (v := (y2_34 + 1)) (lv' := [(2, .int (y2_34 + 1)), (1, .int (((10 * y1_34) + t7) - 48)), (0, .ref (Modela_self a))]) hx hb dX8_figures_91 hl (k := 2) rfl rfl (by decide) rfl (fun ls hl => ?_)
                refine lv_goto (tgt := 34) hx hb dX8_figures_94 (by decide) ?_
                exact ih34 (((10 * y1_34) + t7) - 48) (y2_34 + 1) (Model_spot_s wy_34 ((Model_spot wy_34) + 1)) H locs ls hF hP hD hS (lv_sub hl [2, 1, 0] rfl)
              clear hjd68
              refine lv_if_eq (tgt := 68) hx hb dX8_figures_61 (by decide) (fun c8 => ?_) (fun c8 => ?_)
              · have hF := m_pos c8 hF
                exact hj68 H locs ls hF hP hD hS (lv_sub hl [0, 1, 2] rfl)
              · have hF := m_neg c8 hF
                refine lv_iload_n hx hb dX8_figures_64 rfl (lv_at hl 1 rfl) ?_
                refine lv_if_le (tgt := 97) hx hb dX8_figures_65 (by decide) (fun c9 => ?_) (fun c9 => ?_)
                · have hF := m_pos c9 hF
                  refine lv_iload_n hx hb dX8_figures_97 rfl (lv_at hl 1 rfl) ?_
                  have hF := Option.some.inj hF
                  subst hF
                  rw [hQ]
                  exact W.iret hx hb hr (fun t ht _ => ⟨⟨rfl, by rw [ht]; exact hP, hD⟩, hS.F ht⟩) hS.2.2 dX8_figures_98
                · have hF := m_neg c9 hF
                  exact hj68 H locs ls hF hP hD hS (lv_sub hl [0, 1, 2] rfl)
    exact hL34 m_N 0 0 (Model_isWrong_s v z0_27) H locs ls hF hP hD hS (lv_sub hl [2, 1, 0] rfl)
  clear hjd27
  obtain ⟨j22, hjd22, hF⟩ := m_jp hF
  have hj22 : ∀ (H : Heap) (locs : List Loc) (ls : Array Slot), j22 () = some t → va_P E.1 vwCl (Model_c E a v) H → va_D A (Model_c E a v) → va_S A s.heap H locs → lv_has ls 3 [(0, .ref (Modela_self a))] → W p l e_ rmX8_figures s m args below meth c H locs 0 0 Q (F0 m 22 ls [.ref (Modela_self a)]) := by
    intro H locs ls hF hP hD hS hl
    rw [hjd22] at hF
    refine lv_iconst (v := 1) hx hb dX8_figures_22 (by decide) ?_
    refine lv_goto (tgt := 27) hx hb dX8_figures_23 (by decide) ?_
    exact hj27 1 H locs ls hF hP hD hS (lv_sub hl [0] rfl)
  clear hjd22
  refine lv_if_ne (tgt := 22) hx hb dX8_figures_5 (by decide) (fun c10 => ?_) (fun c10 => ?_)
  · have hF := m_pos c10 hF
    exact hj22 H locs ls hF hP hD hS (lv_sub hl [0] rfl)
  · have hF := m_neg (fun n9 => n9 c10) hF
    refine lv_aload_n hx hb dX8_figures_8 rfl (lv_at hl 0 rfl) ?_
    obtain ⟨t11, ht11, hF⟩ := m_bnd hF
    refine mVP (ci := 8) (n := 0) (rest := [.ref (Modela_self a)]) (As := []) CC hKN hGl hS (c_X8_here l E a v t11 ht11) gX8_figures_X8_here rfl ⟨rfl, rfl⟩ (by decide +kernel) ⟨Nat.le_of_ble_eq_true rfl, Nat.le_of_ble_eq_true rfl⟩ hP rfl rfl rfl rfl hl.1 rfl (Nat.le_of_ble_eq_true rfl) ⟨Nat.zero_le _, Nat.zero_le _⟩ dX8_figures_9 ?_
    refine W.eq (g2 := F0 m 12 ls [.int t11, .ref (Modela_self a)]) rfl ?_
    refine lv_bipush (v := 48) hx hb dX8_figures_12 (by decide) ?_
    refine lv_bipush (v := 57) hx hb dX8_figures_14 (by decide) ?_
    obtain ⟨t12, ht12, hF⟩ := m_bnd hF
    refine mSP (n := 3) (rest := [.ref (Modela_self a)]) (As := [.int t11, .int 48, .int 57]) CC hKN hGl hS (c_X8_in l E t11 48 57 t12 ht12) gX8_figures_X8_in rfl ⟨rfl, rfl⟩ (by decide +kernel) ⟨Nat.le_of_ble_eq_true rfl, Nat.le_of_ble_eq_true rfl⟩ m_nil rfl hl.1 rfl (Nat.le_of_ble_eq_true rfl) ⟨Nat.zero_le _, Nat.zero_le _⟩ dX8_figures_16 ?_
    refine W.eq (g2 := F0 m 19 ls [.int t12, .ref (Modela_self a)]) rfl ?_
    refine lv_if_ne (tgt := 26) hx hb dX8_figures_19 (by decide) (fun c13 => ?_) (fun c13 => ?_)
    · have hF := m_pos c13 hF
      refine lv_iconst (v := 0) hx hb dX8_figures_26 (by decide) ?_
      exact hj27 0 H locs ls hF hP hD hS (lv_sub hl [0] rfl)
    · have hF := m_neg (fun n9 => n9 c13) hF
      exact hj22 H locs ls hF hP hD hS (lv_sub hl [0] rfl)

def fn_X8_emits (v : ModelV) (x0 : Int32) : Option ModelV :=
  (if ¬ (Model_isWrong v) = 0 then some v else (if mIn (221 + (Model_act v)) 926 = true then (if mIn ((226 + (140 * (Model_act v))) + ((Model_s v) ((221 + (Model_act v))).toNatClampNeg)) 926 = true then (if mIn (221 + (Model_act v)) 926 = true then (if mIn (221 + (Model_act v)) 926 = true then some (Model_s_s v (upd (upd (Model_s v) (((226 + (140 * (Model_act v))) + ((Model_s v) ((221 + (Model_act v))).toNatClampNeg))).toNatClampNeg x0) ((221 + (Model_act v))).toNatClampNeg (((upd (Model_s v) (((226 + (140 * (Model_act v))) + ((Model_s v) ((221 + (Model_act v))).toNatClampNeg))).toNatClampNeg x0) ((221 + (Model_act v))).toNatClampNeg) + 1))) else none) else none) else none) else none))
abbrev rmX8_emits : Room := { frames := 0, cells := 0, slots := 0, locals := 0 }
set_option maxRecDepth 100000 in
set_option maxHeartbeats 400000 in
theorem c_X8_emits (l : Launch) (E : mE) (a : ModelA) (v : ModelV) (x0 : Int32) (t : ModelV) (hF : fn_X8_emits v x0 = some t) (sz : Nat) : Met l yX8_emits wsX8_emits rmX8_emits (mPm E [.ref (Modela_self a), .int x0] sz ((Model_c E a v)) (([] : va_W))) (mSm E (none) ((Model_c E a t)) (va_A ((Model_c E a v)) sz)) 0 0 (va_A ((Model_c E a v)) sz) := by
  refine mOfM (cc := cX8_emits) (maxL := 2) (ret := none) (by decide) rfl (Nat.le_of_ble_eq_true rfl) ?_
  intro p e_ s m args below meth c Q A hQ CC hr hlocks hin hA hP hD hKN hGl hR0 hRA ls hl
  have hS : va_S A s.heap s.heap [] := va_S.rf
  have hK := hKN.1
  have hx := CC.1
  have hb := CC.2.1
  have hml := CC.2.2.1
  have hown : s.vm.findClass RX8 = some m.cls := CC.2.2.2.1
  have hts := CC.2.2.2.2
  have hl : lv_has ls 2 [(0, .ref (Modela_self a)), (1, .int x0)] := hl
  have k0 := hts (.fieldLink RX8 48 "OneDidAllModel" "isWrong" "Z") (by decide +kernel)
  have k1 := (show ∀ w ∈ u_ws RX8 TX8 20, w ∈ wsX8_emits by decide +kernel)
  have k2 := hts (.fieldLink RX8 9 "OneDidAllModel" "s" "[I") (by decide +kernel)
  have k3 := hts (.fieldLink RX8 69 "OneDidAllModel" "act" "I") (by decide +kernel)
  have hP : va_P E.1 vwCl (Model_c E a v) s.heap := hP
  obtain ⟨H, hH⟩ : ∃ H, H = s.heap := ⟨_, rfl⟩
  obtain ⟨locs, hlc⟩ : ∃ z : List Loc, z = [] := ⟨_, rfl⟩
  rw [← hH] at hP
  rw [← hlc] at hS
  have hS : va_S A s.heap H locs := by rw [hH]; exact hS
  rw [← hH, ← hlc]
  unfold fn_X8_emits at hF
  refine lv_aload_n hx hb dX8_emits_0 rfl (lv_at hl 0 rfl) ?_
  refine va_get (D := E.1) (ci := 8) (v := .int (Model_isWrong v)) (C := RX8) (T := TX8) (N := 20) hx hb hts k1 hown hK hP 0 rfl rfl 8 (by decide) k0 (fun _ h9 => h9) rfl dX8_emits_1 ?_
  refine lv_if_ne (tgt := 56) hx hb dX8_emits_4 (by decide) (fun c1 => ?_) (fun c1 => ?_)
  · have hF := m_pos c1 hF
    have hF := Option.some.inj hF
    subst hF
    rw [hQ]
    exact W.vret hx hb hr (fun t ht _ => ⟨⟨rfl, by rw [ht]; exact hP, hD⟩, hS.F ht⟩) hS.2.2 dX8_emits_56
  · have hF := m_neg (fun n9 => n9 c1) hF
    refine lv_aload_n hx hb dX8_emits_7 rfl (lv_at hl 0 rfl) ?_
    refine va_get (D := E.1) (ci := 8) (v := .ref (Modela_s a)) (C := RX8) (T := TX8) (N := 20) hx hb hts k1 hown hK hP 0 rfl rfl 1 (by decide) k2 (fun _ h9 => h9) rfl dX8_emits_8 ?_
    refine lv_sipush (v := 226) hx hb dX8_emits_11 (by decide) ?_
    refine lv_sipush (v := 140) hx hb dX8_emits_14 (by decide) ?_
    refine lv_aload_n hx hb dX8_emits_17 rfl (lv_at hl 0 rfl) ?_
    refine va_get (D := E.1) (ci := 8) (v := .int (Model_act v)) (C := RX8) (T := TX8) (N := 20) hx hb hts k1 hown hK hP 0 rfl rfl 5 (by decide) k3 (fun _ h9 => h9) rfl dX8_emits_18 ?_
    refine lv_imul hx hb dX8_emits_21 ?_
    refine lv_iadd hx hb dX8_emits_22 ?_
    refine lv_aload_n hx hb dX8_emits_23 rfl (lv_at hl 0 rfl) ?_
    refine va_get (D := E.1) (ci := 8) (v := .ref (Modela_s a)) (C := RX8) (T := TX8) (N := 20) hx hb hts k1 hown hK hP 0 rfl rfl 1 (by decide) k2 (fun _ h9 => h9) rfl dX8_emits_24 ?_
    refine lv_sipush (v := 221) hx hb dX8_emits_27 (by decide) ?_
    refine lv_aload_n hx hb dX8_emits_30 rfl (lv_at hl 0 rfl) ?_
    refine va_get (D := E.1) (ci := 8) (v := .int (Model_act v)) (C := RX8) (T := TX8) (N := 20) hx hb hts k1 hown hK hP 0 rfl rfl 5 (by decide) k3 (fun _ h9 => h9) rfl dX8_emits_31 ?_
    refine lv_iadd hx hb dX8_emits_34 ?_
    obtain ⟨h2, hF⟩ := m_chk hF
    refine va_iald (f := (Model_s v)) hx hb hK hP 1 1 rfl rfl (mIn_ok h2) dX8_emits_35 ?_
    refine W.eq (g2 := F0 m 36 ls [.int ((Model_s v) ((221 + (Model_act v))).toNatClampNeg), .int (226 + (140 * (Model_act v))), .ref (Modela_s a)]) rfl ?_
    refine lv_iadd hx hb dX8_emits_36 ?_
    refine lv_iload_n hx hb dX8_emits_37 rfl (lv_at hl 1 rfl) ?_
    obtain ⟨h3, hF⟩ := m_chk hF
    refine va_iast (f := (Model_s v)) hx hb hK hP hD hS 1 1 rfl rfl (mIn_ok h3) dX8_emits_38 (fun H locs hP hD hS => ?_)
    have hP : va_P E.1 vwCl (Model_c E a (Model_s_s v (upd (Model_s v) (((226 + (140 * (Model_act v))) + ((Model_s v) ((221 + (Model_act v))).toNatClampNeg))).toNatClampNeg x0))) H := hP
    have hD : va_D A (Model_c E a (Model_s_s v (upd (Model_s v) (((226 + (140 * (Model_act v))) + ((Model_s v) ((221 + (Model_act v))).toNatClampNeg))).toNatClampNeg x0))) := hD
    refine lv_aload_n hx hb dX8_emits_39 rfl (lv_at hl 0 rfl) ?_
    refine va_get (D := E.1) (ci := 8) (v := .ref (Modela_s a)) (C := RX8) (T := TX8) (N := 20) hx hb hts k1 hown hK hP 0 rfl rfl 1 (by decide) k2 (fun _ h9 => h9) rfl dX8_emits_40 ?_
    refine lv_sipush (v := 221) hx hb dX8_emits_43 (by decide) ?_
    refine lv_aload_n hx hb dX8_emits_46 rfl (lv_at hl 0 rfl) ?_
    refine va_get (D := E.1) (ci := 8) (v := .int (Model_act v)) (C := RX8) (T := TX8) (N := 20) hx hb hts k1 hown hK hP 0 rfl rfl 5 (by decide) k3 (fun _ h9 => h9) rfl dX8_emits_47 ?_
    refine lv_iadd hx hb dX8_emits_50 ?_
    refine lv_dup2_11 hx hb dX8_emits_51 rfl rfl ?_
    obtain ⟨h4, hF⟩ := m_chk hF
    refine va_iald (f := (upd (Model_s v) (((226 + (140 * (Model_act v))) + ((Model_s v) ((221 + (Model_act v))).toNatClampNeg))).toNatClampNeg x0)) hx hb hK hP 1 1 rfl rfl (mIn_ok h4) dX8_emits_52 ?_
    refine W.eq (g2 := F0 m 53 ls [.int ((upd (Model_s v) (((226 + (140 * (Model_act v))) + ((Model_s v) ((221 + (Model_act v))).toNatClampNeg))).toNatClampNeg x0) ((221 + (Model_act v))).toNatClampNeg), .int (221 + (Model_act v)), .ref (Modela_s a)]) rfl ?_
    refine lv_iconst (v := 1) hx hb dX8_emits_53 (by decide) ?_
    refine lv_iadd hx hb dX8_emits_54 ?_
    obtain ⟨h5, hF⟩ := m_chk hF
    refine va_iast (f := (upd (Model_s v) (((226 + (140 * (Model_act v))) + ((Model_s v) ((221 + (Model_act v))).toNatClampNeg))).toNatClampNeg x0)) hx hb hK hP hD hS 1 1 rfl rfl (mIn_ok h5) dX8_emits_55 (fun H locs hP hD hS => ?_)
    have hP : va_P E.1 vwCl (Model_c E a (Model_s_s v (upd (upd (Model_s v) (((226 + (140 * (Model_act v))) + ((Model_s v) ((221 + (Model_act v))).toNatClampNeg))).toNatClampNeg x0) ((221 + (Model_act v))).toNatClampNeg (((upd (Model_s v) (((226 + (140 * (Model_act v))) + ((Model_s v) ((221 + (Model_act v))).toNatClampNeg))).toNatClampNeg x0) ((221 + (Model_act v))).toNatClampNeg) + 1)))) H := hP
    have hD : va_D A (Model_c E a (Model_s_s v (upd (upd (Model_s v) (((226 + (140 * (Model_act v))) + ((Model_s v) ((221 + (Model_act v))).toNatClampNeg))).toNatClampNeg x0) ((221 + (Model_act v))).toNatClampNeg (((upd (Model_s v) (((226 + (140 * (Model_act v))) + ((Model_s v) ((221 + (Model_act v))).toNatClampNeg))).toNatClampNeg x0) ((221 + (Model_act v))).toNatClampNeg) + 1)))) := hD
    have hF := Option.some.inj hF
    subst hF
    rw [hQ]
    exact W.vret hx hb hr (fun t ht _ => ⟨⟨rfl, by rw [ht]; exact hP, hD⟩, hS.F ht⟩) hS.2.2 dX8_emits_56

def fn_X8_tellsOf (v : ModelV) (x0 : Int32) (x1 : Int32) : Option Int32 :=
  (if mIn 26 926 = true then (if ¬ ((Model_s v) (26 : Int32).toNatClampNeg) = (-1) then (if mIn 26 926 = true then (if mIn (x0 + ((Model_s v) (26 : Int32).toNatClampNeg)) 926 = true then some ((Model_s v) ((x0 + ((Model_s v) (26 : Int32).toNatClampNeg))).toNatClampNeg) else none) else none) else some x1) else none)
abbrev rmX8_tellsOf : Room := { frames := 0, cells := 0, slots := 0, locals := 0 }
set_option maxRecDepth 100000 in
set_option maxHeartbeats 400000 in
theorem c_X8_tellsOf (l : Launch) (E : mE) (a : ModelA) (v : ModelV) (x0 : Int32) (x1 : Int32) (t : Int32) (hF : fn_X8_tellsOf v x0 x1 = some t) : Met l yX8_tellsOf wsX8_tellsOf rmX8_tellsOf (mPp E [.ref (Modela_self a), .int x0, .int x1] (Model_c E a v)) (mSp (some (.int t))) 0 0 (fun _ => False) := by
  refine mOfP (cc := cX8_tellsOf) (maxL := 3) (ret := (some .int)) (by decide) rfl (Nat.le_of_ble_eq_true rfl) ?_
  intro p e_ s m args below meth c Q hQ CC hr hlocks hP hKN hGl ls hl
  have hS : va_S (fun _ => False) s.heap s.heap [] := va_S.rf
  have hK := hKN.1
  have hx := CC.1
  have hb := CC.2.1
  have hml := CC.2.2.1
  have hown : s.vm.findClass RX8 = some m.cls := CC.2.2.2.1
  have hts := CC.2.2.2.2
  have hl : lv_has ls 3 [(0, .ref (Modela_self a)), (1, .int x0), (2, .int x1)] := hl
  have k0 := hts (.fieldLink RX8 9 "OneDidAllModel" "s" "[I") (by decide +kernel)
  have k1 := (show ∀ w ∈ u_ws RX8 TX8 20, w ∈ wsX8_tellsOf by decide +kernel)
  unfold fn_X8_tellsOf at hF
  refine lv_aload_n hx hb dX8_tellsOf_0 rfl (lv_at hl 0 rfl) ?_
  refine va_get (D := E.1) (ci := 8) (v := .ref (Modela_s a)) (C := RX8) (T := TX8) (N := 20) hx hb hts k1 hown hK hP 0 rfl rfl 1 (by decide) k0 (fun _ h9 => h9) rfl dX8_tellsOf_1 ?_
  refine lv_bipush (v := 26) hx hb dX8_tellsOf_4 (by decide) ?_
  obtain ⟨h1, hF⟩ := m_chk hF
  refine va_iald (f := (Model_s v)) hx hb hK hP 1 1 rfl rfl (mIn_ok h1) dX8_tellsOf_6 ?_
  refine W.eq (g2 := F0 m 7 ls [.int ((Model_s v) (26 : Int32).toNatClampNeg)]) rfl ?_
  refine lv_iconst (v := (-1)) hx hb dX8_tellsOf_7 (by decide) ?_
  refine lv_icmp_ne (tgt := 15) hx hb dX8_tellsOf_8 (by decide) (fun c2 => ?_) (fun c2 => ?_)
  · have hF := m_pos c2 hF
    refine lv_aload_n hx hb dX8_tellsOf_15 rfl (lv_at hl 0 rfl) ?_
    refine va_get (D := E.1) (ci := 8) (v := .ref (Modela_s a)) (C := RX8) (T := TX8) (N := 20) hx hb hts k1 hown hK hP 0 rfl rfl 1 (by decide) k0 (fun _ h9 => h9) rfl dX8_tellsOf_16 ?_
    refine lv_iload_n hx hb dX8_tellsOf_19 rfl (lv_at hl 1 rfl) ?_
    refine lv_aload_n hx hb dX8_tellsOf_20 rfl (lv_at hl 0 rfl) ?_
    refine va_get (D := E.1) (ci := 8) (v := .ref (Modela_s a)) (C := RX8) (T := TX8) (N := 20) hx hb hts k1 hown hK hP 0 rfl rfl 1 (by decide) k0 (fun _ h9 => h9) rfl dX8_tellsOf_21 ?_
    refine lv_bipush (v := 26) hx hb dX8_tellsOf_24 (by decide) ?_
    obtain ⟨h3, hF⟩ := m_chk hF
    refine va_iald (f := (Model_s v)) hx hb hK hP 1 1 rfl rfl (mIn_ok h3) dX8_tellsOf_26 ?_
    refine W.eq (g2 := F0 m 27 ls [.int ((Model_s v) (26 : Int32).toNatClampNeg), .int x0, .ref (Modela_s a)]) rfl ?_
    refine lv_iadd hx hb dX8_tellsOf_27 ?_
    obtain ⟨h4, hF⟩ := m_chk hF
    refine va_iald (f := (Model_s v)) hx hb hK hP 1 1 rfl rfl (mIn_ok h4) dX8_tellsOf_28 ?_
    refine W.eq (g2 := F0 m 29 ls [.int ((Model_s v) ((x0 + ((Model_s v) (26 : Int32).toNatClampNeg))).toNatClampNeg)]) rfl ?_
    have hF := Option.some.inj hF
    subst hF
    rw [hQ]
    exact W.iret hx hb hr (fun t ht _ => ⟨rfl, ht⟩) (fun _ h => by cases h) dX8_tellsOf_29
  · have hF := m_neg (fun n9 => n9 c2) hF
    refine lv_iload_n hx hb dX8_tellsOf_11 rfl (lv_at hl 2 rfl) ?_
    refine lv_goto (tgt := 29) hx hb dX8_tellsOf_12 (by decide) ?_
    have hF := Option.some.inj hF
    subst hF
    rw [hQ]
    exact W.iret hx hb hr (fun t ht _ => ⟨rfl, ht⟩) (fun _ h => by cases h) dX8_tellsOf_29

def fn_X8_goalNow (v : ModelV) : Option Int32 :=
  (Option.bind (fn_X8_tellsOf v 211 60) (fun t1 => (Option.bind (fn_X8_within t1 1 99) (fun t2 => some t2))))
abbrev rmX8_goalNow : Room := { frames := 1, cells := 0, slots := 0, locals := 22 }
set_option maxRecDepth 100000 in
set_option maxHeartbeats 400000 in
theorem c_X8_goalNow (l : Launch) (E : mE) (a : ModelA) (v : ModelV) (t : Int32) (hF : fn_X8_goalNow v = some t) : Met l yX8_goalNow wsX8_goalNow rmX8_goalNow (mPp E [.ref (Modela_self a)] (Model_c E a v)) (mSp (some (.int t))) 0 0 (fun _ => False) := by
  refine mOfP (cc := cX8_goalNow) (maxL := 1) (ret := (some .int)) (by decide) rfl (Nat.le_of_ble_eq_true rfl) ?_
  intro p e_ s m args below meth c Q hQ CC hr hlocks hP hKN hGl ls hl
  have hS : va_S (fun _ => False) s.heap s.heap [] := va_S.rf
  have hK := hKN.1
  have hx := CC.1
  have hb := CC.2.1
  have hml := CC.2.2.1
  have hown : s.vm.findClass RX8 = some m.cls := CC.2.2.2.1
  have hts := CC.2.2.2.2
  have hl : lv_has ls 1 [(0, .ref (Modela_self a))] := hl
  unfold fn_X8_goalNow at hF
  refine lv_aload_n hx hb dX8_goalNow_0 rfl (lv_at hl 0 rfl) ?_
  refine lv_sipush (v := 211) hx hb dX8_goalNow_1 (by decide) ?_
  refine lv_bipush (v := 60) hx hb dX8_goalNow_4 (by decide) ?_
  obtain ⟨t1, ht1, hF⟩ := m_bnd hF
  refine mVP (ci := 8) (n := 2) (rest := []) (As := [.int 211, .int 60]) CC hKN hGl hS (c_X8_tellsOf l E a v 211 60 t1 ht1) gX8_goalNow_X8_tellsOf rfl ⟨rfl, rfl⟩ (by decide +kernel) ⟨Nat.le_of_ble_eq_true rfl, Nat.le_of_ble_eq_true rfl⟩ hP rfl rfl rfl rfl hl.1 rfl (Nat.le_of_ble_eq_true rfl) ⟨Nat.zero_le _, Nat.zero_le _⟩ dX8_goalNow_6 ?_
  refine W.eq (g2 := F0 m 9 ls [.int t1]) rfl ?_
  refine lv_iconst (v := 1) hx hb dX8_goalNow_9 (by decide) ?_
  refine lv_bipush (v := 99) hx hb dX8_goalNow_10 (by decide) ?_
  obtain ⟨t2, ht2, hF⟩ := m_bnd hF
  refine mSP (n := 3) (rest := []) (As := [.int t1, .int 1, .int 99]) CC hKN hGl hS (c_X8_within l E t1 1 99 t2 ht2) gX8_goalNow_X8_within rfl ⟨rfl, rfl⟩ (by decide +kernel) ⟨Nat.le_of_ble_eq_true rfl, Nat.le_of_ble_eq_true rfl⟩ m_nil rfl hl.1 rfl (Nat.le_of_ble_eq_true rfl) ⟨Nat.zero_le _, Nat.zero_le _⟩ dX8_goalNow_12 ?_
  refine W.eq (g2 := F0 m 15 ls [.int t2]) rfl ?_
  have hF := Option.some.inj hF
  subst hF
  rw [hQ]
  exact W.iret hx hb hr (fun t ht _ => ⟨rfl, ht⟩) (fun _ h => by cases h) dX8_goalNow_15

def st_X8_looks_119 (v : ModelV) (t12 : Int32) (rec119 : Int32 → Int32 → Int32 → ModelV → Option (Int32 × ModelV)) (y2_119 : Int32) (y5_119 : Int32) (y6_119 : Int32) (wy_119 : ModelV) : Option (Int32 × ModelV) :=
  (if ((226 + (140 * ((Model_s v) (26 : Int32).toNatClampNeg))) + t12) ≤ y6_119 then some (y2_119, wy_119) else (if mIn y6_119 926 = true then jp (fun (x2_419 : Int32) (x5_419 : Int32) (wx_419 : ModelV) => rec119 x2_419 x5_419 (y6_119 + 1) wx_419) (fun j419 => (if ((Model_s wy_119) (y6_119).toNatClampNeg) < 0 then (if ¬ ((Model_s wy_119) (y6_119).toNatClampNeg) = (-1) then (if ((Model_s wy_119) (y6_119).toNatClampNeg) ≤ (-10) then (if mIn 0 64 = true then jp (fun (z0_391 : Int32) => jp (fun (z0_417 : Int32) => j419 ((y2_119 + z0_391) - z0_417) 0 wy_119) (fun j417 => jp (fun (_ : Unit) => j417 0) (fun j416 => (if ((Model_truths wy_119) (0 : Int32).toNatClampNeg) = 0 then j416 () else (if (-200) < ((Model_s wy_119) (y6_119).toNatClampNeg) then j416 () else j417 ((-200) - ((Model_s wy_119) (y6_119).toNatClampNeg))))))) (fun j391 => jp (fun (_ : Unit) => j391 0) (fun j390 => (if ((Model_truths wy_119) (0 : Int32).toNatClampNeg) = 0 then j390 () else (if ((Model_s wy_119) (y6_119).toNatClampNeg) ≤ (-200) then j390 () else j391 ((-10) - ((Model_s wy_119) (y6_119).toNatClampNeg)))))) else none) else jp (fun (z0_353 : Int32) => (if mIn ((y5_119 + (-1)) - 1) 64 = true then j419 y2_119 (y5_119 + (-1)) (Model_truths_s wy_119 (upd (Model_truths wy_119) (((y5_119 + (-1)) - 1)).toNatClampNeg (vp_nar .boolean z0_353))) else none)) (fun j353 => (if ¬ ((Model_s wy_119) (y6_119).toNatClampNeg) = (-2) then (if mIn ((y5_119 + (-1)) - 1) 64 = true then jp (fun (_ : Unit) => j353 1) (fun j348 => (if ¬ ((Model_truths wy_119) (((y5_119 + (-1)) - 1)).toNatClampNeg) = 0 then j348 () else (if mIn (y5_119 + (-1)) 64 = true then (if ((Model_truths wy_119) ((y5_119 + (-1))).toNatClampNeg) = 0 then j353 0 else j348 ()) else none))) else none) else (if mIn ((y5_119 + (-1)) - 1) 64 = true then jp (fun (_ : Unit) => j353 0) (fun j322 => (if ((Model_truths wy_119) (((y5_119 + (-1)) - 1)).toNatClampNeg) = 0 then j322 () else (if mIn (y5_119 + (-1)) 64 = true then (if ((Model_truths wy_119) ((y5_119 + (-1))).toNatClampNeg) = 0 then j322 () else j353 1) else none))) else none)))) else (if mIn (y5_119 - 1) 64 = true then jp (fun (z0_267 : Int32) => (if mIn (y5_119 - 1) 64 = true then j419 y2_119 y5_119 (Model_truths_s wy_119 (upd (Model_truths wy_119) ((y5_119 - 1)).toNatClampNeg (vp_nar .boolean z0_267))) else none)) (fun j267 => (if ¬ ((Model_truths wy_119) ((y5_119 - 1)).toNatClampNeg) = 0 then j267 0 else j267 1)) else none)) else (if mIn (mRem ((Model_s wy_119) (y6_119).toNatClampNeg) 8) 6 = true then jp (fun (z0_229 : Int32) => (if mIn y5_119 64 = true then j419 y2_119 (y5_119 + 1) (Model_truths_s wy_119 (upd (Model_truths wy_119) (y5_119).toNatClampNeg (vp_nar .boolean z0_229))) else none)) (fun j229 => (if ¬ (mRem (((Model_s wy_119) (y6_119).toNatClampNeg) / 8) 4) = 0 then (if ¬ (mRem (((Model_s wy_119) (y6_119).toNatClampNeg) / 8) 4) = 1 then (if ((Model_by wy_119) ((mRem ((Model_s wy_119) (y6_119).toNatClampNeg) 8)).toNatClampNeg) ≤ (((Model_s wy_119) (y6_119).toNatClampNeg) / 32) then j229 0 else j229 1) else (if ¬ ((Model_by wy_119) ((mRem ((Model_s wy_119) (y6_119).toNatClampNeg) 8)).toNatClampNeg) = (((Model_s wy_119) (y6_119).toNatClampNeg) / 32) then j229 0 else j229 1)) else (if (((Model_s wy_119) (y6_119).toNatClampNeg) / 32) ≤ ((Model_by wy_119) ((mRem ((Model_s wy_119) (y6_119).toNatClampNeg) 8)).toNatClampNeg) then j229 0 else j229 1))) else none))) else none))
def lp_X8_looks_119 (v : ModelV) (t12 : Int32) : Nat → Int32 → Int32 → Int32 → ModelV → Option (Int32 × ModelV)
  | 0 => fun _ _ _ _ => none
  | n + 1 => st_X8_looks_119 v t12 (lp_X8_looks_119 v t12 n)
def fn_X8_looks (v : ModelV) (x0 : Int32) : Option (Int32 × ModelV) :=
  (if mIn 0 6 = true then (if mIn (27 + x0) 926 = true then (if mIn 1 6 = true then (if mIn (33 + x0) 926 = true then (if mIn 2 6 = true then (if mIn (39 + x0) 926 = true then (if mIn 3 6 = true then (if mIn (2 + x0) 926 = true then (if mIn 4 6 = true then (if mIn 0 926 = true then (if mIn 5 6 = true then (Option.bind (fn_X8_tellsOf (Model_by_s v (upd (upd (upd (upd (upd (upd (Model_by v) (0 : Int32).toNatClampNeg x0) (1 : Int32).toNatClampNeg ((Model_s v) ((27 + x0)).toNatClampNeg)) (2 : Int32).toNatClampNeg ((Model_s v) ((33 + x0)).toNatClampNeg)) (3 : Int32).toNatClampNeg ((Model_s v) ((39 + x0)).toNatClampNeg)) (4 : Int32).toNatClampNeg (((Model_s v) ((2 + x0)).toNatClampNeg) / 10)) (5 : Int32).toNatClampNeg (mRem ((Model_s v) (0 : Int32).toNatClampNeg) 10))) 221 0) (fun t12 => (if mIn 26 926 = true then lp_X8_looks_119 v t12 m_N 0 0 (226 + (140 * ((Model_s v) (26 : Int32).toNatClampNeg))) (Model_by_s v (upd (upd (upd (upd (upd (upd (Model_by v) (0 : Int32).toNatClampNeg x0) (1 : Int32).toNatClampNeg ((Model_s v) ((27 + x0)).toNatClampNeg)) (2 : Int32).toNatClampNeg ((Model_s v) ((33 + x0)).toNatClampNeg)) (3 : Int32).toNatClampNeg ((Model_s v) ((39 + x0)).toNatClampNeg)) (4 : Int32).toNatClampNeg (((Model_s v) ((2 + x0)).toNatClampNeg) / 10)) (5 : Int32).toNatClampNeg (mRem ((Model_s v) (0 : Int32).toNatClampNeg) 10))) else none))) else none) else none) else none) else none) else none) else none) else none) else none) else none) else none) else none)
abbrev rmX8_looks : Room := { frames := 1, cells := 0, slots := 0, locals := 22 }
set_option maxRecDepth 100000 in
set_option maxHeartbeats 400000 in
theorem c_X8_looks (l : Launch) (E : mE) (a : ModelA) (v : ModelV) (x0 : Int32) (t : (Int32 × ModelV)) (hF : fn_X8_looks v x0 = some t) (sz : Nat) : Met l yX8_looks wsX8_looks rmX8_looks (mPm E [.ref (Modela_self a), .int x0] sz ((Model_c E a v)) (([] : va_W))) (mSm E (some (.int t.1)) ((Model_c E a t.2)) (va_A ((Model_c E a v)) sz)) 0 0 (va_A ((Model_c E a v)) sz) := by
  refine mOfM (cc := cX8_looks) (maxL := 11) (ret := (some .int)) (by decide) rfl (Nat.le_of_ble_eq_true rfl) ?_
  intro p e_ s m args below meth c Q A hQ CC hr hlocks hin hA hP hD hKN hGl hR0 hRA ls hl
  have hS : va_S A s.heap s.heap [] := va_S.rf
  have hK := hKN.1
  have hx := CC.1
  have hb := CC.2.1
  have hml := CC.2.2.1
  have hown : s.vm.findClass RX8 = some m.cls := CC.2.2.2.1
  have hts := CC.2.2.2.2
  have hl : lv_has ls 11 [(0, .ref (Modela_self a)), (1, .int x0)] := hl
  have k0 := hts (.fieldLink RX8 21 "OneDidAllModel" "by" "[I") (by decide +kernel)
  have k1 := (show ∀ w ∈ u_ws RX8 TX8 20, w ∈ wsX8_looks by decide +kernel)
  have k2 := hts (.fieldLink RX8 9 "OneDidAllModel" "s" "[I") (by decide +kernel)
  have k3 := hts (.fieldLink RX8 24 "OneDidAllModel" "truths" "[Z") (by decide +kernel)
  have hP : va_P E.1 vwCl (Model_c E a v) s.heap := hP
  obtain ⟨H, hH⟩ : ∃ H, H = s.heap := ⟨_, rfl⟩
  obtain ⟨locs, hlc⟩ : ∃ z : List Loc, z = [] := ⟨_, rfl⟩
  rw [← hH] at hP
  rw [← hlc] at hS
  have hS : va_S A s.heap H locs := by rw [hH]; exact hS
  rw [← hH, ← hlc]
  unfold fn_X8_looks at hF
  refine lv_aload_n hx hb dX8_looks_0 rfl (lv_at hl 0 rfl) ?_
  refine va_get (D := E.1) (ci := 8) (v := .ref (Modela_by a)) (C := RX8) (T := TX8) (N := 20) hx hb hts k1 hown hK hP 0 rfl rfl 10 (by decide) k0 (fun _ h9 => h9) rfl dX8_looks_1 ?_
  refine lv_iconst (v := 0) hx hb dX8_looks_4 (by decide) ?_
  refine lv_iload_n hx hb dX8_looks_5 rfl (lv_at hl 1 rfl) ?_
  obtain ⟨h1, hF⟩ := m_chk hF
  refine va_iast (f := (Model_by v)) hx hb hK hP hD hS 4 1 rfl rfl (mIn_ok h1) dX8_looks_6 (fun H locs hP hD hS => ?_)
  have hP : va_P E.1 vwCl (Model_c E a (Model_by_s v (upd (Model_by v) (0 : Int32).toNatClampNeg x0))) H := hP
  have hD : va_D A (Model_c E a (Model_by_s v (upd (Model_by v) (0 : Int32).toNatClampNeg x0))) := hD
  refine lv_aload_n hx hb dX8_looks_7 rfl (lv_at hl 0 rfl) ?_
  refine va_get (D := E.1) (ci := 8) (v := .ref (Modela_by a)) (C := RX8) (T := TX8) (N := 20) hx hb hts k1 hown hK hP 0 rfl rfl 10 (by decide) k0 (fun _ h9 => h9) rfl dX8_looks_8 ?_
  refine lv_iconst (v := 1) hx hb dX8_looks_11 (by decide) ?_
  refine lv_aload_n hx hb dX8_looks_12 rfl (lv_at hl 0 rfl) ?_
  refine va_get (D := E.1) (ci := 8) (v := .ref (Modela_s a)) (C := RX8) (T := TX8) (N := 20) hx hb hts k1 hown hK hP 0 rfl rfl 1 (by decide) k2 (fun _ h9 => h9) rfl dX8_looks_13 ?_
  refine lv_bipush (v := 27) hx hb dX8_looks_16 (by decide) ?_
  refine lv_iload_n hx hb dX8_looks_18 rfl (lv_at hl 1 rfl) ?_
  refine lv_iadd hx hb dX8_looks_19 ?_
  obtain ⟨h2, hF⟩ := m_chk hF
  refine va_iald (f := (Model_s v)) hx hb hK hP 1 1 rfl rfl (mIn_ok h2) dX8_looks_20 ?_
  refine W.eq (g2 := F0 m 21 ls [.int ((Model_s v) ((27 + x0)).toNatClampNeg), .int 1, .ref (Modela_by a)]) rfl ?_
  obtain ⟨h3, hF⟩ := m_chk hF
  refine va_iast (f := (upd (Model_by v) (0 : Int32).toNatClampNeg x0)) hx hb hK hP hD hS 4 1 rfl rfl (mIn_ok h3) dX8_looks_21 (fun H locs hP hD hS => ?_)
  have hP : va_P E.1 vwCl (Model_c E a (Model_by_s v (upd (upd (Model_by v) (0 : Int32).toNatClampNeg x0) (1 : Int32).toNatClampNeg ((Model_s v) ((27 + x0)).toNatClampNeg)))) H := hP
  have hD : va_D A (Model_c E a (Model_by_s v (upd (upd (Model_by v) (0 : Int32).toNatClampNeg x0) (1 : Int32).toNatClampNeg ((Model_s v) ((27 + x0)).toNatClampNeg)))) := hD
  refine lv_aload_n hx hb dX8_looks_22 rfl (lv_at hl 0 rfl) ?_
  refine va_get (D := E.1) (ci := 8) (v := .ref (Modela_by a)) (C := RX8) (T := TX8) (N := 20) hx hb hts k1 hown hK hP 0 rfl rfl 10 (by decide) k0 (fun _ h9 => h9) rfl dX8_looks_23 ?_
  refine lv_iconst (v := 2) hx hb dX8_looks_26 (by decide) ?_
  refine lv_aload_n hx hb dX8_looks_27 rfl (lv_at hl 0 rfl) ?_
  refine va_get (D := E.1) (ci := 8) (v := .ref (Modela_s a)) (C := RX8) (T := TX8) (N := 20) hx hb hts k1 hown hK hP 0 rfl rfl 1 (by decide) k2 (fun _ h9 => h9) rfl dX8_looks_28 ?_
  refine lv_bipush (v := 33) hx hb dX8_looks_31 (by decide) ?_
  refine lv_iload_n hx hb dX8_looks_33 rfl (lv_at hl 1 rfl) ?_
  refine lv_iadd hx hb dX8_looks_34 ?_
  obtain ⟨h4, hF⟩ := m_chk hF
  refine va_iald (f := (Model_s v)) hx hb hK hP 1 1 rfl rfl (mIn_ok h4) dX8_looks_35 ?_
  refine W.eq (g2 := F0 m 36 ls [.int ((Model_s v) ((33 + x0)).toNatClampNeg), .int 2, .ref (Modela_by a)]) rfl ?_
  obtain ⟨h5, hF⟩ := m_chk hF
  refine va_iast (f := (upd (upd (Model_by v) (0 : Int32).toNatClampNeg x0) (1 : Int32).toNatClampNeg ((Model_s v) ((27 + x0)).toNatClampNeg))) hx hb hK hP hD hS 4 1 rfl rfl (mIn_ok h5) dX8_looks_36 (fun H locs hP hD hS => ?_)
  have hP : va_P E.1 vwCl (Model_c E a (Model_by_s v (upd (upd (upd (Model_by v) (0 : Int32).toNatClampNeg x0) (1 : Int32).toNatClampNeg ((Model_s v) ((27 + x0)).toNatClampNeg)) (2 : Int32).toNatClampNeg ((Model_s v) ((33 + x0)).toNatClampNeg)))) H := hP
  have hD : va_D A (Model_c E a (Model_by_s v (upd (upd (upd (Model_by v) (0 : Int32).toNatClampNeg x0) (1 : Int32).toNatClampNeg ((Model_s v) ((27 + x0)).toNatClampNeg)) (2 : Int32).toNatClampNeg ((Model_s v) ((33 + x0)).toNatClampNeg)))) := hD
  refine lv_aload_n hx hb dX8_looks_37 rfl (lv_at hl 0 rfl) ?_
  refine va_get (D := E.1) (ci := 8) (v := .ref (Modela_by a)) (C := RX8) (T := TX8) (N := 20) hx hb hts k1 hown hK hP 0 rfl rfl 10 (by decide) k0 (fun _ h9 => h9) rfl dX8_looks_38 ?_
  refine lv_iconst (v := 3) hx hb dX8_looks_41 (by decide) ?_
  refine lv_aload_n hx hb dX8_looks_42 rfl (lv_at hl 0 rfl) ?_
  refine va_get (D := E.1) (ci := 8) (v := .ref (Modela_s a)) (C := RX8) (T := TX8) (N := 20) hx hb hts k1 hown hK hP 0 rfl rfl 1 (by decide) k2 (fun _ h9 => h9) rfl dX8_looks_43 ?_
  refine lv_bipush (v := 39) hx hb dX8_looks_46 (by decide) ?_
  refine lv_iload_n hx hb dX8_looks_48 rfl (lv_at hl 1 rfl) ?_
  refine lv_iadd hx hb dX8_looks_49 ?_
  obtain ⟨h6, hF⟩ := m_chk hF
  refine va_iald (f := (Model_s v)) hx hb hK hP 1 1 rfl rfl (mIn_ok h6) dX8_looks_50 ?_
  refine W.eq (g2 := F0 m 51 ls [.int ((Model_s v) ((39 + x0)).toNatClampNeg), .int 3, .ref (Modela_by a)]) rfl ?_
  obtain ⟨h7, hF⟩ := m_chk hF
  refine va_iast (f := (upd (upd (upd (Model_by v) (0 : Int32).toNatClampNeg x0) (1 : Int32).toNatClampNeg ((Model_s v) ((27 + x0)).toNatClampNeg)) (2 : Int32).toNatClampNeg ((Model_s v) ((33 + x0)).toNatClampNeg))) hx hb hK hP hD hS 4 1 rfl rfl (mIn_ok h7) dX8_looks_51 (fun H locs hP hD hS => ?_)
  have hP : va_P E.1 vwCl (Model_c E a (Model_by_s v (upd (upd (upd (upd (Model_by v) (0 : Int32).toNatClampNeg x0) (1 : Int32).toNatClampNeg ((Model_s v) ((27 + x0)).toNatClampNeg)) (2 : Int32).toNatClampNeg ((Model_s v) ((33 + x0)).toNatClampNeg)) (3 : Int32).toNatClampNeg ((Model_s v) ((39 + x0)).toNatClampNeg)))) H := hP
  have hD : va_D A (Model_c E a (Model_by_s v (upd (upd (upd (upd (Model_by v) (0 : Int32).toNatClampNeg x0) (1 : Int32).toNatClampNeg ((Model_s v) ((27 + x0)).toNatClampNeg)) (2 : Int32).toNatClampNeg ((Model_s v) ((33 + x0)).toNatClampNeg)) (3 : Int32).toNatClampNeg ((Model_s v) ((39 + x0)).toNatClampNeg)))) := hD
  refine lv_aload_n hx hb dX8_looks_52 rfl (lv_at hl 0 rfl) ?_
  refine va_get (D := E.1) (ci := 8) (v := .ref (Modela_by a)) (C := RX8) (T := TX8) (N := 20) hx hb hts k1 hown hK hP 0 rfl rfl 10 (by decide) k0 (fun _ h9 => h9) rfl dX8_looks_53 ?_
  refine lv_iconst (v := 4) hx hb dX8_looks_56 (by decide) ?_
  refine lv_aload_n hx hb dX8_looks_57 rfl (lv_at hl 0 rfl) ?_
  refine va_get (D := E.1) (ci := 8) (v := .ref (Modela_s a)) (C := RX8) (T := TX8) (N := 20) hx hb hts k1 hown hK hP 0 rfl rfl 1 (by decide) k2 (fun _ h9 => h9) rfl dX8_looks_58 ?_
  refine lv_iconst (v := 2) hx hb dX8_looks_61 (by decide) ?_
  refine lv_iload_n hx hb dX8_looks_62 rfl (lv_at hl 1 rfl) ?_
  refine lv_iadd hx hb dX8_looks_63 ?_
  obtain ⟨h8, hF⟩ := m_chk hF
  refine va_iald (f := (Model_s v)) hx hb hK hP 1 1 rfl rfl (mIn_ok h8) dX8_looks_64 ?_
  refine W.eq (g2 := F0 m 65 ls [.int ((Model_s v) ((2 + x0)).toNatClampNeg), .int 4, .ref (Modela_by a)]) rfl ?_
  refine lv_bipush (v := 10) hx hb dX8_looks_65 (by decide) ?_
  refine lv_idiv hx hb dX8_looks_67 (by decide) ?_
  obtain ⟨h9, hF⟩ := m_chk hF
  refine va_iast (f := (upd (upd (upd (upd (Model_by v) (0 : Int32).toNatClampNeg x0) (1 : Int32).toNatClampNeg ((Model_s v) ((27 + x0)).toNatClampNeg)) (2 : Int32).toNatClampNeg ((Model_s v) ((33 + x0)).toNatClampNeg)) (3 : Int32).toNatClampNeg ((Model_s v) ((39 + x0)).toNatClampNeg))) hx hb hK hP hD hS 4 1 rfl rfl (mIn_ok h9) dX8_looks_68 (fun H locs hP hD hS => ?_)
  have hP : va_P E.1 vwCl (Model_c E a (Model_by_s v (upd (upd (upd (upd (upd (Model_by v) (0 : Int32).toNatClampNeg x0) (1 : Int32).toNatClampNeg ((Model_s v) ((27 + x0)).toNatClampNeg)) (2 : Int32).toNatClampNeg ((Model_s v) ((33 + x0)).toNatClampNeg)) (3 : Int32).toNatClampNeg ((Model_s v) ((39 + x0)).toNatClampNeg)) (4 : Int32).toNatClampNeg (((Model_s v) ((2 + x0)).toNatClampNeg) / 10)))) H := hP
  have hD : va_D A (Model_c E a (Model_by_s v (upd (upd (upd (upd (upd (Model_by v) (0 : Int32).toNatClampNeg x0) (1 : Int32).toNatClampNeg ((Model_s v) ((27 + x0)).toNatClampNeg)) (2 : Int32).toNatClampNeg ((Model_s v) ((33 + x0)).toNatClampNeg)) (3 : Int32).toNatClampNeg ((Model_s v) ((39 + x0)).toNatClampNeg)) (4 : Int32).toNatClampNeg (((Model_s v) ((2 + x0)).toNatClampNeg) / 10)))) := hD
  refine lv_aload_n hx hb dX8_looks_69 rfl (lv_at hl 0 rfl) ?_
  refine va_get (D := E.1) (ci := 8) (v := .ref (Modela_by a)) (C := RX8) (T := TX8) (N := 20) hx hb hts k1 hown hK hP 0 rfl rfl 10 (by decide) k0 (fun _ h9 => h9) rfl dX8_looks_70 ?_
  refine lv_iconst (v := 5) hx hb dX8_looks_73 (by decide) ?_
  refine lv_aload_n hx hb dX8_looks_74 rfl (lv_at hl 0 rfl) ?_
  refine va_get (D := E.1) (ci := 8) (v := .ref (Modela_s a)) (C := RX8) (T := TX8) (N := 20) hx hb hts k1 hown hK hP 0 rfl rfl 1 (by decide) k2 (fun _ h9 => h9) rfl dX8_looks_75 ?_
  refine lv_iconst (v := 0) hx hb dX8_looks_78 (by decide) ?_
  obtain ⟨h10, hF⟩ := m_chk hF
  refine va_iald (f := (Model_s v)) hx hb hK hP 1 1 rfl rfl (mIn_ok h10) dX8_looks_79 ?_
  refine W.eq (g2 := F0 m 80 ls [.int ((Model_s v) (0 : Int32).toNatClampNeg), .int 5, .ref (Modela_by a)]) rfl ?_
  refine lv_bipush (v := 10) hx hb dX8_looks_80 (by decide) ?_
  refine lv_irem hx hb dX8_looks_82 (by decide) ?_
  refine W.eq (g2 := F0 m 83 ls [.int (mRem ((Model_s v) (0 : Int32).toNatClampNeg) 10), .int 5, .ref (Modela_by a)]) rfl ?_
  obtain ⟨h11, hF⟩ := m_chk hF
  refine va_iast (f := (upd (upd (upd (upd (upd (Model_by v) (0 : Int32).toNatClampNeg x0) (1 : Int32).toNatClampNeg ((Model_s v) ((27 + x0)).toNatClampNeg)) (2 : Int32).toNatClampNeg ((Model_s v) ((33 + x0)).toNatClampNeg)) (3 : Int32).toNatClampNeg ((Model_s v) ((39 + x0)).toNatClampNeg)) (4 : Int32).toNatClampNeg (((Model_s v) ((2 + x0)).toNatClampNeg) / 10))) hx hb hK hP hD hS 4 1 rfl rfl (mIn_ok h11) dX8_looks_83 (fun H locs hP hD hS => ?_)
  have hP : va_P E.1 vwCl (Model_c E a (Model_by_s v (upd (upd (upd (upd (upd (upd (Model_by v) (0 : Int32).toNatClampNeg x0) (1 : Int32).toNatClampNeg ((Model_s v) ((27 + x0)).toNatClampNeg)) (2 : Int32).toNatClampNeg ((Model_s v) ((33 + x0)).toNatClampNeg)) (3 : Int32).toNatClampNeg ((Model_s v) ((39 + x0)).toNatClampNeg)) (4 : Int32).toNatClampNeg (((Model_s v) ((2 + x0)).toNatClampNeg) / 10)) (5 : Int32).toNatClampNeg (mRem ((Model_s v) (0 : Int32).toNatClampNeg) 10)))) H := hP
  have hD : va_D A (Model_c E a (Model_by_s v (upd (upd (upd (upd (upd (upd (Model_by v) (0 : Int32).toNatClampNeg x0) (1 : Int32).toNatClampNeg ((Model_s v) ((27 + x0)).toNatClampNeg)) (2 : Int32).toNatClampNeg ((Model_s v) ((33 + x0)).toNatClampNeg)) (3 : Int32).toNatClampNeg ((Model_s v) ((39 + x0)).toNatClampNeg)) (4 : Int32).toNatClampNeg (((Model_s v) ((2 + x0)).toNatClampNeg) / 10)) (5 : Int32).toNatClampNeg (mRem ((Model_s v) (0 : Int32).toNatClampNeg) 10)))) := hD
  refine lv_iconst (v := 0) hx hb dX8_looks_84 (by decide) ?_
  refine lv_istore_n (lv' := [(2, .int 0), (0, .ref (Modela_self a)), (1, .int x0)]) hx hb dX8_looks_85 rfl hl (by decide) rfl (fun ls hl => ?_)
  refine lv_aload_n hx hb dX8_looks_86 rfl (lv_at hl 1 rfl) ?_
  refine lv_sipush (v := 221) hx hb dX8_looks_87 (by decide) ?_
  refine lv_iconst (v := 0) hx hb dX8_looks_90 (by decide) ?_
  obtain ⟨t12, ht12, hF⟩ := m_bnd hF
  refine mVP (ci := 8) (n := 2) (rest := []) (As := [.int 221, .int 0]) CC hKN hGl hS (c_X8_tellsOf l E a (Model_by_s v (upd (upd (upd (upd (upd (upd (Model_by v) (0 : Int32).toNatClampNeg x0) (1 : Int32).toNatClampNeg ((Model_s v) ((27 + x0)).toNatClampNeg)) (2 : Int32).toNatClampNeg ((Model_s v) ((33 + x0)).toNatClampNeg)) (3 : Int32).toNatClampNeg ((Model_s v) ((39 + x0)).toNatClampNeg)) (4 : Int32).toNatClampNeg (((Model_s v) ((2 + x0)).toNatClampNeg) / 10)) (5 : Int32).toNatClampNeg (mRem ((Model_s v) (0 : Int32).toNatClampNeg) 10))) 221 0 t12 ht12) gX8_looks_X8_tellsOf rfl ⟨rfl, rfl⟩ (by decide +kernel) ⟨Nat.le_of_ble_eq_true rfl, Nat.le_of_ble_eq_true rfl⟩ hP rfl rfl rfl rfl hl.1 rfl (Nat.le_of_ble_eq_true rfl) ⟨Nat.zero_le _, Nat.zero_le _⟩ dX8_looks_91 ?_
  refine W.eq (g2 := F0 m 94 ls [.int t12]) rfl ?_
  refine lv_istore_n (lv' := [(3, .int t12), (2, .int 0), (0, .ref (Modela_self a)), (1, .int x0)]) hx hb dX8_looks_94 rfl hl (by decide) rfl (fun ls hl => ?_)
  refine lv_sipush (v := 226) hx hb dX8_looks_95 (by decide) ?_
  refine lv_sipush (v := 140) hx hb dX8_looks_98 (by decide) ?_
  refine lv_aload_n hx hb dX8_looks_101 rfl (lv_at hl 2 rfl) ?_
  refine va_get (D := E.1) (ci := 8) (v := .ref (Modela_s a)) (C := RX8) (T := TX8) (N := 20) hx hb hts k1 hown hK hP 0 rfl rfl 1 (by decide) k2 (fun _ h9 => h9) rfl dX8_looks_102 ?_
  refine lv_bipush (v := 26) hx hb dX8_looks_105 (by decide) ?_
  obtain ⟨h13, hF⟩ := m_chk hF
  refine va_iald (f := (Model_s v)) hx hb hK hP 1 1 rfl rfl (mIn_ok h13) dX8_looks_107 ?_
  refine W.eq (g2 := F0 m 108 ls [.int ((Model_s v) (26 : Int32).toNatClampNeg), .int 140, .int 226]) rfl ?_
  refine lv_imul hx hb dX8_looks_108 ?_
  refine lv_iadd hx hb dX8_looks_109 ?_
  refine lv_istore (lv' := [(4, .int (226 + (140 * ((Model_s v) (26 : Int32).toNatClampNeg)))), (3, .int t12), (2, .int 0), (0, .ref (Modela_self a)), (1, .int x0)]) hx hb dX8_looks_110 hl (by decide) rfl (fun ls hl => ?_)
  refine lv_iconst (v := 0) hx hb dX8_looks_112 (by decide) ?_
  refine lv_istore (lv' := [(5, .int 0), (4, .int (226 + (140 * ((Model_s v) (26 : Int32).toNatClampNeg)))), (3, .int t12), (2, .int 0), (0, .ref (Modela_self a)), (1, .int x0)]) hx hb dX8_looks_113 hl (by decide) rfl (fun ls hl => ?_)
  refine lv_iload hx hb dX8_looks_115 (lv_at hl 1 rfl) ?_
  refine lv_istore (lv' := [(6, .int (226 + (140 * ((Model_s v) (26 : Int32).toNatClampNeg)))), (5, .int 0), (4, .int (226 + (140 * ((Model_s v) (26 : Int32).toNatClampNeg)))), (3, .int t12), (2, .int 0), (0, .ref (Modela_self a)), (1, .int x0)]) hx hb dX8_looks_117 hl (by decide) rfl (fun ls hl => ?_)
  have hL119 : ∀ (n : Nat) (y2_119 : Int32) (y5_119 : Int32) (y6_119 : Int32) (wy_119 : ModelV) (H : Heap) (locs : List Loc) (ls : Array Slot), lp_X8_looks_119 v t12 n y2_119 y5_119 y6_119 wy_119 = some t → va_P E.1 vwCl (Model_c E a wy_119) H → va_D A (Model_c E a wy_119) → va_S A s.heap H locs → lv_has ls 11 [(0, .ref (Modela_self a)), (2, .int y2_119), (3, .int t12), (4, .int (226 + (140 * ((Model_s v) (26 : Int32).toNatClampNeg)))), (5, .int y5_119), (6, .int y6_119)] → W p l e_ rmX8_looks s m args below meth c H locs 0 0 Q (F0 m 119 ls []) := by
    intro n
    induction n with
    | zero =>
      intro y2_119 y5_119 y6_119 wy_119 H locs ls hF
      exact nomatch (show (none : Option (Int32 × ModelV)) = some t from hF)
    | succ n ih119 =>
      intro y2_119 y5_119 y6_119 wy_119 H locs ls hF hP hD hS hl
      have hF : st_X8_looks_119 v t12 (lp_X8_looks_119 v t12 n) y2_119 y5_119 y6_119 wy_119 = some t := hF
      unfold st_X8_looks_119 at hF
      refine lv_iload hx hb dX8_looks_119 (lv_at hl 5 rfl) ?_
      refine lv_iload hx hb dX8_looks_121 (lv_at hl 3 rfl) ?_
      refine lv_iload_n hx hb dX8_looks_123 rfl (lv_at hl 2 rfl) ?_
      refine lv_iadd hx hb dX8_looks_124 ?_
      refine lv_icmp_ge (tgt := 425) hx hb dX8_looks_125 (by decide) (fun c14 => ?_) (fun c14 => ?_)
      · have hF := m_pos c14 hF
        refine lv_iload_n hx hb dX8_looks_425 rfl (lv_at hl 1 rfl) ?_
        have hF := Option.some.inj hF
        subst hF
        rw [hQ]
        exact W.iret hx hb hr (fun t ht _ => ⟨⟨rfl, by rw [ht]; exact hP, hD⟩, hS.F ht⟩) hS.2.2 dX8_looks_426
      · have hF := m_neg c14 hF
        refine lv_aload_n hx hb dX8_looks_128 rfl (lv_at hl 0 rfl) ?_
        refine va_get (D := E.1) (ci := 8) (v := .ref (Modela_s a)) (C := RX8) (T := TX8) (N := 20) hx hb hts k1 hown hK hP 0 rfl rfl 1 (by decide) k2 (fun _ h9 => h9) rfl dX8_looks_129 ?_
        refine lv_iload hx hb dX8_looks_132 (lv_at hl 5 rfl) ?_
        obtain ⟨h15, hF⟩ := m_chk hF
        refine va_iald (f := (Model_s wy_119)) hx hb hK hP 1 1 rfl rfl (mIn_ok h15) dX8_looks_134 ?_
        refine W.eq (g2 := F0 m 135 ls [.int ((Model_s wy_119) (y6_119).toNatClampNeg)]) rfl ?_
        refine lv_istore (lv' := [(7, .int ((Model_s wy_119) (y6_119).toNatClampNeg)), (0, .ref (Modela_self a)), (2, .int y2_119), (3, .int t12), (4, .int (226 + (140 * ((Model_s v) (26 : Int32).toNatClampNeg)))), (5, .int y5_119), (6, .int y6_119)]) hx hb dX8_looks_135 hl (by decide) rfl (fun ls hl => ?_)
        refine lv_iload hx hb dX8_looks_137 (lv_at hl 0 rfl) ?_
        obtain ⟨j419, hjd419, hF⟩ := m_jp hF
        have hj419 : ∀ (x2_419 : Int32) (x5_419 : Int32) (wx_419 : ModelV) (H : Heap) (locs : List Loc) (ls : Array Slot), j419 x2_419 x5_419 wx_419 = some t → va_P E.1 vwCl (Model_c E a wx_419) H → va_D A (Model_c E a wx_419) → va_S A s.heap H locs → lv_has ls 11 [(0, .ref (Modela_self a)), (2, .int x2_419), (3, .int t12), (4, .int (226 + (140 * ((Model_s v) (26 : Int32).toNatClampNeg)))), (5, .int x5_419), (6, .int y6_119)] → W p l e_ rmX8_looks s m args below meth c H locs 0 0 Q (F0 m 419 ls []) := by
          intro x2_419 x5_419 wx_419 H locs ls hF hP hD hS hl
          rw [hjd419] at hF
          refine lv_iinc (v := (y6_119 + 1)) (lv' := [(6, .int (y6_119 + 1)), (0, .ref (Modela_self a)), (2, .int x2_419), (3, .int t12), (4, .int (226 + (140 * ((Model_s v) (26 : Int32).toNatClampNeg)))), (5, .int x5_419)]) hx hb dX8_looks_419 hl (k := 5) rfl rfl (by decide) rfl (fun ls hl => ?_)
          refine lv_goto (tgt := 119) hx hb dX8_looks_422 (by decide) ?_
          exact ih119 x2_419 x5_419 (y6_119 + 1) wx_419 H locs ls hF hP hD hS (lv_sub hl [1, 2, 3, 4, 5, 0] rfl)
        clear hjd419
        refine lv_if_lt (tgt := 236) hx hb dX8_looks_139 (by decide) (fun c16 => ?_) (fun c16 => ?_)
        · have hF := m_pos c16 hF
          refine lv_iload hx hb dX8_looks_236 (lv_at hl 0 rfl) ?_
          refine lv_iconst (v := (-1)) hx hb dX8_looks_238 (by decide) ?_
          refine lv_icmp_ne (tgt := 271) hx hb dX8_looks_239 (by decide) (fun c17 => ?_) (fun c17 => ?_)
          · have hF := m_pos c17 hF
            refine lv_iload hx hb dX8_looks_271 (lv_at hl 0 rfl) ?_
            refine lv_bipush (v := (-10)) hx hb dX8_looks_273 (by decide) ?_
            refine lv_icmp_le (tgt := 357) hx hb dX8_looks_275 (by decide) (fun c18 => ?_) (fun c18 => ?_)
            · have hF := m_pos c18 hF
              refine lv_iconst (v := 0) hx hb dX8_looks_357 (by decide) ?_
              refine lv_istore (lv' := [(5, .int 0), (7, .int ((Model_s wy_119) (y6_119).toNatClampNeg)), (0, .ref (Modela_self a)), (2, .int y2_119), (3, .int t12), (4, .int (226 + (140 * ((Model_s v) (26 : Int32).toNatClampNeg)))), (6, .int y6_119)]) hx hb dX8_looks_358 hl (by decide) rfl (fun ls hl => ?_)
              refine lv_aload_n hx hb dX8_looks_360 rfl (lv_at hl 2 rfl) ?_
              refine va_get (D := E.1) (ci := 8) (v := .ref (Modela_truths a)) (C := RX8) (T := TX8) (N := 20) hx hb hts k1 hown hK hP 0 rfl rfl 11 (by decide) k3 (fun _ h9 => h9) rfl dX8_looks_361 ?_
              refine lv_iconst (v := 0) hx hb dX8_looks_364 (by decide) ?_
              obtain ⟨h19, hF⟩ := m_chk hF
              refine va_zald (f := (Model_truths wy_119)) hx hb hK hP 5 2 rfl rfl (mIn_ok h19) dX8_looks_365 ?_
              refine W.eq (g2 := F0 m 366 ls [.int ((Model_truths wy_119) (0 : Int32).toNatClampNeg)]) rfl ?_
              refine lv_istore (lv' := [(8, .int ((Model_truths wy_119) (0 : Int32).toNatClampNeg)), (5, .int 0), (7, .int ((Model_s wy_119) (y6_119).toNatClampNeg)), (0, .ref (Modela_self a)), (2, .int y2_119), (3, .int t12), (4, .int (226 + (140 * ((Model_s v) (26 : Int32).toNatClampNeg)))), (6, .int y6_119)]) hx hb dX8_looks_366 hl (by decide) rfl (fun ls hl => ?_)
              refine lv_iload_n hx hb dX8_looks_368 rfl (lv_at hl 4 rfl) ?_
              refine lv_iload hx hb dX8_looks_369 (lv_at hl 0 rfl) ?_
              obtain ⟨j391, hjd391, hF⟩ := m_jp hF
              have hj391 : ∀ (z0_391 : Int32) (H : Heap) (locs : List Loc) (ls : Array Slot), j391 z0_391 = some t → va_P E.1 vwCl (Model_c E a wy_119) H → va_D A (Model_c E a wy_119) → va_S A s.heap H locs → lv_has ls 11 [(0, .ref (Modela_self a)), (3, .int t12), (4, .int (226 + (140 * ((Model_s v) (26 : Int32).toNatClampNeg)))), (5, .int 0), (6, .int y6_119), (7, .int ((Model_s wy_119) (y6_119).toNatClampNeg)), (8, .int ((Model_truths wy_119) (0 : Int32).toNatClampNeg))] → W p l e_ rmX8_looks s m args below meth c H locs 0 0 Q (F0 m 391 ls [.int z0_391, .int y2_119]) := by
                intro z0_391 H locs ls hF hP hD hS hl
                rw [hjd391] at hF
                refine lv_iadd hx hb dX8_looks_391 ?_
                refine lv_istore_n (lv' := [(2, .int (y2_119 + z0_391)), (0, .ref (Modela_self a)), (3, .int t12), (4, .int (226 + (140 * ((Model_s v) (26 : Int32).toNatClampNeg)))), (5, .int 0), (6, .int y6_119), (7, .int ((Model_s wy_119) (y6_119).toNatClampNeg)), (8, .int ((Model_truths wy_119) (0 : Int32).toNatClampNeg))]) hx hb dX8_looks_392 rfl hl (by decide) rfl (fun ls hl => ?_)
                refine lv_iload_n hx hb dX8_looks_393 rfl (lv_at hl 0 rfl) ?_
                refine lv_iload hx hb dX8_looks_394 (lv_at hl 7 rfl) ?_
                obtain ⟨j417, hjd417, hF⟩ := m_jp hF
                have hj417 : ∀ (z0_417 : Int32) (H : Heap) (locs : List Loc) (ls : Array Slot), j417 z0_417 = some t → va_P E.1 vwCl (Model_c E a wy_119) H → va_D A (Model_c E a wy_119) → va_S A s.heap H locs → lv_has ls 11 [(0, .ref (Modela_self a)), (3, .int t12), (4, .int (226 + (140 * ((Model_s v) (26 : Int32).toNatClampNeg)))), (5, .int 0), (6, .int y6_119)] → W p l e_ rmX8_looks s m args below meth c H locs 0 0 Q (F0 m 417 ls [.int z0_417, .int (y2_119 + z0_391)]) := by
                  intro z0_417 H locs ls hF hP hD hS hl
                  rw [hjd417] at hF
                  refine lv_isub hx hb dX8_looks_417 ?_
                  refine lv_istore_n (lv' := [(2, .int ((y2_119 + z0_391) - z0_417)), (0, .ref (Modela_self a)), (3, .int t12), (4, .int (226 + (140 * ((Model_s v) (26 : Int32).toNatClampNeg)))), (5, .int 0), (6, .int y6_119)]) hx hb dX8_looks_418 rfl hl (by decide) rfl (fun ls hl => ?_)
                  exact hj419 ((y2_119 + z0_391) - z0_417) 0 wy_119 H locs ls hF hP hD hS (lv_sub hl [1, 0, 2, 3, 4, 5] rfl)
                clear hjd417
                obtain ⟨j416, hjd416, hF⟩ := m_jp hF
                have hj416 : ∀ (H : Heap) (locs : List Loc) (ls : Array Slot), j416 () = some t → va_P E.1 vwCl (Model_c E a wy_119) H → va_D A (Model_c E a wy_119) → va_S A s.heap H locs → lv_has ls 11 [(0, .ref (Modela_self a)), (3, .int t12), (4, .int (226 + (140 * ((Model_s v) (26 : Int32).toNatClampNeg)))), (5, .int 0), (6, .int y6_119)] → W p l e_ rmX8_looks s m args below meth c H locs 0 0 Q (F0 m 416 ls [.int (y2_119 + z0_391)]) := by
                  intro H locs ls hF hP hD hS hl
                  rw [hjd416] at hF
                  refine lv_iconst (v := 0) hx hb dX8_looks_416 (by decide) ?_
                  exact hj417 0 H locs ls hF hP hD hS (lv_sub hl [0, 1, 2, 3, 4] rfl)
                clear hjd416
                refine lv_if_eq (tgt := 416) hx hb dX8_looks_396 (by decide) (fun c20 => ?_) (fun c20 => ?_)
                · have hF := m_pos c20 hF
                  exact hj416 H locs ls hF hP hD hS (lv_sub hl [1, 2, 3, 4, 5] rfl)
                · have hF := m_neg c20 hF
                  refine lv_iload hx hb dX8_looks_399 (lv_at hl 6 rfl) ?_
                  refine lv_sipush (v := (-200)) hx hb dX8_looks_401 (by decide) ?_
                  refine lv_icmp_gt (tgt := 416) hx hb dX8_looks_404 (by decide) (fun c21 => ?_) (fun c21 => ?_)
                  · have hF := m_pos c21 hF
                    exact hj416 H locs ls hF hP hD hS (lv_sub hl [1, 2, 3, 4, 5] rfl)
                  · have hF := m_neg c21 hF
                    refine lv_sipush (v := (-200)) hx hb dX8_looks_407 (by decide) ?_
                    refine lv_iload hx hb dX8_looks_410 (lv_at hl 6 rfl) ?_
                    refine lv_isub hx hb dX8_looks_412 ?_
                    refine lv_goto (tgt := 417) hx hb dX8_looks_413 (by decide) ?_
                    exact hj417 ((-200) - ((Model_s wy_119) (y6_119).toNatClampNeg)) H locs ls hF hP hD hS (lv_sub hl [1, 2, 3, 4, 5] rfl)
              clear hjd391
              obtain ⟨j390, hjd390, hF⟩ := m_jp hF
              have hj390 : ∀ (H : Heap) (locs : List Loc) (ls : Array Slot), j390 () = some t → va_P E.1 vwCl (Model_c E a wy_119) H → va_D A (Model_c E a wy_119) → va_S A s.heap H locs → lv_has ls 11 [(0, .ref (Modela_self a)), (3, .int t12), (4, .int (226 + (140 * ((Model_s v) (26 : Int32).toNatClampNeg)))), (5, .int 0), (6, .int y6_119), (7, .int ((Model_s wy_119) (y6_119).toNatClampNeg)), (8, .int ((Model_truths wy_119) (0 : Int32).toNatClampNeg))] → W p l e_ rmX8_looks s m args below meth c H locs 0 0 Q (F0 m 390 ls [.int y2_119]) := by
                intro H locs ls hF hP hD hS hl
                rw [hjd390] at hF
                refine lv_iconst (v := 0) hx hb dX8_looks_390 (by decide) ?_
                exact hj391 0 H locs ls hF hP hD hS (lv_sub hl [0, 1, 2, 3, 4, 5, 6] rfl)
              clear hjd390
              refine lv_if_eq (tgt := 390) hx hb dX8_looks_371 (by decide) (fun c22 => ?_) (fun c22 => ?_)
              · have hF := m_pos c22 hF
                exact hj390 H locs ls hF hP hD hS (lv_sub hl [3, 5, 6, 1, 7, 2, 0] rfl)
              · have hF := m_neg c22 hF
                refine lv_iload hx hb dX8_looks_374 (lv_at hl 2 rfl) ?_
                refine lv_sipush (v := (-200)) hx hb dX8_looks_376 (by decide) ?_
                refine lv_icmp_le (tgt := 390) hx hb dX8_looks_379 (by decide) (fun c23 => ?_) (fun c23 => ?_)
                · have hF := m_pos c23 hF
                  exact hj390 H locs ls hF hP hD hS (lv_sub hl [3, 5, 6, 1, 7, 2, 0] rfl)
                · have hF := m_neg c23 hF
                  refine lv_bipush (v := (-10)) hx hb dX8_looks_382 (by decide) ?_
                  refine lv_iload hx hb dX8_looks_384 (lv_at hl 2 rfl) ?_
                  refine lv_isub hx hb dX8_looks_386 ?_
                  refine lv_goto (tgt := 391) hx hb dX8_looks_387 (by decide) ?_
                  exact hj391 ((-10) - ((Model_s wy_119) (y6_119).toNatClampNeg)) H locs ls hF hP hD hS (lv_sub hl [3, 5, 6, 1, 7, 2, 0] rfl)
            · have hF := m_neg c18 hF
              refine lv_iinc (v := (y5_119 + (-1))) (lv' := [(5, .int (y5_119 + (-1))), (7, .int ((Model_s wy_119) (y6_119).toNatClampNeg)), (0, .ref (Modela_self a)), (2, .int y2_119), (3, .int t12), (4, .int (226 + (140 * ((Model_s v) (26 : Int32).toNatClampNeg)))), (6, .int y6_119)]) hx hb dX8_looks_278 hl (k := 5) rfl rfl (by decide) rfl (fun ls hl => ?_)
              refine lv_aload_n hx hb dX8_looks_281 rfl (lv_at hl 2 rfl) ?_
              refine va_get (D := E.1) (ci := 8) (v := .ref (Modela_truths a)) (C := RX8) (T := TX8) (N := 20) hx hb hts k1 hown hK hP 0 rfl rfl 11 (by decide) k3 (fun _ h9 => h9) rfl dX8_looks_282 ?_
              refine lv_iload hx hb dX8_looks_285 (lv_at hl 0 rfl) ?_
              refine lv_iconst (v := 1) hx hb dX8_looks_287 (by decide) ?_
              refine lv_isub hx hb dX8_looks_288 ?_
              refine lv_iload hx hb dX8_looks_289 (lv_at hl 1 rfl) ?_
              refine lv_bipush (v := (-2)) hx hb dX8_looks_291 (by decide) ?_
              obtain ⟨j353, hjd353, hF⟩ := m_jp hF
              have hj353 : ∀ (z0_353 : Int32) (H : Heap) (locs : List Loc) (ls : Array Slot), j353 z0_353 = some t → va_P E.1 vwCl (Model_c E a wy_119) H → va_D A (Model_c E a wy_119) → va_S A s.heap H locs → lv_has ls 11 [(0, .ref (Modela_self a)), (2, .int y2_119), (3, .int t12), (4, .int (226 + (140 * ((Model_s v) (26 : Int32).toNatClampNeg)))), (5, .int (y5_119 + (-1))), (6, .int y6_119)] → W p l e_ rmX8_looks s m args below meth c H locs 0 0 Q (F0 m 353 ls [.int z0_353, .int ((y5_119 + (-1)) - 1), .ref (Modela_truths a)]) := by
                intro z0_353 H locs ls hF hP hD hS hl
                rw [hjd353] at hF
                obtain ⟨h24, hF⟩ := m_chk hF
                refine va_zast (f := (Model_truths wy_119)) hx hb hK hP hD hS 5 2 rfl rfl (mIn_ok h24) dX8_looks_353 (fun H locs hP hD hS => ?_)
                have hP : va_P E.1 vwCl (Model_c E a (Model_truths_s wy_119 (upd (Model_truths wy_119) (((y5_119 + (-1)) - 1)).toNatClampNeg (vp_nar .boolean z0_353)))) H := hP
                have hD : va_D A (Model_c E a (Model_truths_s wy_119 (upd (Model_truths wy_119) (((y5_119 + (-1)) - 1)).toNatClampNeg (vp_nar .boolean z0_353)))) := hD
                refine lv_goto (tgt := 419) hx hb dX8_looks_354 (by decide) ?_
                exact hj419 y2_119 (y5_119 + (-1)) (Model_truths_s wy_119 (upd (Model_truths wy_119) (((y5_119 + (-1)) - 1)).toNatClampNeg (vp_nar .boolean z0_353))) H locs ls hF hP hD hS (lv_sub hl [0, 1, 2, 3, 4, 5] rfl)
              clear hjd353
              refine lv_icmp_ne (tgt := 326) hx hb dX8_looks_293 (by decide) (fun c25 => ?_) (fun c25 => ?_)
              · have hF := m_pos c25 hF
                refine lv_aload_n hx hb dX8_looks_326 rfl (lv_at hl 2 rfl) ?_
                refine va_get (D := E.1) (ci := 8) (v := .ref (Modela_truths a)) (C := RX8) (T := TX8) (N := 20) hx hb hts k1 hown hK hP 0 rfl rfl 11 (by decide) k3 (fun _ h9 => h9) rfl dX8_looks_327 ?_
                refine lv_iload hx hb dX8_looks_330 (lv_at hl 0 rfl) ?_
                refine lv_iconst (v := 1) hx hb dX8_looks_332 (by decide) ?_
                refine lv_isub hx hb dX8_looks_333 ?_
                obtain ⟨h26, hF⟩ := m_chk hF
                refine va_zald (f := (Model_truths wy_119)) hx hb hK hP 5 2 rfl rfl (mIn_ok h26) dX8_looks_334 ?_
                refine W.eq (g2 := F0 m 335 ls [.int ((Model_truths wy_119) (((y5_119 + (-1)) - 1)).toNatClampNeg), .int ((y5_119 + (-1)) - 1), .ref (Modela_truths a)]) rfl ?_
                obtain ⟨j348, hjd348, hF⟩ := m_jp hF
                have hj348 : ∀ (H : Heap) (locs : List Loc) (ls : Array Slot), j348 () = some t → va_P E.1 vwCl (Model_c E a wy_119) H → va_D A (Model_c E a wy_119) → va_S A s.heap H locs → lv_has ls 11 [(0, .ref (Modela_self a)), (2, .int y2_119), (3, .int t12), (4, .int (226 + (140 * ((Model_s v) (26 : Int32).toNatClampNeg)))), (5, .int (y5_119 + (-1))), (6, .int y6_119)] → W p l e_ rmX8_looks s m args below meth c H locs 0 0 Q (F0 m 348 ls [.int ((y5_119 + (-1)) - 1), .ref (Modela_truths a)]) := by
                  intro H locs ls hF hP hD hS hl
                  rw [hjd348] at hF
                  refine lv_iconst (v := 1) hx hb dX8_looks_348 (by decide) ?_
                  refine lv_goto (tgt := 353) hx hb dX8_looks_349 (by decide) ?_
                  exact hj353 1 H locs ls hF hP hD hS (lv_sub hl [0, 1, 2, 3, 4, 5] rfl)
                clear hjd348
                refine lv_if_ne (tgt := 348) hx hb dX8_looks_335 (by decide) (fun c27 => ?_) (fun c27 => ?_)
                · have hF := m_pos c27 hF
                  exact hj348 H locs ls hF hP hD hS (lv_sub hl [2, 3, 4, 5, 0, 6] rfl)
                · have hF := m_neg (fun n9 => n9 c27) hF
                  refine lv_aload_n hx hb dX8_looks_338 rfl (lv_at hl 2 rfl) ?_
                  refine va_get (D := E.1) (ci := 8) (v := .ref (Modela_truths a)) (C := RX8) (T := TX8) (N := 20) hx hb hts k1 hown hK hP 0 rfl rfl 11 (by decide) k3 (fun _ h9 => h9) rfl dX8_looks_339 ?_
                  refine lv_iload hx hb dX8_looks_342 (lv_at hl 0 rfl) ?_
                  obtain ⟨h28, hF⟩ := m_chk hF
                  refine va_zald (f := (Model_truths wy_119)) hx hb hK hP 5 2 rfl rfl (mIn_ok h28) dX8_looks_344 ?_
                  refine W.eq (g2 := F0 m 345 ls [.int ((Model_truths wy_119) ((y5_119 + (-1))).toNatClampNeg), .int ((y5_119 + (-1)) - 1), .ref (Modela_truths a)]) rfl ?_
                  refine lv_if_eq (tgt := 352) hx hb dX8_looks_345 (by decide) (fun c29 => ?_) (fun c29 => ?_)
                  · have hF := m_pos c29 hF
                    refine lv_iconst (v := 0) hx hb dX8_looks_352 (by decide) ?_
                    exact hj353 0 H locs ls hF hP hD hS (lv_sub hl [2, 3, 4, 5, 0, 6] rfl)
                  · have hF := m_neg c29 hF
                    exact hj348 H locs ls hF hP hD hS (lv_sub hl [2, 3, 4, 5, 0, 6] rfl)
              · have hF := m_neg (fun n9 => n9 c25) hF
                refine lv_aload_n hx hb dX8_looks_296 rfl (lv_at hl 2 rfl) ?_
                refine va_get (D := E.1) (ci := 8) (v := .ref (Modela_truths a)) (C := RX8) (T := TX8) (N := 20) hx hb hts k1 hown hK hP 0 rfl rfl 11 (by decide) k3 (fun _ h9 => h9) rfl dX8_looks_297 ?_
                refine lv_iload hx hb dX8_looks_300 (lv_at hl 0 rfl) ?_
                refine lv_iconst (v := 1) hx hb dX8_looks_302 (by decide) ?_
                refine lv_isub hx hb dX8_looks_303 ?_
                obtain ⟨h30, hF⟩ := m_chk hF
                refine va_zald (f := (Model_truths wy_119)) hx hb hK hP 5 2 rfl rfl (mIn_ok h30) dX8_looks_304 ?_
                refine W.eq (g2 := F0 m 305 ls [.int ((Model_truths wy_119) (((y5_119 + (-1)) - 1)).toNatClampNeg), .int ((y5_119 + (-1)) - 1), .ref (Modela_truths a)]) rfl ?_
                obtain ⟨j322, hjd322, hF⟩ := m_jp hF
                have hj322 : ∀ (H : Heap) (locs : List Loc) (ls : Array Slot), j322 () = some t → va_P E.1 vwCl (Model_c E a wy_119) H → va_D A (Model_c E a wy_119) → va_S A s.heap H locs → lv_has ls 11 [(0, .ref (Modela_self a)), (2, .int y2_119), (3, .int t12), (4, .int (226 + (140 * ((Model_s v) (26 : Int32).toNatClampNeg)))), (5, .int (y5_119 + (-1))), (6, .int y6_119)] → W p l e_ rmX8_looks s m args below meth c H locs 0 0 Q (F0 m 322 ls [.int ((y5_119 + (-1)) - 1), .ref (Modela_truths a)]) := by
                  intro H locs ls hF hP hD hS hl
                  rw [hjd322] at hF
                  refine lv_iconst (v := 0) hx hb dX8_looks_322 (by decide) ?_
                  refine lv_goto (tgt := 353) hx hb dX8_looks_323 (by decide) ?_
                  exact hj353 0 H locs ls hF hP hD hS (lv_sub hl [0, 1, 2, 3, 4, 5] rfl)
                clear hjd322
                refine lv_if_eq (tgt := 322) hx hb dX8_looks_305 (by decide) (fun c31 => ?_) (fun c31 => ?_)
                · have hF := m_pos c31 hF
                  exact hj322 H locs ls hF hP hD hS (lv_sub hl [2, 3, 4, 5, 0, 6] rfl)
                · have hF := m_neg c31 hF
                  refine lv_aload_n hx hb dX8_looks_308 rfl (lv_at hl 2 rfl) ?_
                  refine va_get (D := E.1) (ci := 8) (v := .ref (Modela_truths a)) (C := RX8) (T := TX8) (N := 20) hx hb hts k1 hown hK hP 0 rfl rfl 11 (by decide) k3 (fun _ h9 => h9) rfl dX8_looks_309 ?_
                  refine lv_iload hx hb dX8_looks_312 (lv_at hl 0 rfl) ?_
                  obtain ⟨h32, hF⟩ := m_chk hF
                  refine va_zald (f := (Model_truths wy_119)) hx hb hK hP 5 2 rfl rfl (mIn_ok h32) dX8_looks_314 ?_
                  refine W.eq (g2 := F0 m 315 ls [.int ((Model_truths wy_119) ((y5_119 + (-1))).toNatClampNeg), .int ((y5_119 + (-1)) - 1), .ref (Modela_truths a)]) rfl ?_
                  refine lv_if_eq (tgt := 322) hx hb dX8_looks_315 (by decide) (fun c33 => ?_) (fun c33 => ?_)
                  · have hF := m_pos c33 hF
                    exact hj322 H locs ls hF hP hD hS (lv_sub hl [2, 3, 4, 5, 0, 6] rfl)
                  · have hF := m_neg c33 hF
                    refine lv_iconst (v := 1) hx hb dX8_looks_318 (by decide) ?_
                    refine lv_goto (tgt := 353) hx hb dX8_looks_319 (by decide) ?_
                    exact hj353 1 H locs ls hF hP hD hS (lv_sub hl [2, 3, 4, 5, 0, 6] rfl)
          · have hF := m_neg (fun n9 => n9 c17) hF
            refine lv_aload_n hx hb dX8_looks_242 rfl (lv_at hl 1 rfl) ?_
            refine va_get (D := E.1) (ci := 8) (v := .ref (Modela_truths a)) (C := RX8) (T := TX8) (N := 20) hx hb hts k1 hown hK hP 0 rfl rfl 11 (by decide) k3 (fun _ h9 => h9) rfl dX8_looks_243 ?_
            refine lv_iload hx hb dX8_looks_246 (lv_at hl 5 rfl) ?_
            refine lv_iconst (v := 1) hx hb dX8_looks_248 (by decide) ?_
            refine lv_isub hx hb dX8_looks_249 ?_
            refine lv_aload_n hx hb dX8_looks_250 rfl (lv_at hl 1 rfl) ?_
            refine va_get (D := E.1) (ci := 8) (v := .ref (Modela_truths a)) (C := RX8) (T := TX8) (N := 20) hx hb hts k1 hown hK hP 0 rfl rfl 11 (by decide) k3 (fun _ h9 => h9) rfl dX8_looks_251 ?_
            refine lv_iload hx hb dX8_looks_254 (lv_at hl 5 rfl) ?_
            refine lv_iconst (v := 1) hx hb dX8_looks_256 (by decide) ?_
            refine lv_isub hx hb dX8_looks_257 ?_
            obtain ⟨h34, hF⟩ := m_chk hF
            refine va_zald (f := (Model_truths wy_119)) hx hb hK hP 5 2 rfl rfl (mIn_ok h34) dX8_looks_258 ?_
            refine W.eq (g2 := F0 m 259 ls [.int ((Model_truths wy_119) ((y5_119 - 1)).toNatClampNeg), .int (y5_119 - 1), .ref (Modela_truths a)]) rfl ?_
            obtain ⟨j267, hjd267, hF⟩ := m_jp hF
            have hj267 : ∀ (z0_267 : Int32) (H : Heap) (locs : List Loc) (ls : Array Slot), j267 z0_267 = some t → va_P E.1 vwCl (Model_c E a wy_119) H → va_D A (Model_c E a wy_119) → va_S A s.heap H locs → lv_has ls 11 [(0, .ref (Modela_self a)), (2, .int y2_119), (3, .int t12), (4, .int (226 + (140 * ((Model_s v) (26 : Int32).toNatClampNeg)))), (5, .int y5_119), (6, .int y6_119)] → W p l e_ rmX8_looks s m args below meth c H locs 0 0 Q (F0 m 267 ls [.int z0_267, .int (y5_119 - 1), .ref (Modela_truths a)]) := by
              intro z0_267 H locs ls hF hP hD hS hl
              rw [hjd267] at hF
              obtain ⟨h35, hF⟩ := m_chk hF
              refine va_zast (f := (Model_truths wy_119)) hx hb hK hP hD hS 5 2 rfl rfl (mIn_ok h35) dX8_looks_267 (fun H locs hP hD hS => ?_)
              have hP : va_P E.1 vwCl (Model_c E a (Model_truths_s wy_119 (upd (Model_truths wy_119) ((y5_119 - 1)).toNatClampNeg (vp_nar .boolean z0_267)))) H := hP
              have hD : va_D A (Model_c E a (Model_truths_s wy_119 (upd (Model_truths wy_119) ((y5_119 - 1)).toNatClampNeg (vp_nar .boolean z0_267)))) := hD
              refine lv_goto (tgt := 419) hx hb dX8_looks_268 (by decide) ?_
              exact hj419 y2_119 y5_119 (Model_truths_s wy_119 (upd (Model_truths wy_119) ((y5_119 - 1)).toNatClampNeg (vp_nar .boolean z0_267))) H locs ls hF hP hD hS (lv_sub hl [0, 1, 2, 3, 4, 5] rfl)
            clear hjd267
            refine lv_if_ne (tgt := 266) hx hb dX8_looks_259 (by decide) (fun c36 => ?_) (fun c36 => ?_)
            · have hF := m_pos c36 hF
              refine lv_iconst (v := 0) hx hb dX8_looks_266 (by decide) ?_
              exact hj267 0 H locs ls hF hP hD hS (lv_sub hl [1, 2, 3, 4, 5, 6] rfl)
            · have hF := m_neg (fun n9 => n9 c36) hF
              refine lv_iconst (v := 1) hx hb dX8_looks_262 (by decide) ?_
              refine lv_goto (tgt := 267) hx hb dX8_looks_263 (by decide) ?_
              exact hj267 1 H locs ls hF hP hD hS (lv_sub hl [1, 2, 3, 4, 5, 6] rfl)
        · have hF := m_neg c16 hF
          refine lv_aload_n hx hb dX8_looks_142 rfl (lv_at hl 1 rfl) ?_
          refine va_get (D := E.1) (ci := 8) (v := .ref (Modela_by a)) (C := RX8) (T := TX8) (N := 20) hx hb hts k1 hown hK hP 0 rfl rfl 10 (by decide) k0 (fun _ h9 => h9) rfl dX8_looks_143 ?_
          refine lv_iload hx hb dX8_looks_146 (lv_at hl 0 rfl) ?_
          refine lv_bipush (v := 8) hx hb dX8_looks_148 (by decide) ?_
          refine lv_irem hx hb dX8_looks_150 (by decide) ?_
          refine W.eq (g2 := F0 m 151 ls [.int (mRem ((Model_s wy_119) (y6_119).toNatClampNeg) 8), .ref (Modela_by a)]) rfl ?_
          obtain ⟨h37, hF⟩ := m_chk hF
          refine va_iald (f := (Model_by wy_119)) hx hb hK hP 4 1 rfl rfl (mIn_ok h37) dX8_looks_151 ?_
          refine W.eq (g2 := F0 m 152 ls [.int ((Model_by wy_119) ((mRem ((Model_s wy_119) (y6_119).toNatClampNeg) 8)).toNatClampNeg)]) rfl ?_
          refine lv_istore (lv' := [(8, .int ((Model_by wy_119) ((mRem ((Model_s wy_119) (y6_119).toNatClampNeg) 8)).toNatClampNeg)), (7, .int ((Model_s wy_119) (y6_119).toNatClampNeg)), (0, .ref (Modela_self a)), (2, .int y2_119), (3, .int t12), (4, .int (226 + (140 * ((Model_s v) (26 : Int32).toNatClampNeg)))), (5, .int y5_119), (6, .int y6_119)]) hx hb dX8_looks_152 hl (by decide) rfl (fun ls hl => ?_)
          refine lv_iload hx hb dX8_looks_154 (lv_at hl 1 rfl) ?_
          refine lv_bipush (v := 8) hx hb dX8_looks_156 (by decide) ?_
          refine lv_idiv hx hb dX8_looks_158 (by decide) ?_
          refine lv_iconst (v := 4) hx hb dX8_looks_159 (by decide) ?_
          refine lv_irem hx hb dX8_looks_160 (by decide) ?_
          refine W.eq (g2 := F0 m 161 ls [.int (mRem (((Model_s wy_119) (y6_119).toNatClampNeg) / 8) 4)]) rfl ?_
          refine lv_istore (lv' := [(9, .int (mRem (((Model_s wy_119) (y6_119).toNatClampNeg) / 8) 4)), (8, .int ((Model_by wy_119) ((mRem ((Model_s wy_119) (y6_119).toNatClampNeg) 8)).toNatClampNeg)), (7, .int ((Model_s wy_119) (y6_119).toNatClampNeg)), (0, .ref (Modela_self a)), (2, .int y2_119), (3, .int t12), (4, .int (226 + (140 * ((Model_s v) (26 : Int32).toNatClampNeg)))), (5, .int y5_119), (6, .int y6_119)]) hx hb dX8_looks_161 hl (by decide) rfl (fun ls hl => ?_)
          refine lv_iload hx hb dX8_looks_163 (lv_at hl 2 rfl) ?_
          refine lv_bipush (v := 32) hx hb dX8_looks_165 (by decide) ?_
          refine lv_idiv hx hb dX8_looks_167 (by decide) ?_
          refine lv_istore (lv' := [(10, .int (((Model_s wy_119) (y6_119).toNatClampNeg) / 32)), (9, .int (mRem (((Model_s wy_119) (y6_119).toNatClampNeg) / 8) 4)), (8, .int ((Model_by wy_119) ((mRem ((Model_s wy_119) (y6_119).toNatClampNeg) 8)).toNatClampNeg)), (7, .int ((Model_s wy_119) (y6_119).toNatClampNeg)), (0, .ref (Modela_self a)), (2, .int y2_119), (3, .int t12), (4, .int (226 + (140 * ((Model_s v) (26 : Int32).toNatClampNeg)))), (5, .int y5_119), (6, .int y6_119)]) hx hb dX8_looks_168 hl (by decide) rfl (fun ls hl => ?_)
          refine lv_aload_n hx hb dX8_looks_170 rfl (lv_at hl 4 rfl) ?_
          refine va_get (D := E.1) (ci := 8) (v := .ref (Modela_truths a)) (C := RX8) (T := TX8) (N := 20) hx hb hts k1 hown hK hP 0 rfl rfl 11 (by decide) k3 (fun _ h9 => h9) rfl dX8_looks_171 ?_
          refine lv_iload hx hb dX8_looks_174 (lv_at hl 8 rfl) ?_
          refine lv_iload hx hb dX8_looks_176 (lv_at hl 1 rfl) ?_
          obtain ⟨j229, hjd229, hF⟩ := m_jp hF
          have hj229 : ∀ (z0_229 : Int32) (H : Heap) (locs : List Loc) (ls : Array Slot), j229 z0_229 = some t → va_P E.1 vwCl (Model_c E a wy_119) H → va_D A (Model_c E a wy_119) → va_S A s.heap H locs → lv_has ls 11 [(0, .ref (Modela_self a)), (2, .int y2_119), (3, .int t12), (4, .int (226 + (140 * ((Model_s v) (26 : Int32).toNatClampNeg)))), (5, .int y5_119), (6, .int y6_119)] → W p l e_ rmX8_looks s m args below meth c H locs 0 0 Q (F0 m 229 ls [.int z0_229, .int y5_119, .ref (Modela_truths a)]) := by
            intro z0_229 H locs ls hF hP hD hS hl
            rw [hjd229] at hF
            obtain ⟨h38, hF⟩ := m_chk hF
            refine va_zast (f := (Model_truths wy_119)) hx hb hK hP hD hS 5 2 rfl rfl (mIn_ok h38) dX8_looks_229 (fun H locs hP hD hS => ?_)
            have hP : va_P E.1 vwCl (Model_c E a (Model_truths_s wy_119 (upd (Model_truths wy_119) (y5_119).toNatClampNeg (vp_nar .boolean z0_229)))) H := hP
            have hD : va_D A (Model_c E a (Model_truths_s wy_119 (upd (Model_truths wy_119) (y5_119).toNatClampNeg (vp_nar .boolean z0_229)))) := hD
            refine lv_iinc (v := (y5_119 + 1)) (lv' := [(5, .int (y5_119 + 1)), (0, .ref (Modela_self a)), (2, .int y2_119), (3, .int t12), (4, .int (226 + (140 * ((Model_s v) (26 : Int32).toNatClampNeg)))), (6, .int y6_119)]) hx hb dX8_looks_230 hl (k := 4) rfl rfl (by decide) rfl (fun ls hl => ?_)
            refine lv_goto (tgt := 419) hx hb dX8_looks_233 (by decide) ?_
            exact hj419 y2_119 (y5_119 + 1) (Model_truths_s wy_119 (upd (Model_truths wy_119) (y5_119).toNatClampNeg (vp_nar .boolean z0_229))) H locs ls hF hP hD hS (lv_sub hl [1, 2, 3, 4, 0, 5] rfl)
          clear hjd229
          refine lv_if_ne (tgt := 196) hx hb dX8_looks_178 (by decide) (fun c39 => ?_) (fun c39 => ?_)
          · have hF := m_pos c39 hF
            refine lv_iload hx hb dX8_looks_196 (lv_at hl 1 rfl) ?_
            refine lv_iconst (v := 1) hx hb dX8_looks_198 (by decide) ?_
            refine lv_icmp_ne (tgt := 217) hx hb dX8_looks_199 (by decide) (fun c40 => ?_) (fun c40 => ?_)
            · have hF := m_pos c40 hF
              refine lv_iload hx hb dX8_looks_217 (lv_at hl 2 rfl) ?_
              refine lv_iload hx hb dX8_looks_219 (lv_at hl 0 rfl) ?_
              refine lv_icmp_le (tgt := 228) hx hb dX8_looks_221 (by decide) (fun c41 => ?_) (fun c41 => ?_)
              · have hF := m_pos c41 hF
                refine lv_iconst (v := 0) hx hb dX8_looks_228 (by decide) ?_
                exact hj229 0 H locs ls hF hP hD hS (lv_sub hl [4, 5, 6, 7, 8, 9] rfl)
              · have hF := m_neg c41 hF
                refine lv_iconst (v := 1) hx hb dX8_looks_224 (by decide) ?_
                refine lv_goto (tgt := 229) hx hb dX8_looks_225 (by decide) ?_
                exact hj229 1 H locs ls hF hP hD hS (lv_sub hl [4, 5, 6, 7, 8, 9] rfl)
            · have hF := m_neg (fun n9 => n9 c40) hF
              refine lv_iload hx hb dX8_looks_202 (lv_at hl 2 rfl) ?_
              refine lv_iload hx hb dX8_looks_204 (lv_at hl 0 rfl) ?_
              refine lv_icmp_ne (tgt := 213) hx hb dX8_looks_206 (by decide) (fun c42 => ?_) (fun c42 => ?_)
              · have hF := m_pos c42 hF
                refine lv_iconst (v := 0) hx hb dX8_looks_213 (by decide) ?_
                refine lv_goto (tgt := 229) hx hb dX8_looks_214 (by decide) ?_
                exact hj229 0 H locs ls hF hP hD hS (lv_sub hl [4, 5, 6, 7, 8, 9] rfl)
              · have hF := m_neg (fun n9 => n9 c42) hF
                refine lv_iconst (v := 1) hx hb dX8_looks_209 (by decide) ?_
                refine lv_goto (tgt := 229) hx hb dX8_looks_210 (by decide) ?_
                exact hj229 1 H locs ls hF hP hD hS (lv_sub hl [4, 5, 6, 7, 8, 9] rfl)
          · have hF := m_neg (fun n9 => n9 c39) hF
            refine lv_iload hx hb dX8_looks_181 (lv_at hl 2 rfl) ?_
            refine lv_iload hx hb dX8_looks_183 (lv_at hl 0 rfl) ?_
            refine lv_icmp_ge (tgt := 192) hx hb dX8_looks_185 (by decide) (fun c43 => ?_) (fun c43 => ?_)
            · have hF := m_pos c43 hF
              refine lv_iconst (v := 0) hx hb dX8_looks_192 (by decide) ?_
              refine lv_goto (tgt := 229) hx hb dX8_looks_193 (by decide) ?_
              exact hj229 0 H locs ls hF hP hD hS (lv_sub hl [4, 5, 6, 7, 8, 9] rfl)
            · have hF := m_neg c43 hF
              refine lv_iconst (v := 1) hx hb dX8_looks_188 (by decide) ?_
              refine lv_goto (tgt := 229) hx hb dX8_looks_189 (by decide) ?_
              exact hj229 1 H locs ls hF hP hD hS (lv_sub hl [4, 5, 6, 7, 8, 9] rfl)
  exact hL119 m_N 0 0 (226 + (140 * ((Model_s v) (26 : Int32).toNatClampNeg))) (Model_by_s v (upd (upd (upd (upd (upd (upd (Model_by v) (0 : Int32).toNatClampNeg x0) (1 : Int32).toNatClampNeg ((Model_s v) ((27 + x0)).toNatClampNeg)) (2 : Int32).toNatClampNeg ((Model_s v) ((33 + x0)).toNatClampNeg)) (3 : Int32).toNatClampNeg ((Model_s v) ((39 + x0)).toNatClampNeg)) (4 : Int32).toNatClampNeg (((Model_s v) ((2 + x0)).toNatClampNeg) / 10)) (5 : Int32).toNatClampNeg (mRem ((Model_s v) (0 : Int32).toNatClampNeg) 10))) H locs ls hF hP hD hS (lv_sub hl [5, 4, 3, 2, 1, 0] rfl)

def fn_X8_zealOf (v : ModelV) (x0 : Int32) : Option (Int32 × ModelV) :=
  (Option.bind (fn_X8_looks v x0) (fun t1 => (if 0 ≤ (5 + t1.1) then some ((5 + t1.1), t1.2) else some (0, t1.2))))
abbrev rmX8_zealOf : Room := { frames := 2, cells := 0, slots := 0, locals := 52 }
set_option maxRecDepth 100000 in
set_option maxHeartbeats 400000 in
theorem c_X8_zealOf (l : Launch) (E : mE) (a : ModelA) (v : ModelV) (x0 : Int32) (t : (Int32 × ModelV)) (hF : fn_X8_zealOf v x0 = some t) (sz : Nat) : Met l yX8_zealOf wsX8_zealOf rmX8_zealOf (mPm E [.ref (Modela_self a), .int x0] sz ((Model_c E a v)) (([] : va_W))) (mSm E (some (.int t.1)) ((Model_c E a t.2)) (va_A ((Model_c E a v)) sz)) 0 0 (va_A ((Model_c E a v)) sz) := by
  refine mOfM (cc := cX8_zealOf) (maxL := 3) (ret := (some .int)) (by decide) rfl (Nat.le_of_ble_eq_true rfl) ?_
  intro p e_ s m args below meth c Q A hQ CC hr hlocks hin hA hP hD hKN hGl hR0 hRA ls hl
  have hS : va_S A s.heap s.heap [] := va_S.rf
  have hK := hKN.1
  have hx := CC.1
  have hb := CC.2.1
  have hml := CC.2.2.1
  have hown : s.vm.findClass RX8 = some m.cls := CC.2.2.2.1
  have hts := CC.2.2.2.2
  have hl : lv_has ls 3 [(0, .ref (Modela_self a)), (1, .int x0)] := hl
  have hP : va_P E.1 vwCl (Model_c E a v) s.heap := hP
  obtain ⟨H, hH⟩ : ∃ H, H = s.heap := ⟨_, rfl⟩
  obtain ⟨locs, hlc⟩ : ∃ z : List Loc, z = [] := ⟨_, rfl⟩
  rw [← hH] at hP
  rw [← hlc] at hS
  have hS : va_S A s.heap H locs := by rw [hH]; exact hS
  rw [← hH, ← hlc]
  unfold fn_X8_zealOf at hF
  refine lv_iconst (v := 5) hx hb dX8_zealOf_0 (by decide) ?_
  refine lv_aload_n hx hb dX8_zealOf_1 rfl (lv_at hl 0 rfl) ?_
  refine lv_iload_n hx hb dX8_zealOf_2 rfl (lv_at hl 1 rfl) ?_
  obtain ⟨t1, ht1, hF⟩ := m_bnd hF
  have hPc := hP
  have hDc := hD
  have hFc := va_free (wc := (Model_c E a v)) hD hS hA [0, 1, 2, 3, 4, 5, 6, 7] rfl
  refine mVM (ci := 8) (n := 1) (rest := [.int 5]) (As := [.int x0]) CC hKN hGl (c_X8_looks l E a v x0 t1 ht1 _) gX8_zealOf_X8_looks rfl ⟨rfl, rfl⟩ (by decide +kernel) ⟨Nat.le_of_ble_eq_true rfl, Nat.le_of_ble_eq_true rfl⟩ hPc hDc m_nil m_nilA hS hFc rfl rfl rfl rfl hl.1 rfl (Nat.le_of_ble_eq_true rfl) ⟨Nat.zero_le _, Nat.zero_le _⟩ dX8_zealOf_3 (fun H1 locs hP1 hD1 hz1 hk1 hS => ?_)
  have hP : va_P E.1 vwCl (Model_c E a t1.2) H1 := hP1
  have hD : va_D A (Model_c E a t1.2) := m_back hD1 hFc
  generalize H1 = H at hP hS ⊢
  refine W.eq (g2 := F0 m 6 ls [.int t1.1, .int 5]) rfl ?_
  refine lv_iadd hx hb dX8_zealOf_6 ?_
  refine lv_istore_n (lv' := [(2, .int (5 + t1.1)), (0, .ref (Modela_self a)), (1, .int x0)]) hx hb dX8_zealOf_7 rfl hl (by decide) rfl (fun ls hl => ?_)
  refine lv_iload_n hx hb dX8_zealOf_8 rfl (lv_at hl 0 rfl) ?_
  refine lv_if_ge (tgt := 16) hx hb dX8_zealOf_9 (by decide) (fun c2 => ?_) (fun c2 => ?_)
  · have hF := m_pos c2 hF
    refine lv_iload_n hx hb dX8_zealOf_16 rfl (lv_at hl 0 rfl) ?_
    have hF := Option.some.inj hF
    subst hF
    rw [hQ]
    exact W.iret hx hb hr (fun t ht _ => ⟨⟨rfl, by rw [ht]; exact hP, hD⟩, hS.F ht⟩) hS.2.2 dX8_zealOf_17
  · have hF := m_neg c2 hF
    refine lv_iconst (v := 0) hx hb dX8_zealOf_12 (by decide) ?_
    refine lv_goto (tgt := 17) hx hb dX8_zealOf_13 (by decide) ?_
    have hF := Option.some.inj hF
    subst hF
    rw [hQ]
    exact W.iret hx hb hr (fun t ht _ => ⟨⟨rfl, by rw [ht]; exact hP, hD⟩, hS.F ht⟩) hS.2.2 dX8_zealOf_17

def st_X8_manyIn_4 (v : ModelV) (rec4 : Int32 → Int32 → Option Int32) (y1_4 : Int32) (y2_4 : Int32) : Option Int32 :=
  (if mIn 20 926 = true then (if ((Model_s v) (20 : Int32).toNatClampNeg) ≤ y2_4 then some y1_4 else (if mIn (14 + y2_4) 926 = true then jp (fun (z0_33 : Int32) => rec4 (y1_4 + z0_33) (y2_4 + 1)) (fun j33 => (if ¬ ((Model_s v) ((14 + y2_4)).toNatClampNeg) = 0 then j33 0 else j33 1)) else none)) else none)
def lp_X8_manyIn_4 (v : ModelV) : Nat → Int32 → Int32 → Option Int32
  | 0 => fun _ _ => none
  | n + 1 => st_X8_manyIn_4 v (lp_X8_manyIn_4 v n)
def fn_X8_manyIn (v : ModelV) : Option Int32 :=
  lp_X8_manyIn_4 v m_N 0 0
abbrev rmX8_manyIn : Room := { frames := 0, cells := 0, slots := 0, locals := 0 }
set_option maxRecDepth 100000 in
set_option maxHeartbeats 400000 in
theorem c_X8_manyIn (l : Launch) (E : mE) (a : ModelA) (v : ModelV) (t : Int32) (hF : fn_X8_manyIn v = some t) : Met l yX8_manyIn wsX8_manyIn rmX8_manyIn (mPp E [.ref (Modela_self a)] (Model_c E a v)) (mSp (some (.int t))) 0 0 (fun _ => False) := by
  refine mOfP (cc := cX8_manyIn) (maxL := 3) (ret := (some .int)) (by decide) rfl (Nat.le_of_ble_eq_true rfl) ?_
  intro p e_ s m args below meth c Q hQ CC hr hlocks hP hKN hGl ls hl
  have hS : va_S (fun _ => False) s.heap s.heap [] := va_S.rf
  have hK := hKN.1
  have hx := CC.1
  have hb := CC.2.1
  have hml := CC.2.2.1
  have hown : s.vm.findClass RX8 = some m.cls := CC.2.2.2.1
  have hts := CC.2.2.2.2
  have hl : lv_has ls 3 [(0, .ref (Modela_self a))] := hl
  have k0 := hts (.fieldLink RX8 9 "OneDidAllModel" "s" "[I") (by decide +kernel)
  have k1 := (show ∀ w ∈ u_ws RX8 TX8 20, w ∈ wsX8_manyIn by decide +kernel)
  unfold fn_X8_manyIn at hF
  refine lv_iconst (v := 0) hx hb dX8_manyIn_0 (by decide) ?_
  refine lv_istore_n (lv' := [(1, .int 0), (0, .ref (Modela_self a))]) hx hb dX8_manyIn_1 rfl hl (by decide) rfl (fun ls hl => ?_)
  refine lv_iconst (v := 0) hx hb dX8_manyIn_2 (by decide) ?_
  refine lv_istore_n (lv' := [(2, .int 0), (1, .int 0), (0, .ref (Modela_self a))]) hx hb dX8_manyIn_3 rfl hl (by decide) rfl (fun ls hl => ?_)
  have hL4 : ∀ (n : Nat) (y1_4 : Int32) (y2_4 : Int32) (ls : Array Slot), lp_X8_manyIn_4 v n y1_4 y2_4 = some t → lv_has ls 3 [(0, .ref (Modela_self a)), (1, .int y1_4), (2, .int y2_4)] → W p l e_ rmX8_manyIn s m args below meth c s.heap [] 0 0 Q (F0 m 4 ls []) := by
    intro n
    induction n with
    | zero =>
      intro y1_4 y2_4 ls hF
      exact nomatch (show (none : Option Int32) = some t from hF)
    | succ n ih4 =>
      intro y1_4 y2_4 ls hF hl
      have hF : st_X8_manyIn_4 v (lp_X8_manyIn_4 v n) y1_4 y2_4 = some t := hF
      unfold st_X8_manyIn_4 at hF
      refine lv_iload_n hx hb dX8_manyIn_4 rfl (lv_at hl 2 rfl) ?_
      refine lv_aload_n hx hb dX8_manyIn_5 rfl (lv_at hl 0 rfl) ?_
      refine va_get (D := E.1) (ci := 8) (v := .ref (Modela_s a)) (C := RX8) (T := TX8) (N := 20) hx hb hts k1 hown hK hP 0 rfl rfl 1 (by decide) k0 (fun _ h9 => h9) rfl dX8_manyIn_6 ?_
      refine lv_bipush (v := 20) hx hb dX8_manyIn_9 (by decide) ?_
      obtain ⟨h1, hF⟩ := m_chk hF
      refine va_iald (f := (Model_s v)) hx hb hK hP 1 1 rfl rfl (mIn_ok h1) dX8_manyIn_11 ?_
      refine W.eq (g2 := F0 m 12 ls [.int ((Model_s v) (20 : Int32).toNatClampNeg), .int y2_4]) rfl ?_
      refine lv_icmp_ge (tgt := 41) hx hb dX8_manyIn_12 (by decide) (fun c2 => ?_) (fun c2 => ?_)
      · have hF := m_pos c2 hF
        refine lv_iload_n hx hb dX8_manyIn_41 rfl (lv_at hl 1 rfl) ?_
        have hF := Option.some.inj hF
        subst hF
        rw [hQ]
        exact W.iret hx hb hr (fun t ht _ => ⟨rfl, ht⟩) (fun _ h => by cases h) dX8_manyIn_42
      · have hF := m_neg c2 hF
        refine lv_iload_n hx hb dX8_manyIn_15 rfl (lv_at hl 1 rfl) ?_
        refine lv_aload_n hx hb dX8_manyIn_16 rfl (lv_at hl 0 rfl) ?_
        refine va_get (D := E.1) (ci := 8) (v := .ref (Modela_s a)) (C := RX8) (T := TX8) (N := 20) hx hb hts k1 hown hK hP 0 rfl rfl 1 (by decide) k0 (fun _ h9 => h9) rfl dX8_manyIn_17 ?_
        refine lv_bipush (v := 14) hx hb dX8_manyIn_20 (by decide) ?_
        refine lv_iload_n hx hb dX8_manyIn_22 rfl (lv_at hl 2 rfl) ?_
        refine lv_iadd hx hb dX8_manyIn_23 ?_
        obtain ⟨h3, hF⟩ := m_chk hF
        refine va_iald (f := (Model_s v)) hx hb hK hP 1 1 rfl rfl (mIn_ok h3) dX8_manyIn_24 ?_
        refine W.eq (g2 := F0 m 25 ls [.int ((Model_s v) ((14 + y2_4)).toNatClampNeg), .int y1_4]) rfl ?_
        obtain ⟨j33, hjd33, hF⟩ := m_jp hF
        have hj33 : ∀ (z0_33 : Int32) (ls : Array Slot), j33 z0_33 = some t → lv_has ls 3 [(0, .ref (Modela_self a)), (2, .int y2_4)] → W p l e_ rmX8_manyIn s m args below meth c s.heap [] 0 0 Q (F0 m 33 ls [.int z0_33, .int y1_4]) := by
          intro z0_33 ls hF hl
          rw [hjd33] at hF
          refine lv_iadd hx hb dX8_manyIn_33 ?_
          refine lv_istore_n (lv' := [(1, .int (y1_4 + z0_33)), (0, .ref (Modela_self a)), (2, .int y2_4)]) hx hb dX8_manyIn_34 rfl hl (by decide) rfl (fun ls hl => ?_)
          refine lv_iinc (v := (y2_4 + 1)) (lv' := [(2, .int (y2_4 + 1)), (1, .int (y1_4 + z0_33)), (0, .ref (Modela_self a))]) hx hb dX8_manyIn_35 hl (k := 2) rfl rfl (by decide) rfl (fun ls hl => ?_)
          refine lv_goto (tgt := 4) hx hb dX8_manyIn_38 (by decide) ?_
          exact ih4 (y1_4 + z0_33) (y2_4 + 1) ls hF (lv_sub hl [2, 1, 0] rfl)
        clear hjd33
        refine lv_if_ne (tgt := 32) hx hb dX8_manyIn_25 (by decide) (fun c4 => ?_) (fun c4 => ?_)
        · have hF := m_pos c4 hF
          refine lv_iconst (v := 0) hx hb dX8_manyIn_32 (by decide) ?_
          exact hj33 0 ls hF (lv_sub hl [0, 2] rfl)
        · have hF := m_neg (fun n9 => n9 c4) hF
          refine lv_iconst (v := 1) hx hb dX8_manyIn_28 (by decide) ?_
          refine lv_goto (tgt := 33) hx hb dX8_manyIn_29 (by decide) ?_
          exact hj33 1 ls hF (lv_sub hl [0, 2] rfl)
  exact hL4 m_N 0 0 ls hF (lv_sub hl [2, 1, 0] rfl)

def st_X8_moreSkilled_4 (v : ModelV) (x0 : Int32) (rec4 : Int32 → Int32 → Option Int32) (y2_4 : Int32) (y3_4 : Int32) : Option Int32 :=
  (if mIn 20 926 = true then (if ((Model_s v) (20 : Int32).toNatClampNeg) ≤ y3_4 then some y2_4 else jp (fun (z0_59 : Int32) => rec4 (y2_4 + z0_59) (y3_4 + 1)) (fun j59 => jp (fun (_ : Unit) => j59 0) (fun j58 => (if y3_4 = x0 then j58 () else (if mIn (14 + y3_4) 926 = true then (if ¬ ((Model_s v) ((14 + y3_4)).toNatClampNeg) = 0 then j58 () else (if mIn (39 + y3_4) 926 = true then (if mIn (39 + x0) 926 = true then (if ((Model_s v) ((39 + y3_4)).toNatClampNeg) ≤ ((Model_s v) ((39 + x0)).toNatClampNeg) then j58 () else j59 1) else none) else none)) else none))))) else none)
def lp_X8_moreSkilled_4 (v : ModelV) (x0 : Int32) : Nat → Int32 → Int32 → Option Int32
  | 0 => fun _ _ => none
  | n + 1 => st_X8_moreSkilled_4 v x0 (lp_X8_moreSkilled_4 v x0 n)
def fn_X8_moreSkilled (v : ModelV) (x0 : Int32) : Option Int32 :=
  lp_X8_moreSkilled_4 v x0 m_N 0 0
abbrev rmX8_moreSkilled : Room := { frames := 0, cells := 0, slots := 0, locals := 0 }
set_option maxRecDepth 100000 in
set_option maxHeartbeats 400000 in
theorem c_X8_moreSkilled (l : Launch) (E : mE) (a : ModelA) (v : ModelV) (x0 : Int32) (t : Int32) (hF : fn_X8_moreSkilled v x0 = some t) : Met l yX8_moreSkilled wsX8_moreSkilled rmX8_moreSkilled (mPp E [.ref (Modela_self a), .int x0] (Model_c E a v)) (mSp (some (.int t))) 0 0 (fun _ => False) := by
  refine mOfP (cc := cX8_moreSkilled) (maxL := 4) (ret := (some .int)) (by decide) rfl (Nat.le_of_ble_eq_true rfl) ?_
  intro p e_ s m args below meth c Q hQ CC hr hlocks hP hKN hGl ls hl
  have hS : va_S (fun _ => False) s.heap s.heap [] := va_S.rf
  have hK := hKN.1
  have hx := CC.1
  have hb := CC.2.1
  have hml := CC.2.2.1
  have hown : s.vm.findClass RX8 = some m.cls := CC.2.2.2.1
  have hts := CC.2.2.2.2
  have hl : lv_has ls 4 [(0, .ref (Modela_self a)), (1, .int x0)] := hl
  have k0 := hts (.fieldLink RX8 9 "OneDidAllModel" "s" "[I") (by decide +kernel)
  have k1 := (show ∀ w ∈ u_ws RX8 TX8 20, w ∈ wsX8_moreSkilled by decide +kernel)
  unfold fn_X8_moreSkilled at hF
  refine lv_iconst (v := 0) hx hb dX8_moreSkilled_0 (by decide) ?_
  refine lv_istore_n (lv' := [(2, .int 0), (0, .ref (Modela_self a)), (1, .int x0)]) hx hb dX8_moreSkilled_1 rfl hl (by decide) rfl (fun ls hl => ?_)
  refine lv_iconst (v := 0) hx hb dX8_moreSkilled_2 (by decide) ?_
  refine lv_istore_n (lv' := [(3, .int 0), (2, .int 0), (0, .ref (Modela_self a)), (1, .int x0)]) hx hb dX8_moreSkilled_3 rfl hl (by decide) rfl (fun ls hl => ?_)
  have hL4 : ∀ (n : Nat) (y2_4 : Int32) (y3_4 : Int32) (ls : Array Slot), lp_X8_moreSkilled_4 v x0 n y2_4 y3_4 = some t → lv_has ls 4 [(0, .ref (Modela_self a)), (1, .int x0), (2, .int y2_4), (3, .int y3_4)] → W p l e_ rmX8_moreSkilled s m args below meth c s.heap [] 0 0 Q (F0 m 4 ls []) := by
    intro n
    induction n with
    | zero =>
      intro y2_4 y3_4 ls hF
      exact nomatch (show (none : Option Int32) = some t from hF)
    | succ n ih4 =>
      intro y2_4 y3_4 ls hF hl
      have hF : st_X8_moreSkilled_4 v x0 (lp_X8_moreSkilled_4 v x0 n) y2_4 y3_4 = some t := hF
      unfold st_X8_moreSkilled_4 at hF
      refine lv_iload_n hx hb dX8_moreSkilled_4 rfl (lv_at hl 3 rfl) ?_
      refine lv_aload_n hx hb dX8_moreSkilled_5 rfl (lv_at hl 0 rfl) ?_
      refine va_get (D := E.1) (ci := 8) (v := .ref (Modela_s a)) (C := RX8) (T := TX8) (N := 20) hx hb hts k1 hown hK hP 0 rfl rfl 1 (by decide) k0 (fun _ h9 => h9) rfl dX8_moreSkilled_6 ?_
      refine lv_bipush (v := 20) hx hb dX8_moreSkilled_9 (by decide) ?_
      obtain ⟨h1, hF⟩ := m_chk hF
      refine va_iald (f := (Model_s v)) hx hb hK hP 1 1 rfl rfl (mIn_ok h1) dX8_moreSkilled_11 ?_
      refine W.eq (g2 := F0 m 12 ls [.int ((Model_s v) (20 : Int32).toNatClampNeg), .int y3_4]) rfl ?_
      refine lv_icmp_ge (tgt := 67) hx hb dX8_moreSkilled_12 (by decide) (fun c2 => ?_) (fun c2 => ?_)
      · have hF := m_pos c2 hF
        refine lv_iload_n hx hb dX8_moreSkilled_67 rfl (lv_at hl 2 rfl) ?_
        have hF := Option.some.inj hF
        subst hF
        rw [hQ]
        exact W.iret hx hb hr (fun t ht _ => ⟨rfl, ht⟩) (fun _ h => by cases h) dX8_moreSkilled_68
      · have hF := m_neg c2 hF
        refine lv_iload_n hx hb dX8_moreSkilled_15 rfl (lv_at hl 2 rfl) ?_
        refine lv_iload_n hx hb dX8_moreSkilled_16 rfl (lv_at hl 3 rfl) ?_
        refine lv_iload_n hx hb dX8_moreSkilled_17 rfl (lv_at hl 1 rfl) ?_
        obtain ⟨j59, hjd59, hF⟩ := m_jp hF
        have hj59 : ∀ (z0_59 : Int32) (ls : Array Slot), j59 z0_59 = some t → lv_has ls 4 [(0, .ref (Modela_self a)), (1, .int x0), (3, .int y3_4)] → W p l e_ rmX8_moreSkilled s m args below meth c s.heap [] 0 0 Q (F0 m 59 ls [.int z0_59, .int y2_4]) := by
          intro z0_59 ls hF hl
          rw [hjd59] at hF
          refine lv_iadd hx hb dX8_moreSkilled_59 ?_
          refine lv_istore_n (lv' := [(2, .int (y2_4 + z0_59)), (0, .ref (Modela_self a)), (1, .int x0), (3, .int y3_4)]) hx hb dX8_moreSkilled_60 rfl hl (by decide) rfl (fun ls hl => ?_)
          refine lv_iinc (v := (y3_4 + 1)) (lv' := [(3, .int (y3_4 + 1)), (2, .int (y2_4 + z0_59)), (0, .ref (Modela_self a)), (1, .int x0)]) hx hb dX8_moreSkilled_61 hl (k := 3) rfl rfl (by decide) rfl (fun ls hl => ?_)
          refine lv_goto (tgt := 4) hx hb dX8_moreSkilled_64 (by decide) ?_
          exact ih4 (y2_4 + z0_59) (y3_4 + 1) ls hF (lv_sub hl [2, 3, 1, 0] rfl)
        clear hjd59
        obtain ⟨j58, hjd58, hF⟩ := m_jp hF
        have hj58 : ∀ (ls : Array Slot), j58 () = some t → lv_has ls 4 [(0, .ref (Modela_self a)), (1, .int x0), (3, .int y3_4)] → W p l e_ rmX8_moreSkilled s m args below meth c s.heap [] 0 0 Q (F0 m 58 ls [.int y2_4]) := by
          intro ls hF hl
          rw [hjd58] at hF
          refine lv_iconst (v := 0) hx hb dX8_moreSkilled_58 (by decide) ?_
          exact hj59 0 ls hF (lv_sub hl [0, 1, 2] rfl)
        clear hjd58
        refine lv_icmp_eq (tgt := 58) hx hb dX8_moreSkilled_18 (by decide) (fun c3 => ?_) (fun c3 => ?_)
        · have hF := m_pos c3 hF
          exact hj58 ls hF (lv_sub hl [0, 1, 3] rfl)
        · have hF := m_neg c3 hF
          refine lv_aload_n hx hb dX8_moreSkilled_21 rfl (lv_at hl 0 rfl) ?_
          refine va_get (D := E.1) (ci := 8) (v := .ref (Modela_s a)) (C := RX8) (T := TX8) (N := 20) hx hb hts k1 hown hK hP 0 rfl rfl 1 (by decide) k0 (fun _ h9 => h9) rfl dX8_moreSkilled_22 ?_
          refine lv_bipush (v := 14) hx hb dX8_moreSkilled_25 (by decide) ?_
          refine lv_iload_n hx hb dX8_moreSkilled_27 rfl (lv_at hl 3 rfl) ?_
          refine lv_iadd hx hb dX8_moreSkilled_28 ?_
          obtain ⟨h4, hF⟩ := m_chk hF
          refine va_iald (f := (Model_s v)) hx hb hK hP 1 1 rfl rfl (mIn_ok h4) dX8_moreSkilled_29 ?_
          refine W.eq (g2 := F0 m 30 ls [.int ((Model_s v) ((14 + y3_4)).toNatClampNeg), .int y2_4]) rfl ?_
          refine lv_if_ne (tgt := 58) hx hb dX8_moreSkilled_30 (by decide) (fun c5 => ?_) (fun c5 => ?_)
          · have hF := m_pos c5 hF
            exact hj58 ls hF (lv_sub hl [0, 1, 3] rfl)
          · have hF := m_neg (fun n9 => n9 c5) hF
            refine lv_aload_n hx hb dX8_moreSkilled_33 rfl (lv_at hl 0 rfl) ?_
            refine va_get (D := E.1) (ci := 8) (v := .ref (Modela_s a)) (C := RX8) (T := TX8) (N := 20) hx hb hts k1 hown hK hP 0 rfl rfl 1 (by decide) k0 (fun _ h9 => h9) rfl dX8_moreSkilled_34 ?_
            refine lv_bipush (v := 39) hx hb dX8_moreSkilled_37 (by decide) ?_
            refine lv_iload_n hx hb dX8_moreSkilled_39 rfl (lv_at hl 3 rfl) ?_
            refine lv_iadd hx hb dX8_moreSkilled_40 ?_
            obtain ⟨h6, hF⟩ := m_chk hF
            refine va_iald (f := (Model_s v)) hx hb hK hP 1 1 rfl rfl (mIn_ok h6) dX8_moreSkilled_41 ?_
            refine W.eq (g2 := F0 m 42 ls [.int ((Model_s v) ((39 + y3_4)).toNatClampNeg), .int y2_4]) rfl ?_
            refine lv_aload_n hx hb dX8_moreSkilled_42 rfl (lv_at hl 0 rfl) ?_
            refine va_get (D := E.1) (ci := 8) (v := .ref (Modela_s a)) (C := RX8) (T := TX8) (N := 20) hx hb hts k1 hown hK hP 0 rfl rfl 1 (by decide) k0 (fun _ h9 => h9) rfl dX8_moreSkilled_43 ?_
            refine lv_bipush (v := 39) hx hb dX8_moreSkilled_46 (by decide) ?_
            refine lv_iload_n hx hb dX8_moreSkilled_48 rfl (lv_at hl 1 rfl) ?_
            refine lv_iadd hx hb dX8_moreSkilled_49 ?_
            obtain ⟨h7, hF⟩ := m_chk hF
            refine va_iald (f := (Model_s v)) hx hb hK hP 1 1 rfl rfl (mIn_ok h7) dX8_moreSkilled_50 ?_
            refine W.eq (g2 := F0 m 51 ls [.int ((Model_s v) ((39 + x0)).toNatClampNeg), .int ((Model_s v) ((39 + y3_4)).toNatClampNeg), .int y2_4]) rfl ?_
            refine lv_icmp_le (tgt := 58) hx hb dX8_moreSkilled_51 (by decide) (fun c8 => ?_) (fun c8 => ?_)
            · have hF := m_pos c8 hF
              exact hj58 ls hF (lv_sub hl [0, 1, 3] rfl)
            · have hF := m_neg c8 hF
              refine lv_iconst (v := 1) hx hb dX8_moreSkilled_54 (by decide) ?_
              refine lv_goto (tgt := 59) hx hb dX8_moreSkilled_55 (by decide) ?_
              exact hj59 1 ls hF (lv_sub hl [0, 1, 3] rfl)
  exact hL4 m_N 0 0 ls hF (lv_sub hl [2, 3, 1, 0] rfl)

def fn_X8_doesOf (v : ModelV) (x0 : Int32) : Option (Int32 × ModelV) :=
  (if mIn (14 + x0) 926 = true then (if ¬ ((Model_s v) ((14 + x0)).toNatClampNeg) = 1 then (Option.bind (fn_X8_zealOf v x0) (fun t3 => (if mIn (27 + x0) 926 = true then jp (fun (x3_165 : Int32) => (if mIn (8 + x0) 926 = true then (Option.bind (fn_X8_within x3_165 0 ((Model_s t3.2) ((8 + x0)).toNatClampNeg)) (fun t6 => some (t6, t3.2))) else none)) (fun j165 => (if ((Model_s t3.2) ((27 + x0)).toNatClampNeg) = 1 then (if mIn (33 + x0) 926 = true then j165 (t3.1 + (((Model_s t3.2) ((33 + x0)).toNatClampNeg) / 2)) else none) else (if ((Model_s t3.2) ((27 + x0)).toNatClampNeg) = 2 then j165 (t3.1 / 2) else (if ((Model_s t3.2) ((27 + x0)).toNatClampNeg) = 3 then j165 t3.1 else (if ((Model_s t3.2) ((27 + x0)).toNatClampNeg) = 4 then (if mIn (33 + x0) 926 = true then (if mIn 20 926 = true then (Option.bind (fn_X8_manyIn t3.2) (fun t14 => j165 (((t3.1 + (((Model_s t3.2) ((33 + x0)).toNatClampNeg) / 2)) + ((Model_s t3.2) (20 : Int32).toNatClampNeg)) - t14))) else none) else none) else (if ((Model_s t3.2) ((27 + x0)).toNatClampNeg) = 5 then (Option.bind (fn_X8_moreSkilled t3.2 x0) (fun t16 => j165 ((t3.1 / 2) - t16))) else (if ((Model_s t3.2) ((27 + x0)).toNatClampNeg) = 6 then (if mIn 0 926 = true then (if mIn ((45 + (4 * x0)) + (mRem ((Model_s t3.2) (0 : Int32).toNatClampNeg) 4)) 926 = true then j165 (t3.1 + ((Model_s t3.2) (((45 + (4 * x0)) + (mRem ((Model_s t3.2) (0 : Int32).toNatClampNeg) 4))).toNatClampNeg)) else none) else none) else j165 t3.1))))))) else none))) else some (0, v)) else none)
abbrev rmX8_doesOf : Room := { frames := 3, cells := 0, slots := 0, locals := 74 }
set_option maxRecDepth 100000 in
set_option maxHeartbeats 400000 in
theorem c_X8_doesOf (l : Launch) (E : mE) (a : ModelA) (v : ModelV) (x0 : Int32) (t : (Int32 × ModelV)) (hF : fn_X8_doesOf v x0 = some t) (sz : Nat) : Met l yX8_doesOf wsX8_doesOf rmX8_doesOf (mPm E [.ref (Modela_self a), .int x0] sz ((Model_c E a v)) (([] : va_W))) (mSm E (some (.int t.1)) ((Model_c E a t.2)) (va_A ((Model_c E a v)) sz)) 0 0 (va_A ((Model_c E a v)) sz) := by
  refine mOfM (cc := cX8_doesOf) (maxL := 4) (ret := (some .int)) (by decide) rfl (Nat.le_of_ble_eq_true rfl) ?_
  intro p e_ s m args below meth c Q A hQ CC hr hlocks hin hA hP hD hKN hGl hR0 hRA ls hl
  have hS : va_S A s.heap s.heap [] := va_S.rf
  have hK := hKN.1
  have hx := CC.1
  have hb := CC.2.1
  have hml := CC.2.2.1
  have hown : s.vm.findClass RX8 = some m.cls := CC.2.2.2.1
  have hts := CC.2.2.2.2
  have hl : lv_has ls 4 [(0, .ref (Modela_self a)), (1, .int x0)] := hl
  have k0 := hts (.fieldLink RX8 9 "OneDidAllModel" "s" "[I") (by decide +kernel)
  have k1 := (show ∀ w ∈ u_ws RX8 TX8 20, w ∈ wsX8_doesOf by decide +kernel)
  have hP : va_P E.1 vwCl (Model_c E a v) s.heap := hP
  obtain ⟨H, hH⟩ : ∃ H, H = s.heap := ⟨_, rfl⟩
  obtain ⟨locs, hlc⟩ : ∃ z : List Loc, z = [] := ⟨_, rfl⟩
  rw [← hH] at hP
  rw [← hlc] at hS
  have hS : va_S A s.heap H locs := by rw [hH]; exact hS
  rw [← hH, ← hlc]
  unfold fn_X8_doesOf at hF
  refine lv_aload_n hx hb dX8_doesOf_0 rfl (lv_at hl 0 rfl) ?_
  refine va_get (D := E.1) (ci := 8) (v := .ref (Modela_s a)) (C := RX8) (T := TX8) (N := 20) hx hb hts k1 hown hK hP 0 rfl rfl 1 (by decide) k0 (fun _ h9 => h9) rfl dX8_doesOf_1 ?_
  refine lv_bipush (v := 14) hx hb dX8_doesOf_4 (by decide) ?_
  refine lv_iload_n hx hb dX8_doesOf_6 rfl (lv_at hl 1 rfl) ?_
  refine lv_iadd hx hb dX8_doesOf_7 ?_
  obtain ⟨h1, hF⟩ := m_chk hF
  refine va_iald (f := (Model_s v)) hx hb hK hP 1 1 rfl rfl (mIn_ok h1) dX8_doesOf_8 ?_
  refine W.eq (g2 := F0 m 9 ls [.int ((Model_s v) ((14 + x0)).toNatClampNeg)]) rfl ?_
  refine lv_iconst (v := 1) hx hb dX8_doesOf_9 (by decide) ?_
  refine lv_icmp_ne (tgt := 15) hx hb dX8_doesOf_10 (by decide) (fun c2 => ?_) (fun c2 => ?_)
  · have hF := m_pos c2 hF
    refine lv_aload_n hx hb dX8_doesOf_15 rfl (lv_at hl 0 rfl) ?_
    refine lv_iload_n hx hb dX8_doesOf_16 rfl (lv_at hl 1 rfl) ?_
    obtain ⟨t3, ht3, hF⟩ := m_bnd hF
    have hPc := hP
    have hDc := hD
    have hFc := va_free (wc := (Model_c E a v)) hD hS hA [0, 1, 2, 3, 4, 5, 6, 7] rfl
    refine mVM (ci := 8) (n := 1) (rest := []) (As := [.int x0]) CC hKN hGl (c_X8_zealOf l E a v x0 t3 ht3 _) gX8_doesOf_X8_zealOf rfl ⟨rfl, rfl⟩ (by decide +kernel) ⟨Nat.le_of_ble_eq_true rfl, Nat.le_of_ble_eq_true rfl⟩ hPc hDc m_nil m_nilA hS hFc rfl rfl rfl rfl hl.1 rfl (Nat.le_of_ble_eq_true rfl) ⟨Nat.zero_le _, Nat.zero_le _⟩ dX8_doesOf_17 (fun H1 locs hP1 hD1 hz1 hk1 hS => ?_)
    have hP : va_P E.1 vwCl (Model_c E a t3.2) H1 := hP1
    have hD : va_D A (Model_c E a t3.2) := m_back hD1 hFc
    generalize H1 = H at hP hS ⊢
    refine W.eq (g2 := F0 m 20 ls [.int t3.1]) rfl ?_
    refine lv_istore_n (lv' := [(2, .int t3.1), (0, .ref (Modela_self a)), (1, .int x0)]) hx hb dX8_doesOf_20 rfl hl (by decide) rfl (fun ls hl => ?_)
    refine lv_iload_n hx hb dX8_doesOf_21 rfl (lv_at hl 0 rfl) ?_
    refine lv_istore_n (lv' := [(3, .int t3.1), (2, .int t3.1), (0, .ref (Modela_self a)), (1, .int x0)]) hx hb dX8_doesOf_22 rfl hl (by decide) rfl (fun ls hl => ?_)
    refine lv_aload_n hx hb dX8_doesOf_23 rfl (lv_at hl 2 rfl) ?_
    refine va_get (D := E.1) (ci := 8) (v := .ref (Modela_s a)) (C := RX8) (T := TX8) (N := 20) hx hb hts k1 hown hK hP 0 rfl rfl 1 (by decide) k0 (fun _ h9 => h9) rfl dX8_doesOf_24 ?_
    refine lv_bipush (v := 27) hx hb dX8_doesOf_27 (by decide) ?_
    refine lv_iload_n hx hb dX8_doesOf_29 rfl (lv_at hl 3 rfl) ?_
    refine lv_iadd hx hb dX8_doesOf_30 ?_
    obtain ⟨h4, hF⟩ := m_chk hF
    refine va_iald (f := (Model_s t3.2)) hx hb hK hP 1 1 rfl rfl (mIn_ok h4) dX8_doesOf_31 ?_
    refine W.eq (g2 := F0 m 32 ls [.int ((Model_s t3.2) ((27 + x0)).toNatClampNeg)]) rfl ?_
    obtain ⟨j165, hjd165, hF⟩ := m_jp hF
    have hj165 : ∀ (x3_165 : Int32) (H : Heap) (locs : List Loc) (ls : Array Slot), j165 x3_165 = some t → va_P E.1 vwCl (Model_c E a t3.2) H → va_D A (Model_c E a t3.2) → va_S A s.heap H locs → lv_has ls 4 [(0, .ref (Modela_self a)), (1, .int x0), (3, .int x3_165)] → W p l e_ rmX8_doesOf s m args below meth c H locs 0 0 Q (F0 m 165 ls []) := by
      intro x3_165 H locs ls hF hP hD hS hl
      rw [hjd165] at hF
      refine lv_iload_n hx hb dX8_doesOf_165 rfl (lv_at hl 2 rfl) ?_
      refine lv_iconst (v := 0) hx hb dX8_doesOf_166 (by decide) ?_
      refine lv_aload_n hx hb dX8_doesOf_167 rfl (lv_at hl 0 rfl) ?_
      refine va_get (D := E.1) (ci := 8) (v := .ref (Modela_s a)) (C := RX8) (T := TX8) (N := 20) hx hb hts k1 hown hK hP 0 rfl rfl 1 (by decide) k0 (fun _ h9 => h9) rfl dX8_doesOf_168 ?_
      refine lv_bipush (v := 8) hx hb dX8_doesOf_171 (by decide) ?_
      refine lv_iload_n hx hb dX8_doesOf_173 rfl (lv_at hl 1 rfl) ?_
      refine lv_iadd hx hb dX8_doesOf_174 ?_
      obtain ⟨h5, hF⟩ := m_chk hF
      refine va_iald (f := (Model_s t3.2)) hx hb hK hP 1 1 rfl rfl (mIn_ok h5) dX8_doesOf_175 ?_
      refine W.eq (g2 := F0 m 176 ls [.int ((Model_s t3.2) ((8 + x0)).toNatClampNeg), .int 0, .int x3_165]) rfl ?_
      obtain ⟨t6, ht6, hF⟩ := m_bnd hF
      refine mSP (n := 3) (rest := []) (As := [.int x3_165, .int 0, .int ((Model_s t3.2) ((8 + x0)).toNatClampNeg)]) CC hKN hGl hS (c_X8_within l E x3_165 0 ((Model_s t3.2) ((8 + x0)).toNatClampNeg) t6 ht6) gX8_doesOf_X8_within rfl ⟨rfl, rfl⟩ (by decide +kernel) ⟨Nat.le_of_ble_eq_true rfl, Nat.le_of_ble_eq_true rfl⟩ m_nil rfl hl.1 rfl (Nat.le_of_ble_eq_true rfl) ⟨Nat.zero_le _, Nat.zero_le _⟩ dX8_doesOf_176 ?_
      refine W.eq (g2 := F0 m 179 ls [.int t6]) rfl ?_
      have hF := Option.some.inj hF
      subst hF
      rw [hQ]
      exact W.iret hx hb hr (fun t ht _ => ⟨⟨rfl, by rw [ht]; exact hP, hD⟩, hS.F ht⟩) hS.2.2 dX8_doesOf_179
    clear hjd165
    by_cases c7 : ((Model_s t3.2) ((27 + x0)).toNatClampNeg) = 1
    · have hF := m_pos c7 hF
      refine lv_tableIn (off := 40) (tgt := 72) hx hb dX8_doesOf_32 (by rw [c7]; decide) (by rw [c7]; decide) (by rw [c7]; rfl) (by decide) ?_
      refine lv_iload_n hx hb dX8_doesOf_72 rfl (lv_at hl 1 rfl) ?_
      refine lv_aload_n hx hb dX8_doesOf_73 rfl (lv_at hl 2 rfl) ?_
      refine va_get (D := E.1) (ci := 8) (v := .ref (Modela_s a)) (C := RX8) (T := TX8) (N := 20) hx hb hts k1 hown hK hP 0 rfl rfl 1 (by decide) k0 (fun _ h9 => h9) rfl dX8_doesOf_74 ?_
      refine lv_bipush (v := 33) hx hb dX8_doesOf_77 (by decide) ?_
      refine lv_iload_n hx hb dX8_doesOf_79 rfl (lv_at hl 3 rfl) ?_
      refine lv_iadd hx hb dX8_doesOf_80 ?_
      obtain ⟨h8, hF⟩ := m_chk hF
      refine va_iald (f := (Model_s t3.2)) hx hb hK hP 1 1 rfl rfl (mIn_ok h8) dX8_doesOf_81 ?_
      refine W.eq (g2 := F0 m 82 ls [.int ((Model_s t3.2) ((33 + x0)).toNatClampNeg), .int t3.1]) rfl ?_
      refine lv_iconst (v := 2) hx hb dX8_doesOf_82 (by decide) ?_
      refine lv_idiv hx hb dX8_doesOf_83 (by decide) ?_
      refine lv_iadd hx hb dX8_doesOf_84 ?_
      refine lv_istore_n (lv' := [(3, .int (t3.1 + (((Model_s t3.2) ((33 + x0)).toNatClampNeg) / 2))), (2, .int t3.1), (0, .ref (Modela_self a)), (1, .int x0)]) hx hb dX8_doesOf_85 rfl hl (by decide) rfl (fun ls hl => ?_)
      refine lv_goto (tgt := 165) hx hb dX8_doesOf_86 (by decide) ?_
      exact hj165 (t3.1 + (((Model_s t3.2) ((33 + x0)).toNatClampNeg) / 2)) H locs ls hF hP hD hS (lv_sub hl [2, 3, 0] rfl)
    · have hF := m_neg c7 hF
      by_cases c9 : ((Model_s t3.2) ((27 + x0)).toNatClampNeg) = 2
      · have hF := m_pos c9 hF
        refine lv_tableIn (off := 57) (tgt := 89) hx hb dX8_doesOf_32 (by rw [c9]; decide) (by rw [c9]; decide) (by rw [c9]; rfl) (by decide) ?_
        refine lv_iload_n hx hb dX8_doesOf_89 rfl (lv_at hl 1 rfl) ?_
        refine lv_iconst (v := 2) hx hb dX8_doesOf_90 (by decide) ?_
        refine lv_idiv hx hb dX8_doesOf_91 (by decide) ?_
        refine lv_istore_n (lv' := [(3, .int (t3.1 / 2)), (2, .int t3.1), (0, .ref (Modela_self a)), (1, .int x0)]) hx hb dX8_doesOf_92 rfl hl (by decide) rfl (fun ls hl => ?_)
        refine lv_goto (tgt := 165) hx hb dX8_doesOf_93 (by decide) ?_
        exact hj165 (t3.1 / 2) H locs ls hF hP hD hS (lv_sub hl [2, 3, 0] rfl)
      · have hF := m_neg c9 hF
        by_cases c10 : ((Model_s t3.2) ((27 + x0)).toNatClampNeg) = 3
        · have hF := m_pos c10 hF
          refine lv_tableIn (off := 133) (tgt := 165) hx hb dX8_doesOf_32 (by rw [c10]; decide) (by rw [c10]; decide) (by rw [c10]; rfl) (by decide) ?_
          exact hj165 t3.1 H locs ls hF hP hD hS (lv_sub hl [2, 3, 0] rfl)
        · have hF := m_neg c10 hF
          by_cases c11 : ((Model_s t3.2) ((27 + x0)).toNatClampNeg) = 4
          · have hF := m_pos c11 hF
            refine lv_tableIn (off := 64) (tgt := 96) hx hb dX8_doesOf_32 (by rw [c11]; decide) (by rw [c11]; decide) (by rw [c11]; rfl) (by decide) ?_
            refine lv_iload_n hx hb dX8_doesOf_96 rfl (lv_at hl 1 rfl) ?_
            refine lv_aload_n hx hb dX8_doesOf_97 rfl (lv_at hl 2 rfl) ?_
            refine va_get (D := E.1) (ci := 8) (v := .ref (Modela_s a)) (C := RX8) (T := TX8) (N := 20) hx hb hts k1 hown hK hP 0 rfl rfl 1 (by decide) k0 (fun _ h9 => h9) rfl dX8_doesOf_98 ?_
            refine lv_bipush (v := 33) hx hb dX8_doesOf_101 (by decide) ?_
            refine lv_iload_n hx hb dX8_doesOf_103 rfl (lv_at hl 3 rfl) ?_
            refine lv_iadd hx hb dX8_doesOf_104 ?_
            obtain ⟨h12, hF⟩ := m_chk hF
            refine va_iald (f := (Model_s t3.2)) hx hb hK hP 1 1 rfl rfl (mIn_ok h12) dX8_doesOf_105 ?_
            refine W.eq (g2 := F0 m 106 ls [.int ((Model_s t3.2) ((33 + x0)).toNatClampNeg), .int t3.1]) rfl ?_
            refine lv_iconst (v := 2) hx hb dX8_doesOf_106 (by decide) ?_
            refine lv_idiv hx hb dX8_doesOf_107 (by decide) ?_
            refine lv_iadd hx hb dX8_doesOf_108 ?_
            refine lv_aload_n hx hb dX8_doesOf_109 rfl (lv_at hl 2 rfl) ?_
            refine va_get (D := E.1) (ci := 8) (v := .ref (Modela_s a)) (C := RX8) (T := TX8) (N := 20) hx hb hts k1 hown hK hP 0 rfl rfl 1 (by decide) k0 (fun _ h9 => h9) rfl dX8_doesOf_110 ?_
            refine lv_bipush (v := 20) hx hb dX8_doesOf_113 (by decide) ?_
            obtain ⟨h13, hF⟩ := m_chk hF
            refine va_iald (f := (Model_s t3.2)) hx hb hK hP 1 1 rfl rfl (mIn_ok h13) dX8_doesOf_115 ?_
            refine W.eq (g2 := F0 m 116 ls [.int ((Model_s t3.2) (20 : Int32).toNatClampNeg), .int (t3.1 + (((Model_s t3.2) ((33 + x0)).toNatClampNeg) / 2))]) rfl ?_
            refine lv_iadd hx hb dX8_doesOf_116 ?_
            refine lv_aload_n hx hb dX8_doesOf_117 rfl (lv_at hl 2 rfl) ?_
            obtain ⟨t14, ht14, hF⟩ := m_bnd hF
            refine mVP (ci := 8) (n := 0) (rest := [.int ((t3.1 + (((Model_s t3.2) ((33 + x0)).toNatClampNeg) / 2)) + ((Model_s t3.2) (20 : Int32).toNatClampNeg))]) (As := []) CC hKN hGl hS (c_X8_manyIn l E a t3.2 t14 ht14) gX8_doesOf_X8_manyIn rfl ⟨rfl, rfl⟩ (by decide +kernel) ⟨Nat.le_of_ble_eq_true rfl, Nat.le_of_ble_eq_true rfl⟩ hP rfl rfl rfl rfl hl.1 rfl (Nat.le_of_ble_eq_true rfl) ⟨Nat.zero_le _, Nat.zero_le _⟩ dX8_doesOf_118 ?_
            refine W.eq (g2 := F0 m 121 ls [.int t14, .int ((t3.1 + (((Model_s t3.2) ((33 + x0)).toNatClampNeg) / 2)) + ((Model_s t3.2) (20 : Int32).toNatClampNeg))]) rfl ?_
            refine lv_isub hx hb dX8_doesOf_121 ?_
            refine lv_istore_n (lv' := [(3, .int (((t3.1 + (((Model_s t3.2) ((33 + x0)).toNatClampNeg) / 2)) + ((Model_s t3.2) (20 : Int32).toNatClampNeg)) - t14)), (2, .int t3.1), (0, .ref (Modela_self a)), (1, .int x0)]) hx hb dX8_doesOf_122 rfl hl (by decide) rfl (fun ls hl => ?_)
            refine lv_goto (tgt := 165) hx hb dX8_doesOf_123 (by decide) ?_
            exact hj165 (((t3.1 + (((Model_s t3.2) ((33 + x0)).toNatClampNeg) / 2)) + ((Model_s t3.2) (20 : Int32).toNatClampNeg)) - t14) H locs ls hF hP hD hS (lv_sub hl [2, 3, 0] rfl)
          · have hF := m_neg c11 hF
            by_cases c15 : ((Model_s t3.2) ((27 + x0)).toNatClampNeg) = 5
            · have hF := m_pos c15 hF
              refine lv_tableIn (off := 94) (tgt := 126) hx hb dX8_doesOf_32 (by rw [c15]; decide) (by rw [c15]; decide) (by rw [c15]; rfl) (by decide) ?_
              refine lv_iload_n hx hb dX8_doesOf_126 rfl (lv_at hl 1 rfl) ?_
              refine lv_iconst (v := 2) hx hb dX8_doesOf_127 (by decide) ?_
              refine lv_idiv hx hb dX8_doesOf_128 (by decide) ?_
              refine lv_aload_n hx hb dX8_doesOf_129 rfl (lv_at hl 2 rfl) ?_
              refine lv_iload_n hx hb dX8_doesOf_130 rfl (lv_at hl 3 rfl) ?_
              obtain ⟨t16, ht16, hF⟩ := m_bnd hF
              refine mVP (ci := 8) (n := 1) (rest := [.int (t3.1 / 2)]) (As := [.int x0]) CC hKN hGl hS (c_X8_moreSkilled l E a t3.2 x0 t16 ht16) gX8_doesOf_X8_moreSkilled rfl ⟨rfl, rfl⟩ (by decide +kernel) ⟨Nat.le_of_ble_eq_true rfl, Nat.le_of_ble_eq_true rfl⟩ hP rfl rfl rfl rfl hl.1 rfl (Nat.le_of_ble_eq_true rfl) ⟨Nat.zero_le _, Nat.zero_le _⟩ dX8_doesOf_131 ?_
              refine W.eq (g2 := F0 m 134 ls [.int t16, .int (t3.1 / 2)]) rfl ?_
              refine lv_isub hx hb dX8_doesOf_134 ?_
              refine lv_istore_n (lv' := [(3, .int ((t3.1 / 2) - t16)), (2, .int t3.1), (0, .ref (Modela_self a)), (1, .int x0)]) hx hb dX8_doesOf_135 rfl hl (by decide) rfl (fun ls hl => ?_)
              refine lv_goto (tgt := 165) hx hb dX8_doesOf_136 (by decide) ?_
              exact hj165 ((t3.1 / 2) - t16) H locs ls hF hP hD hS (lv_sub hl [2, 3, 0] rfl)
            · have hF := m_neg c15 hF
              by_cases c17 : ((Model_s t3.2) ((27 + x0)).toNatClampNeg) = 6
              · have hF := m_pos c17 hF
                refine lv_tableIn (off := 107) (tgt := 139) hx hb dX8_doesOf_32 (by rw [c17]; decide) (by rw [c17]; decide) (by rw [c17]; rfl) (by decide) ?_
                refine lv_iload_n hx hb dX8_doesOf_139 rfl (lv_at hl 1 rfl) ?_
                refine lv_aload_n hx hb dX8_doesOf_140 rfl (lv_at hl 2 rfl) ?_
                refine va_get (D := E.1) (ci := 8) (v := .ref (Modela_s a)) (C := RX8) (T := TX8) (N := 20) hx hb hts k1 hown hK hP 0 rfl rfl 1 (by decide) k0 (fun _ h9 => h9) rfl dX8_doesOf_141 ?_
                refine lv_bipush (v := 45) hx hb dX8_doesOf_144 (by decide) ?_
                refine lv_iconst (v := 4) hx hb dX8_doesOf_146 (by decide) ?_
                refine lv_iload_n hx hb dX8_doesOf_147 rfl (lv_at hl 3 rfl) ?_
                refine lv_imul hx hb dX8_doesOf_148 ?_
                refine lv_iadd hx hb dX8_doesOf_149 ?_
                refine lv_aload_n hx hb dX8_doesOf_150 rfl (lv_at hl 2 rfl) ?_
                refine va_get (D := E.1) (ci := 8) (v := .ref (Modela_s a)) (C := RX8) (T := TX8) (N := 20) hx hb hts k1 hown hK hP 0 rfl rfl 1 (by decide) k0 (fun _ h9 => h9) rfl dX8_doesOf_151 ?_
                refine lv_iconst (v := 0) hx hb dX8_doesOf_154 (by decide) ?_
                obtain ⟨h18, hF⟩ := m_chk hF
                refine va_iald (f := (Model_s t3.2)) hx hb hK hP 1 1 rfl rfl (mIn_ok h18) dX8_doesOf_155 ?_
                refine W.eq (g2 := F0 m 156 ls [.int ((Model_s t3.2) (0 : Int32).toNatClampNeg), .int (45 + (4 * x0)), .ref (Modela_s a), .int t3.1]) rfl ?_
                refine lv_iconst (v := 4) hx hb dX8_doesOf_156 (by decide) ?_
                refine lv_irem hx hb dX8_doesOf_157 (by decide) ?_
                refine W.eq (g2 := F0 m 158 ls [.int (mRem ((Model_s t3.2) (0 : Int32).toNatClampNeg) 4), .int (45 + (4 * x0)), .ref (Modela_s a), .int t3.1]) rfl ?_
                refine lv_iadd hx hb dX8_doesOf_158 ?_
                obtain ⟨h19, hF⟩ := m_chk hF
                refine va_iald (f := (Model_s t3.2)) hx hb hK hP 1 1 rfl rfl (mIn_ok h19) dX8_doesOf_159 ?_
                refine W.eq (g2 := F0 m 160 ls [.int ((Model_s t3.2) (((45 + (4 * x0)) + (mRem ((Model_s t3.2) (0 : Int32).toNatClampNeg) 4))).toNatClampNeg), .int t3.1]) rfl ?_
                refine lv_iadd hx hb dX8_doesOf_160 ?_
                refine lv_istore_n (lv' := [(3, .int (t3.1 + ((Model_s t3.2) (((45 + (4 * x0)) + (mRem ((Model_s t3.2) (0 : Int32).toNatClampNeg) 4))).toNatClampNeg))), (2, .int t3.1), (0, .ref (Modela_self a)), (1, .int x0)]) hx hb dX8_doesOf_161 rfl hl (by decide) rfl (fun ls hl => ?_)
                refine lv_goto (tgt := 165) hx hb dX8_doesOf_162 (by decide) ?_
                exact hj165 (t3.1 + ((Model_s t3.2) (((45 + (4 * x0)) + (mRem ((Model_s t3.2) (0 : Int32).toNatClampNeg) 4))).toNatClampNeg)) H locs ls hF hP hD hS (lv_sub hl [2, 3, 0] rfl)
              · have hF := m_neg c17 hF
                have qc7 := lv_neT (a := 1) c7 rfl
                have qc9 := lv_neT (a := 2) c9 rfl
                have qc10 := lv_neT (a := 3) c10 rfl
                have qc11 := lv_neT (a := 4) c11 rfl
                have qc15 := lv_neT (a := 5) c15 rfl
                have qc17 := lv_neT (a := 6) c17 rfl
                refine lv_tableOut (tgt := 165) hx hb dX8_doesOf_32 (by omega) (by decide) ?_
                exact hj165 t3.1 H locs ls hF hP hD hS (lv_sub hl [2, 3, 0] rfl)
  · have hF := m_neg (fun n9 => n9 c2) hF
    refine lv_iconst (v := 0) hx hb dX8_doesOf_13 (by decide) ?_
    have hF := Option.some.inj hF
    subst hF
    rw [hQ]
    exact W.iret hx hb hr (fun t ht _ => ⟨⟨rfl, by rw [ht]; exact hP, hD⟩, hS.F ht⟩) hS.2.2 dX8_doesOf_14

def st_X8_allHours_4 (v : ModelV) (rec4 : Int32 → Int32 → Option Int32) (y1_4 : Int32) (y2_4 : Int32) : Option Int32 :=
  (if mIn 20 926 = true then (if ((Model_s v) (20 : Int32).toNatClampNeg) ≤ y2_4 then some y1_4 else (if mIn (2 + y2_4) 926 = true then rec4 (y1_4 + ((Model_s v) ((2 + y2_4)).toNatClampNeg)) (y2_4 + 1) else none)) else none)
def lp_X8_allHours_4 (v : ModelV) : Nat → Int32 → Int32 → Option Int32
  | 0 => fun _ _ => none
  | n + 1 => st_X8_allHours_4 v (lp_X8_allHours_4 v n)
def fn_X8_allHours (v : ModelV) : Option Int32 :=
  lp_X8_allHours_4 v m_N 0 0
abbrev rmX8_allHours : Room := { frames := 0, cells := 0, slots := 0, locals := 0 }
set_option maxRecDepth 100000 in
set_option maxHeartbeats 400000 in
theorem c_X8_allHours (l : Launch) (E : mE) (a : ModelA) (v : ModelV) (t : Int32) (hF : fn_X8_allHours v = some t) : Met l yX8_allHours wsX8_allHours rmX8_allHours (mPp E [.ref (Modela_self a)] (Model_c E a v)) (mSp (some (.int t))) 0 0 (fun _ => False) := by
  refine mOfP (cc := cX8_allHours) (maxL := 3) (ret := (some .int)) (by decide) rfl (Nat.le_of_ble_eq_true rfl) ?_
  intro p e_ s m args below meth c Q hQ CC hr hlocks hP hKN hGl ls hl
  have hS : va_S (fun _ => False) s.heap s.heap [] := va_S.rf
  have hK := hKN.1
  have hx := CC.1
  have hb := CC.2.1
  have hml := CC.2.2.1
  have hown : s.vm.findClass RX8 = some m.cls := CC.2.2.2.1
  have hts := CC.2.2.2.2
  have hl : lv_has ls 3 [(0, .ref (Modela_self a))] := hl
  have k0 := hts (.fieldLink RX8 9 "OneDidAllModel" "s" "[I") (by decide +kernel)
  have k1 := (show ∀ w ∈ u_ws RX8 TX8 20, w ∈ wsX8_allHours by decide +kernel)
  unfold fn_X8_allHours at hF
  refine lv_iconst (v := 0) hx hb dX8_allHours_0 (by decide) ?_
  refine lv_istore_n (lv' := [(1, .int 0), (0, .ref (Modela_self a))]) hx hb dX8_allHours_1 rfl hl (by decide) rfl (fun ls hl => ?_)
  refine lv_iconst (v := 0) hx hb dX8_allHours_2 (by decide) ?_
  refine lv_istore_n (lv' := [(2, .int 0), (1, .int 0), (0, .ref (Modela_self a))]) hx hb dX8_allHours_3 rfl hl (by decide) rfl (fun ls hl => ?_)
  have hL4 : ∀ (n : Nat) (y1_4 : Int32) (y2_4 : Int32) (ls : Array Slot), lp_X8_allHours_4 v n y1_4 y2_4 = some t → lv_has ls 3 [(0, .ref (Modela_self a)), (1, .int y1_4), (2, .int y2_4)] → W p l e_ rmX8_allHours s m args below meth c s.heap [] 0 0 Q (F0 m 4 ls []) := by
    intro n
    induction n with
    | zero =>
      intro y1_4 y2_4 ls hF
      exact nomatch (show (none : Option Int32) = some t from hF)
    | succ n ih4 =>
      intro y1_4 y2_4 ls hF hl
      have hF : st_X8_allHours_4 v (lp_X8_allHours_4 v n) y1_4 y2_4 = some t := hF
      unfold st_X8_allHours_4 at hF
      refine lv_iload_n hx hb dX8_allHours_4 rfl (lv_at hl 2 rfl) ?_
      refine lv_aload_n hx hb dX8_allHours_5 rfl (lv_at hl 0 rfl) ?_
      refine va_get (D := E.1) (ci := 8) (v := .ref (Modela_s a)) (C := RX8) (T := TX8) (N := 20) hx hb hts k1 hown hK hP 0 rfl rfl 1 (by decide) k0 (fun _ h9 => h9) rfl dX8_allHours_6 ?_
      refine lv_bipush (v := 20) hx hb dX8_allHours_9 (by decide) ?_
      obtain ⟨h1, hF⟩ := m_chk hF
      refine va_iald (f := (Model_s v)) hx hb hK hP 1 1 rfl rfl (mIn_ok h1) dX8_allHours_11 ?_
      refine W.eq (g2 := F0 m 12 ls [.int ((Model_s v) (20 : Int32).toNatClampNeg), .int y2_4]) rfl ?_
      refine lv_icmp_ge (tgt := 32) hx hb dX8_allHours_12 (by decide) (fun c2 => ?_) (fun c2 => ?_)
      · have hF := m_pos c2 hF
        refine lv_iload_n hx hb dX8_allHours_32 rfl (lv_at hl 1 rfl) ?_
        have hF := Option.some.inj hF
        subst hF
        rw [hQ]
        exact W.iret hx hb hr (fun t ht _ => ⟨rfl, ht⟩) (fun _ h => by cases h) dX8_allHours_33
      · have hF := m_neg c2 hF
        refine lv_iload_n hx hb dX8_allHours_15 rfl (lv_at hl 1 rfl) ?_
        refine lv_aload_n hx hb dX8_allHours_16 rfl (lv_at hl 0 rfl) ?_
        refine va_get (D := E.1) (ci := 8) (v := .ref (Modela_s a)) (C := RX8) (T := TX8) (N := 20) hx hb hts k1 hown hK hP 0 rfl rfl 1 (by decide) k0 (fun _ h9 => h9) rfl dX8_allHours_17 ?_
        refine lv_iconst (v := 2) hx hb dX8_allHours_20 (by decide) ?_
        refine lv_iload_n hx hb dX8_allHours_21 rfl (lv_at hl 2 rfl) ?_
        refine lv_iadd hx hb dX8_allHours_22 ?_
        obtain ⟨h3, hF⟩ := m_chk hF
        refine va_iald (f := (Model_s v)) hx hb hK hP 1 1 rfl rfl (mIn_ok h3) dX8_allHours_23 ?_
        refine W.eq (g2 := F0 m 24 ls [.int ((Model_s v) ((2 + y2_4)).toNatClampNeg), .int y1_4]) rfl ?_
        refine lv_iadd hx hb dX8_allHours_24 ?_
        refine lv_istore_n (lv' := [(1, .int (y1_4 + ((Model_s v) ((2 + y2_4)).toNatClampNeg))), (0, .ref (Modela_self a)), (2, .int y2_4)]) hx hb dX8_allHours_25 rfl hl (by decide) rfl (fun ls hl => ?_)
        refine lv_iinc (v := (y2_4 + 1)) (lv' := [(2, .int (y2_4 + 1)), (1, .int (y1_4 + ((Model_s v) ((2 + y2_4)).toNatClampNeg))), (0, .ref (Modela_self a))]) hx hb dX8_allHours_26 hl (k := 2) rfl rfl (by decide) rfl (fun ls hl => ?_)
        refine lv_goto (tgt := 4) hx hb dX8_allHours_29 (by decide) ?_
        exact ih4 (y1_4 + ((Model_s v) ((2 + y2_4)).toNatClampNeg)) (y2_4 + 1) ls hF (lv_sub hl [2, 1, 0] rfl)
  exact hL4 m_N 0 0 ls hF (lv_sub hl [2, 1, 0] rfl)

def fn_X8_shareOf (v : ModelV) (x0 : Int32) : Option Int32 :=
  (Option.bind (fn_X8_allHours v) (fun t1 => (if ¬ t1 = 0 then (if mIn (2 + x0) 926 = true then (if ¬ t1 = 0 then some ((100 * ((Model_s v) ((2 + x0)).toNatClampNeg)) / t1) else none) else none) else some 0)))
abbrev rmX8_shareOf : Room := { frames := 1, cells := 0, slots := 0, locals := 22 }
set_option maxRecDepth 100000 in
set_option maxHeartbeats 400000 in
theorem c_X8_shareOf (l : Launch) (E : mE) (a : ModelA) (v : ModelV) (x0 : Int32) (t : Int32) (hF : fn_X8_shareOf v x0 = some t) : Met l yX8_shareOf wsX8_shareOf rmX8_shareOf (mPp E [.ref (Modela_self a), .int x0] (Model_c E a v)) (mSp (some (.int t))) 0 0 (fun _ => False) := by
  refine mOfP (cc := cX8_shareOf) (maxL := 3) (ret := (some .int)) (by decide) rfl (Nat.le_of_ble_eq_true rfl) ?_
  intro p e_ s m args below meth c Q hQ CC hr hlocks hP hKN hGl ls hl
  have hS : va_S (fun _ => False) s.heap s.heap [] := va_S.rf
  have hK := hKN.1
  have hx := CC.1
  have hb := CC.2.1
  have hml := CC.2.2.1
  have hown : s.vm.findClass RX8 = some m.cls := CC.2.2.2.1
  have hts := CC.2.2.2.2
  have hl : lv_has ls 3 [(0, .ref (Modela_self a)), (1, .int x0)] := hl
  have k0 := hts (.fieldLink RX8 9 "OneDidAllModel" "s" "[I") (by decide +kernel)
  have k1 := (show ∀ w ∈ u_ws RX8 TX8 20, w ∈ wsX8_shareOf by decide +kernel)
  unfold fn_X8_shareOf at hF
  refine lv_aload_n hx hb dX8_shareOf_0 rfl (lv_at hl 0 rfl) ?_
  obtain ⟨t1, ht1, hF⟩ := m_bnd hF
  refine mVP (ci := 8) (n := 0) (rest := []) (As := []) CC hKN hGl hS (c_X8_allHours l E a v t1 ht1) gX8_shareOf_X8_allHours rfl ⟨rfl, rfl⟩ (by decide +kernel) ⟨Nat.le_of_ble_eq_true rfl, Nat.le_of_ble_eq_true rfl⟩ hP rfl rfl rfl rfl hl.1 rfl (Nat.le_of_ble_eq_true rfl) ⟨Nat.zero_le _, Nat.zero_le _⟩ dX8_shareOf_1 ?_
  refine W.eq (g2 := F0 m 4 ls [.int t1]) rfl ?_
  refine lv_istore_n (lv' := [(2, .int t1), (0, .ref (Modela_self a)), (1, .int x0)]) hx hb dX8_shareOf_4 rfl hl (by decide) rfl (fun ls hl => ?_)
  refine lv_iload_n hx hb dX8_shareOf_5 rfl (lv_at hl 0 rfl) ?_
  refine lv_if_ne (tgt := 13) hx hb dX8_shareOf_6 (by decide) (fun c2 => ?_) (fun c2 => ?_)
  · have hF := m_pos c2 hF
    refine lv_bipush (v := 100) hx hb dX8_shareOf_13 (by decide) ?_
    refine lv_aload_n hx hb dX8_shareOf_15 rfl (lv_at hl 1 rfl) ?_
    refine va_get (D := E.1) (ci := 8) (v := .ref (Modela_s a)) (C := RX8) (T := TX8) (N := 20) hx hb hts k1 hown hK hP 0 rfl rfl 1 (by decide) k0 (fun _ h9 => h9) rfl dX8_shareOf_16 ?_
    refine lv_iconst (v := 2) hx hb dX8_shareOf_19 (by decide) ?_
    refine lv_iload_n hx hb dX8_shareOf_20 rfl (lv_at hl 2 rfl) ?_
    refine lv_iadd hx hb dX8_shareOf_21 ?_
    obtain ⟨h3, hF⟩ := m_chk hF
    refine va_iald (f := (Model_s v)) hx hb hK hP 1 1 rfl rfl (mIn_ok h3) dX8_shareOf_22 ?_
    refine W.eq (g2 := F0 m 23 ls [.int ((Model_s v) ((2 + x0)).toNatClampNeg), .int 100]) rfl ?_
    refine lv_imul hx hb dX8_shareOf_23 ?_
    refine lv_iload_n hx hb dX8_shareOf_24 rfl (lv_at hl 0 rfl) ?_
    obtain ⟨h4, hF⟩ := m_chk hF
    refine lv_idiv hx hb dX8_shareOf_25 h4 ?_
    have hF := Option.some.inj hF
    subst hF
    rw [hQ]
    exact W.iret hx hb hr (fun t ht _ => ⟨rfl, ht⟩) (fun _ h => by cases h) dX8_shareOf_26
  · have hF := m_neg (fun n9 => n9 c2) hF
    refine lv_iconst (v := 0) hx hb dX8_shareOf_9 (by decide) ?_
    refine lv_goto (tgt := 26) hx hb dX8_shareOf_10 (by decide) ?_
    have hF := Option.some.inj hF
    subst hF
    rw [hQ]
    exact W.iret hx hb hr (fun t ht _ => ⟨rfl, ht⟩) (fun _ h => by cases h) dX8_shareOf_26

def fn_X8_claimOf (v : ModelV) (x0 : Int32) : Option Int32 :=
  (Option.bind (fn_X8_shareOf v x0) (fun t1 => (if mIn (33 + x0) 926 = true then (if mIn (27 + x0) 926 = true then jp (fun (_ : Unit) => (Option.bind (fn_X8_within (t1 - ((Model_s v) ((33 + x0)).toNatClampNeg)) 0 100) (fun t4 => some t4))) (fun j64 => (if ((Model_s v) ((27 + x0)).toNatClampNeg) = 1 then j64 () else (if ((Model_s v) ((27 + x0)).toNatClampNeg) = 2 then (Option.bind (fn_X8_within (t1 + ((Model_s v) ((33 + x0)).toNatClampNeg)) 0 100) (fun t7 => some t7)) else (if ((Model_s v) ((27 + x0)).toNatClampNeg) = 3 then (Option.bind (fn_X8_within (2 * t1) 0 100) (fun t9 => some t9)) else (if ((Model_s v) ((27 + x0)).toNatClampNeg) = 4 then j64 () else (if ((Model_s v) ((27 + x0)).toNatClampNeg) = 5 then (Option.bind (fn_X8_within (t1 + ((Model_s v) ((33 + x0)).toNatClampNeg)) 0 100) (fun t12 => some (t12 / 2))) else (if ((Model_s v) ((27 + x0)).toNatClampNeg) = 6 then (if mIn 0 926 = true then (if mIn ((45 + (4 * x0)) + (mRem ((Model_s v) (0 : Int32).toNatClampNeg) 4)) 926 = true then (Option.bind (fn_X8_within ((2 * t1) + ((Model_s v) (((45 + (4 * x0)) + (mRem ((Model_s v) (0 : Int32).toNatClampNeg) 4))).toNatClampNeg)) 0 100) (fun t16 => some t16)) else none) else none) else some t1))))))) else none) else none)))
abbrev rmX8_claimOf : Room := { frames := 2, cells := 0, slots := 0, locals := 44 }
set_option maxRecDepth 100000 in
set_option maxHeartbeats 400000 in
theorem c_X8_claimOf (l : Launch) (E : mE) (a : ModelA) (v : ModelV) (x0 : Int32) (t : Int32) (hF : fn_X8_claimOf v x0 = some t) : Met l yX8_claimOf wsX8_claimOf rmX8_claimOf (mPp E [.ref (Modela_self a), .int x0] (Model_c E a v)) (mSp (some (.int t))) 0 0 (fun _ => False) := by
  refine mOfP (cc := cX8_claimOf) (maxL := 4) (ret := (some .int)) (by decide) rfl (Nat.le_of_ble_eq_true rfl) ?_
  intro p e_ s m args below meth c Q hQ CC hr hlocks hP hKN hGl ls hl
  have hS : va_S (fun _ => False) s.heap s.heap [] := va_S.rf
  have hK := hKN.1
  have hx := CC.1
  have hb := CC.2.1
  have hml := CC.2.2.1
  have hown : s.vm.findClass RX8 = some m.cls := CC.2.2.2.1
  have hts := CC.2.2.2.2
  have hl : lv_has ls 4 [(0, .ref (Modela_self a)), (1, .int x0)] := hl
  have k0 := hts (.fieldLink RX8 9 "OneDidAllModel" "s" "[I") (by decide +kernel)
  have k1 := (show ∀ w ∈ u_ws RX8 TX8 20, w ∈ wsX8_claimOf by decide +kernel)
  unfold fn_X8_claimOf at hF
  refine lv_aload_n hx hb dX8_claimOf_0 rfl (lv_at hl 0 rfl) ?_
  refine lv_iload_n hx hb dX8_claimOf_1 rfl (lv_at hl 1 rfl) ?_
  obtain ⟨t1, ht1, hF⟩ := m_bnd hF
  refine mVP (ci := 8) (n := 1) (rest := []) (As := [.int x0]) CC hKN hGl hS (c_X8_shareOf l E a v x0 t1 ht1) gX8_claimOf_X8_shareOf rfl ⟨rfl, rfl⟩ (by decide +kernel) ⟨Nat.le_of_ble_eq_true rfl, Nat.le_of_ble_eq_true rfl⟩ hP rfl rfl rfl rfl hl.1 rfl (Nat.le_of_ble_eq_true rfl) ⟨Nat.zero_le _, Nat.zero_le _⟩ dX8_claimOf_2 ?_
  refine W.eq (g2 := F0 m 5 ls [.int t1]) rfl ?_
  refine lv_istore_n (lv' := [(2, .int t1), (0, .ref (Modela_self a)), (1, .int x0)]) hx hb dX8_claimOf_5 rfl hl (by decide) rfl (fun ls hl => ?_)
  refine lv_aload_n hx hb dX8_claimOf_6 rfl (lv_at hl 1 rfl) ?_
  refine va_get (D := E.1) (ci := 8) (v := .ref (Modela_s a)) (C := RX8) (T := TX8) (N := 20) hx hb hts k1 hown hK hP 0 rfl rfl 1 (by decide) k0 (fun _ h9 => h9) rfl dX8_claimOf_7 ?_
  refine lv_bipush (v := 33) hx hb dX8_claimOf_10 (by decide) ?_
  refine lv_iload_n hx hb dX8_claimOf_12 rfl (lv_at hl 2 rfl) ?_
  refine lv_iadd hx hb dX8_claimOf_13 ?_
  obtain ⟨h2, hF⟩ := m_chk hF
  refine va_iald (f := (Model_s v)) hx hb hK hP 1 1 rfl rfl (mIn_ok h2) dX8_claimOf_14 ?_
  refine W.eq (g2 := F0 m 15 ls [.int ((Model_s v) ((33 + x0)).toNatClampNeg)]) rfl ?_
  refine lv_istore_n (lv' := [(3, .int ((Model_s v) ((33 + x0)).toNatClampNeg)), (2, .int t1), (0, .ref (Modela_self a)), (1, .int x0)]) hx hb dX8_claimOf_15 rfl hl (by decide) rfl (fun ls hl => ?_)
  refine lv_aload_n hx hb dX8_claimOf_16 rfl (lv_at hl 2 rfl) ?_
  refine va_get (D := E.1) (ci := 8) (v := .ref (Modela_s a)) (C := RX8) (T := TX8) (N := 20) hx hb hts k1 hown hK hP 0 rfl rfl 1 (by decide) k0 (fun _ h9 => h9) rfl dX8_claimOf_17 ?_
  refine lv_bipush (v := 27) hx hb dX8_claimOf_20 (by decide) ?_
  refine lv_iload_n hx hb dX8_claimOf_22 rfl (lv_at hl 3 rfl) ?_
  refine lv_iadd hx hb dX8_claimOf_23 ?_
  obtain ⟨h3, hF⟩ := m_chk hF
  refine va_iald (f := (Model_s v)) hx hb hK hP 1 1 rfl rfl (mIn_ok h3) dX8_claimOf_24 ?_
  refine W.eq (g2 := F0 m 25 ls [.int ((Model_s v) ((27 + x0)).toNatClampNeg)]) rfl ?_
  obtain ⟨j64, hjd64, hF⟩ := m_jp hF
  have hj64 : ∀ (ls : Array Slot), j64 () = some t → lv_has ls 4 [(2, .int t1), (3, .int ((Model_s v) ((33 + x0)).toNatClampNeg))] → W p l e_ rmX8_claimOf s m args below meth c s.heap [] 0 0 Q (F0 m 64 ls []) := by
    intro ls hF hl
    rw [hjd64] at hF
    refine lv_iload_n hx hb dX8_claimOf_64 rfl (lv_at hl 0 rfl) ?_
    refine lv_iload_n hx hb dX8_claimOf_65 rfl (lv_at hl 1 rfl) ?_
    refine lv_isub hx hb dX8_claimOf_66 ?_
    refine lv_iconst (v := 0) hx hb dX8_claimOf_67 (by decide) ?_
    refine lv_bipush (v := 100) hx hb dX8_claimOf_68 (by decide) ?_
    obtain ⟨t4, ht4, hF⟩ := m_bnd hF
    refine mSP (n := 3) (rest := []) (As := [.int (t1 - ((Model_s v) ((33 + x0)).toNatClampNeg)), .int 0, .int 100]) CC hKN hGl hS (c_X8_within l E (t1 - ((Model_s v) ((33 + x0)).toNatClampNeg)) 0 100 t4 ht4) gX8_claimOf_X8_within rfl ⟨rfl, rfl⟩ (by decide +kernel) ⟨Nat.le_of_ble_eq_true rfl, Nat.le_of_ble_eq_true rfl⟩ m_nil rfl hl.1 rfl (Nat.le_of_ble_eq_true rfl) ⟨Nat.zero_le _, Nat.zero_le _⟩ dX8_claimOf_70 ?_
    refine W.eq (g2 := F0 m 73 ls [.int t4]) rfl ?_
    have hF := Option.some.inj hF
    subst hF
    rw [hQ]
    exact W.iret hx hb hr (fun t ht _ => ⟨rfl, ht⟩) (fun _ h => by cases h) dX8_claimOf_73
  clear hjd64
  by_cases c5 : ((Model_s v) ((27 + x0)).toNatClampNeg) = 1
  · have hF := m_pos c5 hF
    refine lv_tableIn (off := 39) (tgt := 64) hx hb dX8_claimOf_25 (by rw [c5]; decide) (by rw [c5]; decide) (by rw [c5]; rfl) (by decide) ?_
    exact hj64 ls hF (lv_sub hl [1, 0] rfl)
  · have hF := m_neg c5 hF
    by_cases c6 : ((Model_s v) ((27 + x0)).toNatClampNeg) = 2
    · have hF := m_pos c6 hF
      refine lv_tableIn (off := 49) (tgt := 74) hx hb dX8_claimOf_25 (by rw [c6]; decide) (by rw [c6]; decide) (by rw [c6]; rfl) (by decide) ?_
      refine lv_iload_n hx hb dX8_claimOf_74 rfl (lv_at hl 1 rfl) ?_
      refine lv_iload_n hx hb dX8_claimOf_75 rfl (lv_at hl 0 rfl) ?_
      refine lv_iadd hx hb dX8_claimOf_76 ?_
      refine lv_iconst (v := 0) hx hb dX8_claimOf_77 (by decide) ?_
      refine lv_bipush (v := 100) hx hb dX8_claimOf_78 (by decide) ?_
      obtain ⟨t7, ht7, hF⟩ := m_bnd hF
      refine mSP (n := 3) (rest := []) (As := [.int (t1 + ((Model_s v) ((33 + x0)).toNatClampNeg)), .int 0, .int 100]) CC hKN hGl hS (c_X8_within l E (t1 + ((Model_s v) ((33 + x0)).toNatClampNeg)) 0 100 t7 ht7) gX8_claimOf_X8_within rfl ⟨rfl, rfl⟩ (by decide +kernel) ⟨Nat.le_of_ble_eq_true rfl, Nat.le_of_ble_eq_true rfl⟩ m_nil rfl hl.1 rfl (Nat.le_of_ble_eq_true rfl) ⟨Nat.zero_le _, Nat.zero_le _⟩ dX8_claimOf_80 ?_
      refine W.eq (g2 := F0 m 83 ls [.int t7]) rfl ?_
      have hF := Option.some.inj hF
      subst hF
      rw [hQ]
      exact W.iret hx hb hr (fun t ht _ => ⟨rfl, ht⟩) (fun _ h => by cases h) dX8_claimOf_83
    · have hF := m_neg c6 hF
      by_cases c8 : ((Model_s v) ((27 + x0)).toNatClampNeg) = 3
      · have hF := m_pos c8 hF
        refine lv_tableIn (off := 59) (tgt := 84) hx hb dX8_claimOf_25 (by rw [c8]; decide) (by rw [c8]; decide) (by rw [c8]; rfl) (by decide) ?_
        refine lv_iconst (v := 2) hx hb dX8_claimOf_84 (by decide) ?_
        refine lv_iload_n hx hb dX8_claimOf_85 rfl (lv_at hl 1 rfl) ?_
        refine lv_imul hx hb dX8_claimOf_86 ?_
        refine lv_iconst (v := 0) hx hb dX8_claimOf_87 (by decide) ?_
        refine lv_bipush (v := 100) hx hb dX8_claimOf_88 (by decide) ?_
        obtain ⟨t9, ht9, hF⟩ := m_bnd hF
        refine mSP (n := 3) (rest := []) (As := [.int (2 * t1), .int 0, .int 100]) CC hKN hGl hS (c_X8_within l E (2 * t1) 0 100 t9 ht9) gX8_claimOf_X8_within rfl ⟨rfl, rfl⟩ (by decide +kernel) ⟨Nat.le_of_ble_eq_true rfl, Nat.le_of_ble_eq_true rfl⟩ m_nil rfl hl.1 rfl (Nat.le_of_ble_eq_true rfl) ⟨Nat.zero_le _, Nat.zero_le _⟩ dX8_claimOf_90 ?_
        refine W.eq (g2 := F0 m 93 ls [.int t9]) rfl ?_
        have hF := Option.some.inj hF
        subst hF
        rw [hQ]
        exact W.iret hx hb hr (fun t ht _ => ⟨rfl, ht⟩) (fun _ h => by cases h) dX8_claimOf_93
      · have hF := m_neg c8 hF
        by_cases c10 : ((Model_s v) ((27 + x0)).toNatClampNeg) = 4
        · have hF := m_pos c10 hF
          refine lv_tableIn (off := 39) (tgt := 64) hx hb dX8_claimOf_25 (by rw [c10]; decide) (by rw [c10]; decide) (by rw [c10]; rfl) (by decide) ?_
          exact hj64 ls hF (lv_sub hl [1, 0] rfl)
        · have hF := m_neg c10 hF
          by_cases c11 : ((Model_s v) ((27 + x0)).toNatClampNeg) = 5
          · have hF := m_pos c11 hF
            refine lv_tableIn (off := 69) (tgt := 94) hx hb dX8_claimOf_25 (by rw [c11]; decide) (by rw [c11]; decide) (by rw [c11]; rfl) (by decide) ?_
            refine lv_iload_n hx hb dX8_claimOf_94 rfl (lv_at hl 1 rfl) ?_
            refine lv_iload_n hx hb dX8_claimOf_95 rfl (lv_at hl 0 rfl) ?_
            refine lv_iadd hx hb dX8_claimOf_96 ?_
            refine lv_iconst (v := 0) hx hb dX8_claimOf_97 (by decide) ?_
            refine lv_bipush (v := 100) hx hb dX8_claimOf_98 (by decide) ?_
            obtain ⟨t12, ht12, hF⟩ := m_bnd hF
            refine mSP (n := 3) (rest := []) (As := [.int (t1 + ((Model_s v) ((33 + x0)).toNatClampNeg)), .int 0, .int 100]) CC hKN hGl hS (c_X8_within l E (t1 + ((Model_s v) ((33 + x0)).toNatClampNeg)) 0 100 t12 ht12) gX8_claimOf_X8_within rfl ⟨rfl, rfl⟩ (by decide +kernel) ⟨Nat.le_of_ble_eq_true rfl, Nat.le_of_ble_eq_true rfl⟩ m_nil rfl hl.1 rfl (Nat.le_of_ble_eq_true rfl) ⟨Nat.zero_le _, Nat.zero_le _⟩ dX8_claimOf_100 ?_
            refine W.eq (g2 := F0 m 103 ls [.int t12]) rfl ?_
            refine lv_iconst (v := 2) hx hb dX8_claimOf_103 (by decide) ?_
            refine lv_idiv hx hb dX8_claimOf_104 (by decide) ?_
            have hF := Option.some.inj hF
            subst hF
            rw [hQ]
            exact W.iret hx hb hr (fun t ht _ => ⟨rfl, ht⟩) (fun _ h => by cases h) dX8_claimOf_105
          · have hF := m_neg c11 hF
            by_cases c13 : ((Model_s v) ((27 + x0)).toNatClampNeg) = 6
            · have hF := m_pos c13 hF
              refine lv_tableIn (off := 81) (tgt := 106) hx hb dX8_claimOf_25 (by rw [c13]; decide) (by rw [c13]; decide) (by rw [c13]; rfl) (by decide) ?_
              refine lv_iconst (v := 2) hx hb dX8_claimOf_106 (by decide) ?_
              refine lv_iload_n hx hb dX8_claimOf_107 rfl (lv_at hl 1 rfl) ?_
              refine lv_imul hx hb dX8_claimOf_108 ?_
              refine lv_aload_n hx hb dX8_claimOf_109 rfl (lv_at hl 2 rfl) ?_
              refine va_get (D := E.1) (ci := 8) (v := .ref (Modela_s a)) (C := RX8) (T := TX8) (N := 20) hx hb hts k1 hown hK hP 0 rfl rfl 1 (by decide) k0 (fun _ h9 => h9) rfl dX8_claimOf_110 ?_
              refine lv_bipush (v := 45) hx hb dX8_claimOf_113 (by decide) ?_
              refine lv_iconst (v := 4) hx hb dX8_claimOf_115 (by decide) ?_
              refine lv_iload_n hx hb dX8_claimOf_116 rfl (lv_at hl 3 rfl) ?_
              refine lv_imul hx hb dX8_claimOf_117 ?_
              refine lv_iadd hx hb dX8_claimOf_118 ?_
              refine lv_aload_n hx hb dX8_claimOf_119 rfl (lv_at hl 2 rfl) ?_
              refine va_get (D := E.1) (ci := 8) (v := .ref (Modela_s a)) (C := RX8) (T := TX8) (N := 20) hx hb hts k1 hown hK hP 0 rfl rfl 1 (by decide) k0 (fun _ h9 => h9) rfl dX8_claimOf_120 ?_
              refine lv_iconst (v := 0) hx hb dX8_claimOf_123 (by decide) ?_
              obtain ⟨h14, hF⟩ := m_chk hF
              refine va_iald (f := (Model_s v)) hx hb hK hP 1 1 rfl rfl (mIn_ok h14) dX8_claimOf_124 ?_
              refine W.eq (g2 := F0 m 125 ls [.int ((Model_s v) (0 : Int32).toNatClampNeg), .int (45 + (4 * x0)), .ref (Modela_s a), .int (2 * t1)]) rfl ?_
              refine lv_iconst (v := 4) hx hb dX8_claimOf_125 (by decide) ?_
              refine lv_irem hx hb dX8_claimOf_126 (by decide) ?_
              refine W.eq (g2 := F0 m 127 ls [.int (mRem ((Model_s v) (0 : Int32).toNatClampNeg) 4), .int (45 + (4 * x0)), .ref (Modela_s a), .int (2 * t1)]) rfl ?_
              refine lv_iadd hx hb dX8_claimOf_127 ?_
              obtain ⟨h15, hF⟩ := m_chk hF
              refine va_iald (f := (Model_s v)) hx hb hK hP 1 1 rfl rfl (mIn_ok h15) dX8_claimOf_128 ?_
              refine W.eq (g2 := F0 m 129 ls [.int ((Model_s v) (((45 + (4 * x0)) + (mRem ((Model_s v) (0 : Int32).toNatClampNeg) 4))).toNatClampNeg), .int (2 * t1)]) rfl ?_
              refine lv_iadd hx hb dX8_claimOf_129 ?_
              refine lv_iconst (v := 0) hx hb dX8_claimOf_130 (by decide) ?_
              refine lv_bipush (v := 100) hx hb dX8_claimOf_131 (by decide) ?_
              obtain ⟨t16, ht16, hF⟩ := m_bnd hF
              refine mSP (n := 3) (rest := []) (As := [.int ((2 * t1) + ((Model_s v) (((45 + (4 * x0)) + (mRem ((Model_s v) (0 : Int32).toNatClampNeg) 4))).toNatClampNeg)), .int 0, .int 100]) CC hKN hGl hS (c_X8_within l E ((2 * t1) + ((Model_s v) (((45 + (4 * x0)) + (mRem ((Model_s v) (0 : Int32).toNatClampNeg) 4))).toNatClampNeg)) 0 100 t16 ht16) gX8_claimOf_X8_within rfl ⟨rfl, rfl⟩ (by decide +kernel) ⟨Nat.le_of_ble_eq_true rfl, Nat.le_of_ble_eq_true rfl⟩ m_nil rfl hl.1 rfl (Nat.le_of_ble_eq_true rfl) ⟨Nat.zero_le _, Nat.zero_le _⟩ dX8_claimOf_133 ?_
              refine W.eq (g2 := F0 m 136 ls [.int t16]) rfl ?_
              have hF := Option.some.inj hF
              subst hF
              rw [hQ]
              exact W.iret hx hb hr (fun t ht _ => ⟨rfl, ht⟩) (fun _ h => by cases h) dX8_claimOf_136
            · have hF := m_neg c13 hF
              have qc5 := lv_neT (a := 1) c5 rfl
              have qc6 := lv_neT (a := 2) c6 rfl
              have qc8 := lv_neT (a := 3) c8 rfl
              have qc10 := lv_neT (a := 4) c10 rfl
              have qc11 := lv_neT (a := 5) c11 rfl
              have qc13 := lv_neT (a := 6) c13 rfl
              refine lv_tableOut (tgt := 137) hx hb dX8_claimOf_25 (by omega) (by decide) ?_
              refine lv_iload_n hx hb dX8_claimOf_137 rfl (lv_at hl 1 rfl) ?_
              have hF := Option.some.inj hF
              subst hF
              rw [hQ]
              exact W.iret hx hb hr (fun t ht _ => ⟨rfl, ht⟩) (fun _ h => by cases h) dX8_claimOf_138

def st_X8_allClaims_4 (v : ModelV) (rec4 : Int32 → Int32 → Option Int32) (y1_4 : Int32) (y2_4 : Int32) : Option Int32 :=
  (if mIn 20 926 = true then (if ((Model_s v) (20 : Int32).toNatClampNeg) ≤ y2_4 then some y1_4 else (Option.bind (fn_X8_claimOf v y2_4) (fun t3 => rec4 (y1_4 + t3) (y2_4 + 1)))) else none)
def lp_X8_allClaims_4 (v : ModelV) : Nat → Int32 → Int32 → Option Int32
  | 0 => fun _ _ => none
  | n + 1 => st_X8_allClaims_4 v (lp_X8_allClaims_4 v n)
def fn_X8_allClaims (v : ModelV) : Option Int32 :=
  lp_X8_allClaims_4 v m_N 0 0
abbrev rmX8_allClaims : Room := { frames := 3, cells := 0, slots := 0, locals := 67 }
set_option maxRecDepth 100000 in
set_option maxHeartbeats 400000 in
theorem c_X8_allClaims (l : Launch) (E : mE) (a : ModelA) (v : ModelV) (t : Int32) (hF : fn_X8_allClaims v = some t) : Met l yX8_allClaims wsX8_allClaims rmX8_allClaims (mPp E [.ref (Modela_self a)] (Model_c E a v)) (mSp (some (.int t))) 0 0 (fun _ => False) := by
  refine mOfP (cc := cX8_allClaims) (maxL := 3) (ret := (some .int)) (by decide) rfl (Nat.le_of_ble_eq_true rfl) ?_
  intro p e_ s m args below meth c Q hQ CC hr hlocks hP hKN hGl ls hl
  have hS : va_S (fun _ => False) s.heap s.heap [] := va_S.rf
  have hK := hKN.1
  have hx := CC.1
  have hb := CC.2.1
  have hml := CC.2.2.1
  have hown : s.vm.findClass RX8 = some m.cls := CC.2.2.2.1
  have hts := CC.2.2.2.2
  have hl : lv_has ls 3 [(0, .ref (Modela_self a))] := hl
  have k0 := hts (.fieldLink RX8 9 "OneDidAllModel" "s" "[I") (by decide +kernel)
  have k1 := (show ∀ w ∈ u_ws RX8 TX8 20, w ∈ wsX8_allClaims by decide +kernel)
  unfold fn_X8_allClaims at hF
  refine lv_iconst (v := 0) hx hb dX8_allClaims_0 (by decide) ?_
  refine lv_istore_n (lv' := [(1, .int 0), (0, .ref (Modela_self a))]) hx hb dX8_allClaims_1 rfl hl (by decide) rfl (fun ls hl => ?_)
  refine lv_iconst (v := 0) hx hb dX8_allClaims_2 (by decide) ?_
  refine lv_istore_n (lv' := [(2, .int 0), (1, .int 0), (0, .ref (Modela_self a))]) hx hb dX8_allClaims_3 rfl hl (by decide) rfl (fun ls hl => ?_)
  have hL4 : ∀ (n : Nat) (y1_4 : Int32) (y2_4 : Int32) (ls : Array Slot), lp_X8_allClaims_4 v n y1_4 y2_4 = some t → lv_has ls 3 [(0, .ref (Modela_self a)), (1, .int y1_4), (2, .int y2_4)] → W p l e_ rmX8_allClaims s m args below meth c s.heap [] 0 0 Q (F0 m 4 ls []) := by
    intro n
    induction n with
    | zero =>
      intro y1_4 y2_4 ls hF
      exact nomatch (show (none : Option Int32) = some t from hF)
    | succ n ih4 =>
      intro y1_4 y2_4 ls hF hl
      have hF : st_X8_allClaims_4 v (lp_X8_allClaims_4 v n) y1_4 y2_4 = some t := hF
      unfold st_X8_allClaims_4 at hF
      refine lv_iload_n hx hb dX8_allClaims_4 rfl (lv_at hl 2 rfl) ?_
      refine lv_aload_n hx hb dX8_allClaims_5 rfl (lv_at hl 0 rfl) ?_
      refine va_get (D := E.1) (ci := 8) (v := .ref (Modela_s a)) (C := RX8) (T := TX8) (N := 20) hx hb hts k1 hown hK hP 0 rfl rfl 1 (by decide) k0 (fun _ h9 => h9) rfl dX8_allClaims_6 ?_
      refine lv_bipush (v := 20) hx hb dX8_allClaims_9 (by decide) ?_
      obtain ⟨h1, hF⟩ := m_chk hF
      refine va_iald (f := (Model_s v)) hx hb hK hP 1 1 rfl rfl (mIn_ok h1) dX8_allClaims_11 ?_
      refine W.eq (g2 := F0 m 12 ls [.int ((Model_s v) (20 : Int32).toNatClampNeg), .int y2_4]) rfl ?_
      refine lv_icmp_ge (tgt := 29) hx hb dX8_allClaims_12 (by decide) (fun c2 => ?_) (fun c2 => ?_)
      · have hF := m_pos c2 hF
        refine lv_iload_n hx hb dX8_allClaims_29 rfl (lv_at hl 1 rfl) ?_
        have hF := Option.some.inj hF
        subst hF
        rw [hQ]
        exact W.iret hx hb hr (fun t ht _ => ⟨rfl, ht⟩) (fun _ h => by cases h) dX8_allClaims_30
      · have hF := m_neg c2 hF
        refine lv_iload_n hx hb dX8_allClaims_15 rfl (lv_at hl 1 rfl) ?_
        refine lv_aload_n hx hb dX8_allClaims_16 rfl (lv_at hl 0 rfl) ?_
        refine lv_iload_n hx hb dX8_allClaims_17 rfl (lv_at hl 2 rfl) ?_
        obtain ⟨t3, ht3, hF⟩ := m_bnd hF
        refine mVP (ci := 8) (n := 1) (rest := [.int y1_4]) (As := [.int y2_4]) CC hKN hGl hS (c_X8_claimOf l E a v y2_4 t3 ht3) gX8_allClaims_X8_claimOf rfl ⟨rfl, rfl⟩ (by decide +kernel) ⟨Nat.le_of_ble_eq_true rfl, Nat.le_of_ble_eq_true rfl⟩ hP rfl rfl rfl rfl hl.1 rfl (Nat.le_of_ble_eq_true rfl) ⟨Nat.zero_le _, Nat.zero_le _⟩ dX8_allClaims_18 ?_
        refine W.eq (g2 := F0 m 21 ls [.int t3, .int y1_4]) rfl ?_
        refine lv_iadd hx hb dX8_allClaims_21 ?_
        refine lv_istore_n (lv' := [(1, .int (y1_4 + t3)), (0, .ref (Modela_self a)), (2, .int y2_4)]) hx hb dX8_allClaims_22 rfl hl (by decide) rfl (fun ls hl => ?_)
        refine lv_iinc (v := (y2_4 + 1)) (lv' := [(2, .int (y2_4 + 1)), (1, .int (y1_4 + t3)), (0, .ref (Modela_self a))]) hx hb dX8_allClaims_23 hl (k := 2) rfl rfl (by decide) rfl (fun ls hl => ?_)
        refine lv_goto (tgt := 4) hx hb dX8_allClaims_26 (by decide) ?_
        exact ih4 (y1_4 + t3) (y2_4 + 1) ls hF (lv_sub hl [2, 1, 0] rfl)
  exact hL4 m_N 0 0 ls hF (lv_sub hl [2, 1, 0] rfl)

def fn_X8_baseNow (v : ModelV) : Option Int32 :=
  (if mIn 1 926 = true then (Option.bind (fn_X8_goalNow v) (fun t2 => (if ¬ t2 = 0 then (Option.bind (fn_X8_within ((100 * ((Model_s v) (1 : Int32).toNatClampNeg)) / t2) 0 100) (fun t4 => some t4)) else none))) else none)
abbrev rmX8_baseNow : Room := { frames := 2, cells := 0, slots := 0, locals := 42 }
set_option maxRecDepth 100000 in
set_option maxHeartbeats 400000 in
theorem c_X8_baseNow (l : Launch) (E : mE) (a : ModelA) (v : ModelV) (t : Int32) (hF : fn_X8_baseNow v = some t) : Met l yX8_baseNow wsX8_baseNow rmX8_baseNow (mPp E [.ref (Modela_self a)] (Model_c E a v)) (mSp (some (.int t))) 0 0 (fun _ => False) := by
  refine mOfP (cc := cX8_baseNow) (maxL := 1) (ret := (some .int)) (by decide) rfl (Nat.le_of_ble_eq_true rfl) ?_
  intro p e_ s m args below meth c Q hQ CC hr hlocks hP hKN hGl ls hl
  have hS : va_S (fun _ => False) s.heap s.heap [] := va_S.rf
  have hK := hKN.1
  have hx := CC.1
  have hb := CC.2.1
  have hml := CC.2.2.1
  have hown : s.vm.findClass RX8 = some m.cls := CC.2.2.2.1
  have hts := CC.2.2.2.2
  have hl : lv_has ls 1 [(0, .ref (Modela_self a))] := hl
  have k0 := hts (.fieldLink RX8 9 "OneDidAllModel" "s" "[I") (by decide +kernel)
  have k1 := (show ∀ w ∈ u_ws RX8 TX8 20, w ∈ wsX8_baseNow by decide +kernel)
  unfold fn_X8_baseNow at hF
  refine lv_bipush (v := 100) hx hb dX8_baseNow_0 (by decide) ?_
  refine lv_aload_n hx hb dX8_baseNow_2 rfl (lv_at hl 0 rfl) ?_
  refine va_get (D := E.1) (ci := 8) (v := .ref (Modela_s a)) (C := RX8) (T := TX8) (N := 20) hx hb hts k1 hown hK hP 0 rfl rfl 1 (by decide) k0 (fun _ h9 => h9) rfl dX8_baseNow_3 ?_
  refine lv_iconst (v := 1) hx hb dX8_baseNow_6 (by decide) ?_
  obtain ⟨h1, hF⟩ := m_chk hF
  refine va_iald (f := (Model_s v)) hx hb hK hP 1 1 rfl rfl (mIn_ok h1) dX8_baseNow_7 ?_
  refine W.eq (g2 := F0 m 8 ls [.int ((Model_s v) (1 : Int32).toNatClampNeg), .int 100]) rfl ?_
  refine lv_imul hx hb dX8_baseNow_8 ?_
  refine lv_aload_n hx hb dX8_baseNow_9 rfl (lv_at hl 0 rfl) ?_
  obtain ⟨t2, ht2, hF⟩ := m_bnd hF
  refine mVP (ci := 8) (n := 0) (rest := [.int (100 * ((Model_s v) (1 : Int32).toNatClampNeg))]) (As := []) CC hKN hGl hS (c_X8_goalNow l E a v t2 ht2) gX8_baseNow_X8_goalNow rfl ⟨rfl, rfl⟩ (by decide +kernel) ⟨Nat.le_of_ble_eq_true rfl, Nat.le_of_ble_eq_true rfl⟩ hP rfl rfl rfl rfl hl.1 rfl (Nat.le_of_ble_eq_true rfl) ⟨Nat.zero_le _, Nat.zero_le _⟩ dX8_baseNow_10 ?_
  refine W.eq (g2 := F0 m 13 ls [.int t2, .int (100 * ((Model_s v) (1 : Int32).toNatClampNeg))]) rfl ?_
  obtain ⟨h3, hF⟩ := m_chk hF
  refine lv_idiv hx hb dX8_baseNow_13 h3 ?_
  refine lv_iconst (v := 0) hx hb dX8_baseNow_14 (by decide) ?_
  refine lv_bipush (v := 100) hx hb dX8_baseNow_15 (by decide) ?_
  obtain ⟨t4, ht4, hF⟩ := m_bnd hF
  refine mSP (n := 3) (rest := []) (As := [.int ((100 * ((Model_s v) (1 : Int32).toNatClampNeg)) / t2), .int 0, .int 100]) CC hKN hGl hS (c_X8_within l E ((100 * ((Model_s v) (1 : Int32).toNatClampNeg)) / t2) 0 100 t4 ht4) gX8_baseNow_X8_within rfl ⟨rfl, rfl⟩ (by decide +kernel) ⟨Nat.le_of_ble_eq_true rfl, Nat.le_of_ble_eq_true rfl⟩ m_nil rfl hl.1 rfl (Nat.le_of_ble_eq_true rfl) ⟨Nat.zero_le _, Nat.zero_le _⟩ dX8_baseNow_17 ?_
  refine W.eq (g2 := F0 m 20 ls [.int t4]) rfl ?_
  have hF := Option.some.inj hF
  subst hF
  rw [hQ]
  exact W.iret hx hb hr (fun t ht _ => ⟨rfl, ht⟩) (fun _ h => by cases h) dX8_baseNow_20

def fn_X8_partOf (v : ModelV) (x0 : Int32) (x1 : Int32) : Option Int32 :=
  (if ¬ x1 = 1 then (Option.bind (fn_X8_claimOf v x0) (fun t2 => some t2)) else (if mIn (2 + x0) 926 = true then some ((Model_s v) ((2 + x0)).toNatClampNeg) else none))
abbrev rmX8_partOf : Room := { frames := 3, cells := 0, slots := 0, locals := 67 }
set_option maxRecDepth 100000 in
set_option maxHeartbeats 400000 in
theorem c_X8_partOf (l : Launch) (E : mE) (a : ModelA) (v : ModelV) (x0 : Int32) (x1 : Int32) (t : Int32) (hF : fn_X8_partOf v x0 x1 = some t) : Met l yX8_partOf wsX8_partOf rmX8_partOf (mPp E [.ref (Modela_self a), .int x0, .int x1] (Model_c E a v)) (mSp (some (.int t))) 0 0 (fun _ => False) := by
  refine mOfP (cc := cX8_partOf) (maxL := 3) (ret := (some .int)) (by decide) rfl (Nat.le_of_ble_eq_true rfl) ?_
  intro p e_ s m args below meth c Q hQ CC hr hlocks hP hKN hGl ls hl
  have hS : va_S (fun _ => False) s.heap s.heap [] := va_S.rf
  have hK := hKN.1
  have hx := CC.1
  have hb := CC.2.1
  have hml := CC.2.2.1
  have hown : s.vm.findClass RX8 = some m.cls := CC.2.2.2.1
  have hts := CC.2.2.2.2
  have hl : lv_has ls 3 [(0, .ref (Modela_self a)), (1, .int x0), (2, .int x1)] := hl
  have k0 := hts (.fieldLink RX8 9 "OneDidAllModel" "s" "[I") (by decide +kernel)
  have k1 := (show ∀ w ∈ u_ws RX8 TX8 20, w ∈ wsX8_partOf by decide +kernel)
  unfold fn_X8_partOf at hF
  refine lv_iload_n hx hb dX8_partOf_0 rfl (lv_at hl 2 rfl) ?_
  refine lv_iconst (v := 1) hx hb dX8_partOf_1 (by decide) ?_
  refine lv_icmp_ne (tgt := 16) hx hb dX8_partOf_2 (by decide) (fun c1 => ?_) (fun c1 => ?_)
  · have hF := m_pos c1 hF
    refine lv_aload_n hx hb dX8_partOf_16 rfl (lv_at hl 0 rfl) ?_
    refine lv_iload_n hx hb dX8_partOf_17 rfl (lv_at hl 1 rfl) ?_
    obtain ⟨t2, ht2, hF⟩ := m_bnd hF
    refine mVP (ci := 8) (n := 1) (rest := []) (As := [.int x0]) CC hKN hGl hS (c_X8_claimOf l E a v x0 t2 ht2) gX8_partOf_X8_claimOf rfl ⟨rfl, rfl⟩ (by decide +kernel) ⟨Nat.le_of_ble_eq_true rfl, Nat.le_of_ble_eq_true rfl⟩ hP rfl rfl rfl rfl hl.1 rfl (Nat.le_of_ble_eq_true rfl) ⟨Nat.zero_le _, Nat.zero_le _⟩ dX8_partOf_18 ?_
    refine W.eq (g2 := F0 m 21 ls [.int t2]) rfl ?_
    have hF := Option.some.inj hF
    subst hF
    rw [hQ]
    exact W.iret hx hb hr (fun t ht _ => ⟨rfl, ht⟩) (fun _ h => by cases h) dX8_partOf_21
  · have hF := m_neg (fun n9 => n9 c1) hF
    refine lv_aload_n hx hb dX8_partOf_5 rfl (lv_at hl 0 rfl) ?_
    refine va_get (D := E.1) (ci := 8) (v := .ref (Modela_s a)) (C := RX8) (T := TX8) (N := 20) hx hb hts k1 hown hK hP 0 rfl rfl 1 (by decide) k0 (fun _ h9 => h9) rfl dX8_partOf_6 ?_
    refine lv_iconst (v := 2) hx hb dX8_partOf_9 (by decide) ?_
    refine lv_iload_n hx hb dX8_partOf_10 rfl (lv_at hl 1 rfl) ?_
    refine lv_iadd hx hb dX8_partOf_11 ?_
    obtain ⟨h3, hF⟩ := m_chk hF
    refine va_iald (f := (Model_s v)) hx hb hK hP 1 1 rfl rfl (mIn_ok h3) dX8_partOf_12 ?_
    refine W.eq (g2 := F0 m 13 ls [.int ((Model_s v) ((2 + x0)).toNatClampNeg)]) rfl ?_
    refine lv_goto (tgt := 21) hx hb dX8_partOf_13 (by decide) ?_
    have hF := Option.some.inj hF
    subst hF
    rw [hQ]
    exact W.iret hx hb hr (fun t ht _ => ⟨rfl, ht⟩) (fun _ h => by cases h) dX8_partOf_21

def st_X8_leastSkill_5 (v : ModelV) (rec5 : Int32 → Int32 → Option Int32) (y1_5 : Int32) (y2_5 : Int32) : Option Int32 :=
  (if mIn 20 926 = true then (if ((Model_s v) (20 : Int32).toNatClampNeg) ≤ y2_5 then some y1_5 else (if mIn (14 + y2_5) 926 = true then jp (fun (z0_54 : Int32) => rec5 z0_54 (y2_5 + 1)) (fun j54 => jp (fun (_ : Unit) => j54 y1_5) (fun j53 => (if ¬ ((Model_s v) ((14 + y2_5)).toNatClampNeg) = 0 then j53 () else (if mIn (39 + y2_5) 926 = true then (if y1_5 ≤ ((Model_s v) ((39 + y2_5)).toNatClampNeg) then j53 () else (if mIn (39 + y2_5) 926 = true then j54 ((Model_s v) ((39 + y2_5)).toNatClampNeg) else none)) else none)))) else none)) else none)
def lp_X8_leastSkill_5 (v : ModelV) : Nat → Int32 → Int32 → Option Int32
  | 0 => fun _ _ => none
  | n + 1 => st_X8_leastSkill_5 v (lp_X8_leastSkill_5 v n)
def fn_X8_leastSkill (v : ModelV) : Option Int32 :=
  lp_X8_leastSkill_5 v m_N 99 0
abbrev rmX8_leastSkill : Room := { frames := 0, cells := 0, slots := 0, locals := 0 }
set_option maxRecDepth 100000 in
set_option maxHeartbeats 400000 in
theorem c_X8_leastSkill (l : Launch) (E : mE) (a : ModelA) (v : ModelV) (t : Int32) (hF : fn_X8_leastSkill v = some t) : Met l yX8_leastSkill wsX8_leastSkill rmX8_leastSkill (mPp E [.ref (Modela_self a)] (Model_c E a v)) (mSp (some (.int t))) 0 0 (fun _ => False) := by
  refine mOfP (cc := cX8_leastSkill) (maxL := 3) (ret := (some .int)) (by decide) rfl (Nat.le_of_ble_eq_true rfl) ?_
  intro p e_ s m args below meth c Q hQ CC hr hlocks hP hKN hGl ls hl
  have hS : va_S (fun _ => False) s.heap s.heap [] := va_S.rf
  have hK := hKN.1
  have hx := CC.1
  have hb := CC.2.1
  have hml := CC.2.2.1
  have hown : s.vm.findClass RX8 = some m.cls := CC.2.2.2.1
  have hts := CC.2.2.2.2
  have hl : lv_has ls 3 [(0, .ref (Modela_self a))] := hl
  have k0 := hts (.fieldLink RX8 9 "OneDidAllModel" "s" "[I") (by decide +kernel)
  have k1 := (show ∀ w ∈ u_ws RX8 TX8 20, w ∈ wsX8_leastSkill by decide +kernel)
  unfold fn_X8_leastSkill at hF
  refine lv_bipush (v := 99) hx hb dX8_leastSkill_0 (by decide) ?_
  refine lv_istore_n (lv' := [(1, .int 99), (0, .ref (Modela_self a))]) hx hb dX8_leastSkill_2 rfl hl (by decide) rfl (fun ls hl => ?_)
  refine lv_iconst (v := 0) hx hb dX8_leastSkill_3 (by decide) ?_
  refine lv_istore_n (lv' := [(2, .int 0), (1, .int 99), (0, .ref (Modela_self a))]) hx hb dX8_leastSkill_4 rfl hl (by decide) rfl (fun ls hl => ?_)
  have hL5 : ∀ (n : Nat) (y1_5 : Int32) (y2_5 : Int32) (ls : Array Slot), lp_X8_leastSkill_5 v n y1_5 y2_5 = some t → lv_has ls 3 [(0, .ref (Modela_self a)), (1, .int y1_5), (2, .int y2_5)] → W p l e_ rmX8_leastSkill s m args below meth c s.heap [] 0 0 Q (F0 m 5 ls []) := by
    intro n
    induction n with
    | zero =>
      intro y1_5 y2_5 ls hF
      exact nomatch (show (none : Option Int32) = some t from hF)
    | succ n ih5 =>
      intro y1_5 y2_5 ls hF hl
      have hF : st_X8_leastSkill_5 v (lp_X8_leastSkill_5 v n) y1_5 y2_5 = some t := hF
      unfold st_X8_leastSkill_5 at hF
      refine lv_iload_n hx hb dX8_leastSkill_5 rfl (lv_at hl 2 rfl) ?_
      refine lv_aload_n hx hb dX8_leastSkill_6 rfl (lv_at hl 0 rfl) ?_
      refine va_get (D := E.1) (ci := 8) (v := .ref (Modela_s a)) (C := RX8) (T := TX8) (N := 20) hx hb hts k1 hown hK hP 0 rfl rfl 1 (by decide) k0 (fun _ h9 => h9) rfl dX8_leastSkill_7 ?_
      refine lv_bipush (v := 20) hx hb dX8_leastSkill_10 (by decide) ?_
      obtain ⟨h1, hF⟩ := m_chk hF
      refine va_iald (f := (Model_s v)) hx hb hK hP 1 1 rfl rfl (mIn_ok h1) dX8_leastSkill_12 ?_
      refine W.eq (g2 := F0 m 13 ls [.int ((Model_s v) (20 : Int32).toNatClampNeg), .int y2_5]) rfl ?_
      refine lv_icmp_ge (tgt := 61) hx hb dX8_leastSkill_13 (by decide) (fun c2 => ?_) (fun c2 => ?_)
      · have hF := m_pos c2 hF
        refine lv_iload_n hx hb dX8_leastSkill_61 rfl (lv_at hl 1 rfl) ?_
        have hF := Option.some.inj hF
        subst hF
        rw [hQ]
        exact W.iret hx hb hr (fun t ht _ => ⟨rfl, ht⟩) (fun _ h => by cases h) dX8_leastSkill_62
      · have hF := m_neg c2 hF
        refine lv_aload_n hx hb dX8_leastSkill_16 rfl (lv_at hl 0 rfl) ?_
        refine va_get (D := E.1) (ci := 8) (v := .ref (Modela_s a)) (C := RX8) (T := TX8) (N := 20) hx hb hts k1 hown hK hP 0 rfl rfl 1 (by decide) k0 (fun _ h9 => h9) rfl dX8_leastSkill_17 ?_
        refine lv_bipush (v := 14) hx hb dX8_leastSkill_20 (by decide) ?_
        refine lv_iload_n hx hb dX8_leastSkill_22 rfl (lv_at hl 2 rfl) ?_
        refine lv_iadd hx hb dX8_leastSkill_23 ?_
        obtain ⟨h3, hF⟩ := m_chk hF
        refine va_iald (f := (Model_s v)) hx hb hK hP 1 1 rfl rfl (mIn_ok h3) dX8_leastSkill_24 ?_
        refine W.eq (g2 := F0 m 25 ls [.int ((Model_s v) ((14 + y2_5)).toNatClampNeg)]) rfl ?_
        obtain ⟨j54, hjd54, hF⟩ := m_jp hF
        have hj54 : ∀ (z0_54 : Int32) (ls : Array Slot), j54 z0_54 = some t → lv_has ls 3 [(0, .ref (Modela_self a)), (2, .int y2_5)] → W p l e_ rmX8_leastSkill s m args below meth c s.heap [] 0 0 Q (F0 m 54 ls [.int z0_54]) := by
          intro z0_54 ls hF hl
          rw [hjd54] at hF
          refine lv_istore_n (lv' := [(1, .int z0_54), (0, .ref (Modela_self a)), (2, .int y2_5)]) hx hb dX8_leastSkill_54 rfl hl (by decide) rfl (fun ls hl => ?_)
          refine lv_iinc (v := (y2_5 + 1)) (lv' := [(2, .int (y2_5 + 1)), (1, .int z0_54), (0, .ref (Modela_self a))]) hx hb dX8_leastSkill_55 hl (k := 2) rfl rfl (by decide) rfl (fun ls hl => ?_)
          refine lv_goto (tgt := 5) hx hb dX8_leastSkill_58 (by decide) ?_
          exact ih5 z0_54 (y2_5 + 1) ls hF (lv_sub hl [2, 1, 0] rfl)
        clear hjd54
        obtain ⟨j53, hjd53, hF⟩ := m_jp hF
        have hj53 : ∀ (ls : Array Slot), j53 () = some t → lv_has ls 3 [(0, .ref (Modela_self a)), (1, .int y1_5), (2, .int y2_5)] → W p l e_ rmX8_leastSkill s m args below meth c s.heap [] 0 0 Q (F0 m 53 ls []) := by
          intro ls hF hl
          rw [hjd53] at hF
          refine lv_iload_n hx hb dX8_leastSkill_53 rfl (lv_at hl 1 rfl) ?_
          exact hj54 y1_5 ls hF (lv_sub hl [0, 2] rfl)
        clear hjd53
        refine lv_if_ne (tgt := 53) hx hb dX8_leastSkill_25 (by decide) (fun c4 => ?_) (fun c4 => ?_)
        · have hF := m_pos c4 hF
          exact hj53 ls hF (lv_sub hl [0, 1, 2] rfl)
        · have hF := m_neg (fun n9 => n9 c4) hF
          refine lv_aload_n hx hb dX8_leastSkill_28 rfl (lv_at hl 0 rfl) ?_
          refine va_get (D := E.1) (ci := 8) (v := .ref (Modela_s a)) (C := RX8) (T := TX8) (N := 20) hx hb hts k1 hown hK hP 0 rfl rfl 1 (by decide) k0 (fun _ h9 => h9) rfl dX8_leastSkill_29 ?_
          refine lv_bipush (v := 39) hx hb dX8_leastSkill_32 (by decide) ?_
          refine lv_iload_n hx hb dX8_leastSkill_34 rfl (lv_at hl 2 rfl) ?_
          refine lv_iadd hx hb dX8_leastSkill_35 ?_
          obtain ⟨h5, hF⟩ := m_chk hF
          refine va_iald (f := (Model_s v)) hx hb hK hP 1 1 rfl rfl (mIn_ok h5) dX8_leastSkill_36 ?_
          refine W.eq (g2 := F0 m 37 ls [.int ((Model_s v) ((39 + y2_5)).toNatClampNeg)]) rfl ?_
          refine lv_iload_n hx hb dX8_leastSkill_37 rfl (lv_at hl 1 rfl) ?_
          refine lv_icmp_ge (tgt := 53) hx hb dX8_leastSkill_38 (by decide) (fun c6 => ?_) (fun c6 => ?_)
          · have hF := m_pos c6 hF
            exact hj53 ls hF (lv_sub hl [0, 1, 2] rfl)
          · have hF := m_neg c6 hF
            refine lv_aload_n hx hb dX8_leastSkill_41 rfl (lv_at hl 0 rfl) ?_
            refine va_get (D := E.1) (ci := 8) (v := .ref (Modela_s a)) (C := RX8) (T := TX8) (N := 20) hx hb hts k1 hown hK hP 0 rfl rfl 1 (by decide) k0 (fun _ h9 => h9) rfl dX8_leastSkill_42 ?_
            refine lv_bipush (v := 39) hx hb dX8_leastSkill_45 (by decide) ?_
            refine lv_iload_n hx hb dX8_leastSkill_47 rfl (lv_at hl 2 rfl) ?_
            refine lv_iadd hx hb dX8_leastSkill_48 ?_
            obtain ⟨h7, hF⟩ := m_chk hF
            refine va_iald (f := (Model_s v)) hx hb hK hP 1 1 rfl rfl (mIn_ok h7) dX8_leastSkill_49 ?_
            refine W.eq (g2 := F0 m 50 ls [.int ((Model_s v) ((39 + y2_5)).toNatClampNeg)]) rfl ?_
            refine lv_goto (tgt := 54) hx hb dX8_leastSkill_50 (by decide) ?_
            exact hj54 ((Model_s v) ((39 + y2_5)).toNatClampNeg) ls hF (lv_sub hl [0, 2] rfl)
  exact hL5 m_N 99 0 ls hF (lv_sub hl [2, 1, 0] rfl)

def st_X8_markOf_47 (v : ModelV) (x1 : Int32) (j94 : Int32 → Option Int32) (rec47 : Int32 → Int32 → Option Int32) (y4_47 : Int32) (y5_47 : Int32) : Option Int32 :=
  (if mIn 20 926 = true then (if ((Model_s v) (20 : Int32).toNatClampNeg) ≤ y5_47 then j94 y4_47 else (if mIn (14 + y5_47) 926 = true then jp (fun (z0_85 : Int32) => rec47 (y4_47 + z0_85) (y5_47 + 1)) (fun j85 => (if ¬ ((Model_s v) ((14 + y5_47)).toNatClampNeg) = 0 then j85 0 else (Option.bind (fn_X8_partOf v y5_47 x1) (fun t15 => j85 t15)))) else none)) else none)
def lp_X8_markOf_47 (v : ModelV) (x1 : Int32) (j94 : Int32 → Option Int32) : Nat → Int32 → Int32 → Option Int32
  | 0 => fun _ _ => none
  | n + 1 => st_X8_markOf_47 v x1 j94 (lp_X8_markOf_47 v x1 j94 n)
def fn_X8_markOf (v : ModelV) (x0 : Int32) (x1 : Int32) : Option Int32 :=
  (if mIn (14 + x0) 926 = true then (if ¬ ((Model_s v) ((14 + x0)).toNatClampNeg) = 1 then (Option.bind (fn_X8_baseNow v) (fun t3 => (if ¬ x1 = 0 then (if ¬ x1 = 3 then jp (fun (x4_94 : Int32) => (if ¬ x4_94 = 0 then (Option.bind (fn_X8_partOf v x0 x1) (fun t7 => (Option.bind (fn_X8_manyIn v) (fun t8 => (if ¬ x4_94 = 0 then (Option.bind (fn_X8_within (((t3 * t7) * t8) / x4_94) 0 100) (fun t10 => some t10)) else none))))) else some t3)) (fun j94 => lp_X8_markOf_47 v x1 j94 m_N 0 0) else (Option.bind (fn_X8_leastSkill v) (fun t16 => some ((t3 * t16) / 9)))) else some t3))) else some 0) else none)
abbrev rmX8_markOf : Room := { frames := 4, cells := 0, slots := 0, locals := 89 }
set_option maxRecDepth 100000 in
set_option maxHeartbeats 400000 in
theorem c_X8_markOf (l : Launch) (E : mE) (a : ModelA) (v : ModelV) (x0 : Int32) (x1 : Int32) (t : Int32) (hF : fn_X8_markOf v x0 x1 = some t) : Met l yX8_markOf wsX8_markOf rmX8_markOf (mPp E [.ref (Modela_self a), .int x0, .int x1] (Model_c E a v)) (mSp (some (.int t))) 0 0 (fun _ => False) := by
  refine mOfP (cc := cX8_markOf) (maxL := 6) (ret := (some .int)) (by decide) rfl (Nat.le_of_ble_eq_true rfl) ?_
  intro p e_ s m args below meth c Q hQ CC hr hlocks hP hKN hGl ls hl
  have hS : va_S (fun _ => False) s.heap s.heap [] := va_S.rf
  have hK := hKN.1
  have hx := CC.1
  have hb := CC.2.1
  have hml := CC.2.2.1
  have hown : s.vm.findClass RX8 = some m.cls := CC.2.2.2.1
  have hts := CC.2.2.2.2
  have hl : lv_has ls 6 [(0, .ref (Modela_self a)), (1, .int x0), (2, .int x1)] := hl
  have k0 := hts (.fieldLink RX8 9 "OneDidAllModel" "s" "[I") (by decide +kernel)
  have k1 := (show ∀ w ∈ u_ws RX8 TX8 20, w ∈ wsX8_markOf by decide +kernel)
  unfold fn_X8_markOf at hF
  refine lv_aload_n hx hb dX8_markOf_0 rfl (lv_at hl 0 rfl) ?_
  refine va_get (D := E.1) (ci := 8) (v := .ref (Modela_s a)) (C := RX8) (T := TX8) (N := 20) hx hb hts k1 hown hK hP 0 rfl rfl 1 (by decide) k0 (fun _ h9 => h9) rfl dX8_markOf_1 ?_
  refine lv_bipush (v := 14) hx hb dX8_markOf_4 (by decide) ?_
  refine lv_iload_n hx hb dX8_markOf_6 rfl (lv_at hl 1 rfl) ?_
  refine lv_iadd hx hb dX8_markOf_7 ?_
  obtain ⟨h1, hF⟩ := m_chk hF
  refine va_iald (f := (Model_s v)) hx hb hK hP 1 1 rfl rfl (mIn_ok h1) dX8_markOf_8 ?_
  refine W.eq (g2 := F0 m 9 ls [.int ((Model_s v) ((14 + x0)).toNatClampNeg)]) rfl ?_
  refine lv_iconst (v := 1) hx hb dX8_markOf_9 (by decide) ?_
  refine lv_icmp_ne (tgt := 15) hx hb dX8_markOf_10 (by decide) (fun c2 => ?_) (fun c2 => ?_)
  · have hF := m_pos c2 hF
    refine lv_aload_n hx hb dX8_markOf_15 rfl (lv_at hl 0 rfl) ?_
    obtain ⟨t3, ht3, hF⟩ := m_bnd hF
    refine mVP (ci := 8) (n := 0) (rest := []) (As := []) CC hKN hGl hS (c_X8_baseNow l E a v t3 ht3) gX8_markOf_X8_baseNow rfl ⟨rfl, rfl⟩ (by decide +kernel) ⟨Nat.le_of_ble_eq_true rfl, Nat.le_of_ble_eq_true rfl⟩ hP rfl rfl rfl rfl hl.1 rfl (Nat.le_of_ble_eq_true rfl) ⟨Nat.zero_le _, Nat.zero_le _⟩ dX8_markOf_16 ?_
    refine W.eq (g2 := F0 m 19 ls [.int t3]) rfl ?_
    refine lv_istore_n (lv' := [(3, .int t3), (0, .ref (Modela_self a)), (1, .int x0), (2, .int x1)]) hx hb dX8_markOf_19 rfl hl (by decide) rfl (fun ls hl => ?_)
    refine lv_iload_n hx hb dX8_markOf_20 rfl (lv_at hl 3 rfl) ?_
    refine lv_if_ne (tgt := 26) hx hb dX8_markOf_21 (by decide) (fun c4 => ?_) (fun c4 => ?_)
    · have hF := m_pos c4 hF
      refine lv_iload_n hx hb dX8_markOf_26 rfl (lv_at hl 3 rfl) ?_
      refine lv_iconst (v := 3) hx hb dX8_markOf_27 (by decide) ?_
      refine lv_icmp_ne (tgt := 41) hx hb dX8_markOf_28 (by decide) (fun c5 => ?_) (fun c5 => ?_)
      · have hF := m_pos c5 hF
        refine lv_iconst (v := 0) hx hb dX8_markOf_41 (by decide) ?_
        refine lv_istore (lv' := [(4, .int 0), (3, .int t3), (0, .ref (Modela_self a)), (1, .int x0), (2, .int x1)]) hx hb dX8_markOf_42 hl (by decide) rfl (fun ls hl => ?_)
        refine lv_iconst (v := 0) hx hb dX8_markOf_44 (by decide) ?_
        refine lv_istore (lv' := [(5, .int 0), (4, .int 0), (3, .int t3), (0, .ref (Modela_self a)), (1, .int x0), (2, .int x1)]) hx hb dX8_markOf_45 hl (by decide) rfl (fun ls hl => ?_)
        obtain ⟨j94, hjd94, hF⟩ := m_jp hF
        have hj94 : ∀ (x4_94 : Int32) (ls : Array Slot), j94 x4_94 = some t → lv_has ls 6 [(0, .ref (Modela_self a)), (1, .int x0), (2, .int x1), (3, .int t3), (4, .int x4_94)] → W p l e_ rmX8_markOf s m args below meth c s.heap [] 0 0 Q (F0 m 94 ls []) := by
          intro x4_94 ls hF hl
          rw [hjd94] at hF
          refine lv_iload hx hb dX8_markOf_94 (lv_at hl 4 rfl) ?_
          refine lv_if_ne (tgt := 103) hx hb dX8_markOf_96 (by decide) (fun c6 => ?_) (fun c6 => ?_)
          · have hF := m_pos c6 hF
            refine lv_iload_n hx hb dX8_markOf_103 rfl (lv_at hl 3 rfl) ?_
            refine lv_aload_n hx hb dX8_markOf_104 rfl (lv_at hl 0 rfl) ?_
            refine lv_iload_n hx hb dX8_markOf_105 rfl (lv_at hl 1 rfl) ?_
            refine lv_iload_n hx hb dX8_markOf_106 rfl (lv_at hl 2 rfl) ?_
            obtain ⟨t7, ht7, hF⟩ := m_bnd hF
            refine mVP (ci := 8) (n := 2) (rest := [.int t3]) (As := [.int x0, .int x1]) CC hKN hGl hS (c_X8_partOf l E a v x0 x1 t7 ht7) gX8_markOf_X8_partOf rfl ⟨rfl, rfl⟩ (by decide +kernel) ⟨Nat.le_of_ble_eq_true rfl, Nat.le_of_ble_eq_true rfl⟩ hP rfl rfl rfl rfl hl.1 rfl (Nat.le_of_ble_eq_true rfl) ⟨Nat.zero_le _, Nat.zero_le _⟩ dX8_markOf_107 ?_
            refine W.eq (g2 := F0 m 110 ls [.int t7, .int t3]) rfl ?_
            refine lv_imul hx hb dX8_markOf_110 ?_
            refine lv_aload_n hx hb dX8_markOf_111 rfl (lv_at hl 0 rfl) ?_
            obtain ⟨t8, ht8, hF⟩ := m_bnd hF
            refine mVP (ci := 8) (n := 0) (rest := [.int (t3 * t7)]) (As := []) CC hKN hGl hS (c_X8_manyIn l E a v t8 ht8) gX8_markOf_X8_manyIn rfl ⟨rfl, rfl⟩ (by decide +kernel) ⟨Nat.le_of_ble_eq_true rfl, Nat.le_of_ble_eq_true rfl⟩ hP rfl rfl rfl rfl hl.1 rfl (Nat.le_of_ble_eq_true rfl) ⟨Nat.zero_le _, Nat.zero_le _⟩ dX8_markOf_112 ?_
            refine W.eq (g2 := F0 m 115 ls [.int t8, .int (t3 * t7)]) rfl ?_
            refine lv_imul hx hb dX8_markOf_115 ?_
            refine lv_iload hx hb dX8_markOf_116 (lv_at hl 4 rfl) ?_
            obtain ⟨h9, hF⟩ := m_chk hF
            refine lv_idiv hx hb dX8_markOf_118 h9 ?_
            refine lv_iconst (v := 0) hx hb dX8_markOf_119 (by decide) ?_
            refine lv_bipush (v := 100) hx hb dX8_markOf_120 (by decide) ?_
            obtain ⟨t10, ht10, hF⟩ := m_bnd hF
            refine mSP (n := 3) (rest := []) (As := [.int (((t3 * t7) * t8) / x4_94), .int 0, .int 100]) CC hKN hGl hS (c_X8_within l E (((t3 * t7) * t8) / x4_94) 0 100 t10 ht10) gX8_markOf_X8_within rfl ⟨rfl, rfl⟩ (by decide +kernel) ⟨Nat.le_of_ble_eq_true rfl, Nat.le_of_ble_eq_true rfl⟩ m_nil rfl hl.1 rfl (Nat.le_of_ble_eq_true rfl) ⟨Nat.zero_le _, Nat.zero_le _⟩ dX8_markOf_122 ?_
            refine W.eq (g2 := F0 m 125 ls [.int t10]) rfl ?_
            have hF := Option.some.inj hF
            subst hF
            rw [hQ]
            exact W.iret hx hb hr (fun t ht _ => ⟨rfl, ht⟩) (fun _ h => by cases h) dX8_markOf_125
          · have hF := m_neg (fun n9 => n9 c6) hF
            refine lv_iload_n hx hb dX8_markOf_99 rfl (lv_at hl 3 rfl) ?_
            refine lv_goto (tgt := 125) hx hb dX8_markOf_100 (by decide) ?_
            have hF := Option.some.inj hF
            subst hF
            rw [hQ]
            exact W.iret hx hb hr (fun t ht _ => ⟨rfl, ht⟩) (fun _ h => by cases h) dX8_markOf_125
        clear hjd94
        have hL47 : ∀ (n : Nat) (y4_47 : Int32) (y5_47 : Int32) (ls : Array Slot), lp_X8_markOf_47 v x1 j94 n y4_47 y5_47 = some t → lv_has ls 6 [(0, .ref (Modela_self a)), (1, .int x0), (2, .int x1), (3, .int t3), (4, .int y4_47), (5, .int y5_47)] → W p l e_ rmX8_markOf s m args below meth c s.heap [] 0 0 Q (F0 m 47 ls []) := by
          intro n
          induction n with
          | zero =>
            intro y4_47 y5_47 ls hF
            exact nomatch (show (none : Option Int32) = some t from hF)
          | succ n ih47 =>
            intro y4_47 y5_47 ls hF hl
            have hF : st_X8_markOf_47 v x1 j94 (lp_X8_markOf_47 v x1 j94 n) y4_47 y5_47 = some t := hF
            unfold st_X8_markOf_47 at hF
            refine lv_iload hx hb dX8_markOf_47 (lv_at hl 5 rfl) ?_
            refine lv_aload_n hx hb dX8_markOf_49 rfl (lv_at hl 0 rfl) ?_
            refine va_get (D := E.1) (ci := 8) (v := .ref (Modela_s a)) (C := RX8) (T := TX8) (N := 20) hx hb hts k1 hown hK hP 0 rfl rfl 1 (by decide) k0 (fun _ h9 => h9) rfl dX8_markOf_50 ?_
            refine lv_bipush (v := 20) hx hb dX8_markOf_53 (by decide) ?_
            obtain ⟨h11, hF⟩ := m_chk hF
            refine va_iald (f := (Model_s v)) hx hb hK hP 1 1 rfl rfl (mIn_ok h11) dX8_markOf_55 ?_
            refine W.eq (g2 := F0 m 56 ls [.int ((Model_s v) (20 : Int32).toNatClampNeg), .int y5_47]) rfl ?_
            refine lv_icmp_ge (tgt := 94) hx hb dX8_markOf_56 (by decide) (fun c12 => ?_) (fun c12 => ?_)
            · have hF := m_pos c12 hF
              exact hj94 y4_47 ls hF (lv_sub hl [0, 1, 2, 3, 4] rfl)
            · have hF := m_neg c12 hF
              refine lv_iload hx hb dX8_markOf_59 (lv_at hl 4 rfl) ?_
              refine lv_aload_n hx hb dX8_markOf_61 rfl (lv_at hl 0 rfl) ?_
              refine va_get (D := E.1) (ci := 8) (v := .ref (Modela_s a)) (C := RX8) (T := TX8) (N := 20) hx hb hts k1 hown hK hP 0 rfl rfl 1 (by decide) k0 (fun _ h9 => h9) rfl dX8_markOf_62 ?_
              refine lv_bipush (v := 14) hx hb dX8_markOf_65 (by decide) ?_
              refine lv_iload hx hb dX8_markOf_67 (lv_at hl 5 rfl) ?_
              refine lv_iadd hx hb dX8_markOf_69 ?_
              obtain ⟨h13, hF⟩ := m_chk hF
              refine va_iald (f := (Model_s v)) hx hb hK hP 1 1 rfl rfl (mIn_ok h13) dX8_markOf_70 ?_
              refine W.eq (g2 := F0 m 71 ls [.int ((Model_s v) ((14 + y5_47)).toNatClampNeg), .int y4_47]) rfl ?_
              obtain ⟨j85, hjd85, hF⟩ := m_jp hF
              have hj85 : ∀ (z0_85 : Int32) (ls : Array Slot), j85 z0_85 = some t → lv_has ls 6 [(0, .ref (Modela_self a)), (1, .int x0), (2, .int x1), (3, .int t3), (5, .int y5_47)] → W p l e_ rmX8_markOf s m args below meth c s.heap [] 0 0 Q (F0 m 85 ls [.int z0_85, .int y4_47]) := by
                intro z0_85 ls hF hl
                rw [hjd85] at hF
                refine lv_iadd hx hb dX8_markOf_85 ?_
                refine lv_istore (lv' := [(4, .int (y4_47 + z0_85)), (0, .ref (Modela_self a)), (1, .int x0), (2, .int x1), (3, .int t3), (5, .int y5_47)]) hx hb dX8_markOf_86 hl (by decide) rfl (fun ls hl => ?_)
                refine lv_iinc (v := (y5_47 + 1)) (lv' := [(5, .int (y5_47 + 1)), (4, .int (y4_47 + z0_85)), (0, .ref (Modela_self a)), (1, .int x0), (2, .int x1), (3, .int t3)]) hx hb dX8_markOf_88 hl (k := 5) rfl rfl (by decide) rfl (fun ls hl => ?_)
                refine lv_goto (tgt := 47) hx hb dX8_markOf_91 (by decide) ?_
                exact ih47 (y4_47 + z0_85) (y5_47 + 1) ls hF (lv_sub hl [2, 3, 4, 5, 1, 0] rfl)
              clear hjd85
              refine lv_if_ne (tgt := 84) hx hb dX8_markOf_71 (by decide) (fun c14 => ?_) (fun c14 => ?_)
              · have hF := m_pos c14 hF
                refine lv_iconst (v := 0) hx hb dX8_markOf_84 (by decide) ?_
                exact hj85 0 ls hF (lv_sub hl [0, 1, 2, 3, 5] rfl)
              · have hF := m_neg (fun n9 => n9 c14) hF
                refine lv_aload_n hx hb dX8_markOf_74 rfl (lv_at hl 0 rfl) ?_
                refine lv_iload hx hb dX8_markOf_75 (lv_at hl 5 rfl) ?_
                refine lv_iload_n hx hb dX8_markOf_77 rfl (lv_at hl 2 rfl) ?_
                obtain ⟨t15, ht15, hF⟩ := m_bnd hF
                refine mVP (ci := 8) (n := 2) (rest := [.int y4_47]) (As := [.int y5_47, .int x1]) CC hKN hGl hS (c_X8_partOf l E a v y5_47 x1 t15 ht15) gX8_markOf_X8_partOf rfl ⟨rfl, rfl⟩ (by decide +kernel) ⟨Nat.le_of_ble_eq_true rfl, Nat.le_of_ble_eq_true rfl⟩ hP rfl rfl rfl rfl hl.1 rfl (Nat.le_of_ble_eq_true rfl) ⟨Nat.zero_le _, Nat.zero_le _⟩ dX8_markOf_78 ?_
                refine W.eq (g2 := F0 m 81 ls [.int t15, .int y4_47]) rfl ?_
                refine lv_goto (tgt := 85) hx hb dX8_markOf_81 (by decide) ?_
                exact hj85 t15 ls hF (lv_sub hl [0, 1, 2, 3, 5] rfl)
        exact hL47 m_N 0 0 ls hF (lv_sub hl [3, 4, 5, 2, 1, 0] rfl)
      · have hF := m_neg (fun n9 => n9 c5) hF
        refine lv_iload_n hx hb dX8_markOf_31 rfl (lv_at hl 0 rfl) ?_
        refine lv_aload_n hx hb dX8_markOf_32 rfl (lv_at hl 1 rfl) ?_
        obtain ⟨t16, ht16, hF⟩ := m_bnd hF
        refine mVP (ci := 8) (n := 0) (rest := [.int t3]) (As := []) CC hKN hGl hS (c_X8_leastSkill l E a v t16 ht16) gX8_markOf_X8_leastSkill rfl ⟨rfl, rfl⟩ (by decide +kernel) ⟨Nat.le_of_ble_eq_true rfl, Nat.le_of_ble_eq_true rfl⟩ hP rfl rfl rfl rfl hl.1 rfl (Nat.le_of_ble_eq_true rfl) ⟨Nat.zero_le _, Nat.zero_le _⟩ dX8_markOf_33 ?_
        refine W.eq (g2 := F0 m 36 ls [.int t16, .int t3]) rfl ?_
        refine lv_imul hx hb dX8_markOf_36 ?_
        refine lv_bipush (v := 9) hx hb dX8_markOf_37 (by decide) ?_
        refine lv_idiv hx hb dX8_markOf_39 (by decide) ?_
        have hF := Option.some.inj hF
        subst hF
        rw [hQ]
        exact W.iret hx hb hr (fun t ht _ => ⟨rfl, ht⟩) (fun _ h => by cases h) dX8_markOf_40
    · have hF := m_neg (fun n9 => n9 c4) hF
      refine lv_iload_n hx hb dX8_markOf_24 rfl (lv_at hl 0 rfl) ?_
      have hF := Option.some.inj hF
      subst hF
      rw [hQ]
      exact W.iret hx hb hr (fun t ht _ => ⟨rfl, ht⟩) (fun _ h => by cases h) dX8_markOf_25
  · have hF := m_neg (fun n9 => n9 c2) hF
    refine lv_iconst (v := 0) hx hb dX8_markOf_13 (by decide) ?_
    have hF := Option.some.inj hF
    subst hF
    rw [hQ]
    exact W.iret hx hb hr (fun t ht _ => ⟨rfl, ht⟩) (fun _ h => by cases h) dX8_markOf_14

