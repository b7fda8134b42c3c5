def fn_X2_rowNow (v : GroupV) (x0 : Int32) : Option Int32 :=
  (if mIn ((x0 * 4) + (mRem (Group_week v) 4)) 24 = true then some ((Group_rows v) (((x0 * 4) + (mRem (Group_week v) 4))).toNatClampNeg) else none)
abbrev rmX2_rowNow : Room := { frames := 0, cells := 0, slots := 0, locals := 0 }
set_option maxRecDepth 100000 in
set_option maxHeartbeats 4000000 in
theorem c_X2_rowNow (l : Launch) (E : mE) (a : GroupA) (v : GroupV) (x0 : Int32) (t : Int32) (hF : fn_X2_rowNow v x0 = some t) : Met l yX2_rowNow wsX2_rowNow rmX2_rowNow (mPp E [.ref (Groupa_self a), .int x0] (Group_c E a v)) (mSp (some (.int t))) 0 0 (fun _ => False) := by
  refine mOfP (cc := cX2_rowNow) (maxL := 2) (ret := (some .int)) (by decide) rfl (Nat.le_of_ble_eq_true rfl) ?_
  intro p e_ s m args below meth c Q hQ CC hr hlocks hP hKN hGl ls hl
  have hS : va_S (fun _ => False) s.heap s.heap [] := va_S.rf
  have hK := hKN.1
  have hx := CC.1
  have hb := CC.2.1
  have hml := CC.2.2.1
  have hown : s.vm.findClass RX2 = some m.cls := CC.2.2.2.1
  have hts := CC.2.2.2.2
  have hl : lv_has ls 2 [(0, .ref (Groupa_self a)), (1, .int x0)] := hl
  have k0 := hts (.fieldLink RX2 41 "OneDidAll$Group" "rows" "[I") (by decide +kernel)
  have k1 := (show ∀ w ∈ u_ws RX2 TX2 11, w ∈ wsX2_rowNow by decide +kernel)
  have k2 := hts (.fieldLink RX2 15 "OneDidAll$Group" "week" "I") (by decide +kernel)
  unfold fn_X2_rowNow at hF
  refine lv_aload_n hx hb dX2_rowNow_0 rfl (lv_at hl 0 rfl) ?_
  refine va_get (D := E.1) (ci := 2) (v := .ref (Groupa_rows a)) (C := RX2) (T := TX2) (N := 11) hx hb hts k1 hown hK hP 0 rfl rfl 9 (by decide) k0 (fun _ h9 => h9) rfl dX2_rowNow_1 ?_
  refine lv_iload_n hx hb dX2_rowNow_4 rfl (lv_at hl 1 rfl) ?_
  refine lv_iconst (v := 4) hx hb dX2_rowNow_5 (by decide) ?_
  refine lv_imul hx hb dX2_rowNow_6 ?_
  refine lv_aload_n hx hb dX2_rowNow_7 rfl (lv_at hl 0 rfl) ?_
  refine va_get (D := E.1) (ci := 2) (v := .int (Group_week v)) (C := RX2) (T := TX2) (N := 11) hx hb hts k1 hown hK hP 0 rfl rfl 1 (by decide) k2 (fun _ h9 => h9) rfl dX2_rowNow_8 ?_
  refine lv_iconst (v := 4) hx hb dX2_rowNow_11 (by decide) ?_
  refine lv_irem hx hb dX2_rowNow_12 (by decide) ?_
  refine W.eq (g2 := F0 m 13 ls [.int (mRem (Group_week v) 4), .int (x0 * 4), .ref (Groupa_rows a)]) rfl ?_
  refine lv_iadd hx hb dX2_rowNow_13 ?_
  obtain ⟨h1, hF⟩ := m_chk hF
  refine va_iald (f := (Group_rows v)) hx hb hK hP 7 1 rfl rfl (mIn_ok h1) dX2_rowNow_14 ?_
  refine W.eq (g2 := F0 m 15 ls [.int ((Group_rows v) (((x0 * 4) + (mRem (Group_week v) 4))).toNatClampNeg)]) rfl ?_
  have hF := Option.some.inj hF
  subst hF
  rw [hQ]
  exact W.iret hx hb hr (fun t ht _ => ⟨rfl, ht⟩) (fun _ h => by cases h) dX2_rowNow_15

def st_X2_countIn_4 (v : GroupV) (rec4 : Int32 → Int32 → Option Int32) (y1_4 : Int32) (y2_4 : Int32) : Option Int32 :=
  (if (Group_size v) ≤ y2_4 then some y1_4 else (if mIn y2_4 6 = true then jp (fun (x1_24 : Int32) => rec4 x1_24 (y2_4 + 1)) (fun j24 => (if ¬ ((Group_outs v) (y2_4).toNatClampNeg) = 0 then j24 y1_4 else j24 (y1_4 + 1))) else none))
def lp_X2_countIn_4 (v : GroupV) : Nat → Int32 → Int32 → Option Int32
  | 0 => fun _ _ => none
  | n + 1 => st_X2_countIn_4 v (lp_X2_countIn_4 v n)
def fn_X2_countIn (v : GroupV) : Option Int32 :=
  lp_X2_countIn_4 v m_N 0 0
abbrev rmX2_countIn : Room := { frames := 0, cells := 0, slots := 0, locals := 0 }
set_option maxRecDepth 100000 in
set_option maxHeartbeats 4000000 in
theorem c_X2_countIn (l : Launch) (E : mE) (a : GroupA) (v : GroupV) (t : Int32) (hF : fn_X2_countIn v = some t) : Met l yX2_countIn wsX2_countIn rmX2_countIn (mPp E [.ref (Groupa_self a)] (Group_c E a v)) (mSp (some (.int t))) 0 0 (fun _ => False) := by
  refine mOfP (cc := cX2_countIn) (maxL := 3) (ret := (some .int)) (by decide) rfl (Nat.le_of_ble_eq_true rfl) ?_
  intro p e_ s m args below meth c Q hQ CC hr hlocks hP hKN hGl ls hl
  have hS : va_S (fun _ => False) s.heap s.heap [] := va_S.rf
  have hK := hKN.1
  have hx := CC.1
  have hb := CC.2.1
  have hml := CC.2.2.1
  have hown : s.vm.findClass RX2 = some m.cls := CC.2.2.2.1
  have hts := CC.2.2.2.2
  have hl : lv_has ls 3 [(0, .ref (Groupa_self a))] := hl
  have k0 := hts (.fieldLink RX2 9 "OneDidAll$Group" "size" "I") (by decide +kernel)
  have k1 := (show ∀ w ∈ u_ws RX2 TX2 11, w ∈ wsX2_countIn by decide +kernel)
  have k2 := hts (.fieldLink RX2 37 "OneDidAll$Group" "outs" "[Z") (by decide +kernel)
  unfold fn_X2_countIn at hF
  refine lv_iconst (v := 0) hx hb dX2_countIn_0 (by decide) ?_
  refine lv_istore_n (lv' := [(1, .int 0), (0, .ref (Groupa_self a))]) hx hb dX2_countIn_1 rfl hl (by decide) rfl (fun ls hl => ?_)
  refine lv_iconst (v := 0) hx hb dX2_countIn_2 (by decide) ?_
  refine lv_istore_n (lv' := [(2, .int 0), (1, .int 0), (0, .ref (Groupa_self a))]) hx hb dX2_countIn_3 rfl hl (by decide) rfl (fun ls hl => ?_)
  have hL4 : ∀ (n : Nat) (y1_4 : Int32) (y2_4 : Int32) (ls : Array Slot), lp_X2_countIn_4 v n y1_4 y2_4 = some t → lv_has ls 3 [(0, .ref (Groupa_self a)), (1, .int y1_4), (2, .int y2_4)] → W p l e_ rmX2_countIn s m args below meth c s.heap [] 0 0 Q (F0 m 4 ls []) := by
    intro n
    induction n with
    | zero =>
      intro y1_4 y2_4 ls hF
      exact nomatch (show (none : Option Int32) = some t from hF)
    | succ n ih4 =>
      intro y1_4 y2_4 ls hF hl
      have hF : st_X2_countIn_4 v (lp_X2_countIn_4 v n) y1_4 y2_4 = some t := hF
      unfold st_X2_countIn_4 at hF
      refine lv_iload_n hx hb dX2_countIn_4 rfl (lv_at hl 2 rfl) ?_
      refine lv_aload_n hx hb dX2_countIn_5 rfl (lv_at hl 0 rfl) ?_
      refine va_get (D := E.1) (ci := 2) (v := .int (Group_size v)) (C := RX2) (T := TX2) (N := 11) hx hb hts k1 hown hK hP 0 rfl rfl 0 (by decide) k0 (fun _ h9 => h9) rfl dX2_countIn_6 ?_
      refine lv_icmp_ge (tgt := 30) hx hb dX2_countIn_9 (by decide) (fun c1 => ?_) (fun c1 => ?_)
      · have hF := m_pos c1 hF
        refine lv_iload_n hx hb dX2_countIn_30 rfl (lv_at hl 1 rfl) ?_
        have hF := Option.some.inj hF
        subst hF
        rw [hQ]
        exact W.iret hx hb hr (fun t ht _ => ⟨rfl, ht⟩) (fun _ h => by cases h) dX2_countIn_31
      · have hF := m_neg c1 hF
        refine lv_aload_n hx hb dX2_countIn_12 rfl (lv_at hl 0 rfl) ?_
        refine va_get (D := E.1) (ci := 2) (v := .ref (Groupa_outs a)) (C := RX2) (T := TX2) (N := 11) hx hb hts k1 hown hK hP 0 rfl rfl 8 (by decide) k2 (fun _ h9 => h9) rfl dX2_countIn_13 ?_
        refine lv_iload_n hx hb dX2_countIn_16 rfl (lv_at hl 2 rfl) ?_
        obtain ⟨h2, hF⟩ := m_chk hF
        refine va_zald (f := (Group_outs v)) hx hb hK hP 6 2 rfl rfl (mIn_ok h2) dX2_countIn_17 ?_
        refine W.eq (g2 := F0 m 18 ls [.int ((Group_outs v) (y2_4).toNatClampNeg)]) rfl ?_
        obtain ⟨j24, hjd24, hF⟩ := m_jp hF
        have hj24 : ∀ (x1_24 : Int32) (ls : Array Slot), j24 x1_24 = some t → lv_has ls 3 [(0, .ref (Groupa_self a)), (1, .int x1_24), (2, .int y2_4)] → W p l e_ rmX2_countIn s m args below meth c s.heap [] 0 0 Q (F0 m 24 ls []) := by
          intro x1_24 ls hF hl
          rw [hjd24] at hF
          refine lv_iinc (v := (y2_4 + 1)) (lv' := [(2, .int (y2_4 + 1)), (0, .ref (Groupa_self a)), (1, .int x1_24)]) hx hb dX2_countIn_24 hl (k := 2) rfl rfl (by decide) rfl (fun ls hl => ?_)
          refine lv_goto (tgt := 4) hx hb dX2_countIn_27 (by decide) ?_
          exact ih4 x1_24 (y2_4 + 1) ls hF (lv_sub hl [1, 2, 0] rfl)
        clear hjd24
        refine lv_if_ne (tgt := 24) hx hb dX2_countIn_18 (by decide) (fun c3 => ?_) (fun c3 => ?_)
        · have hF := m_pos c3 hF
          exact hj24 y1_4 ls hF (lv_sub hl [0, 1, 2] rfl)
        · have hF := m_neg (fun n9 => n9 c3) hF
          refine lv_iinc (v := (y1_4 + 1)) (lv' := [(1, .int (y1_4 + 1)), (0, .ref (Groupa_self a)), (2, .int y2_4)]) hx hb dX2_countIn_21 hl (k := 1) rfl rfl (by decide) rfl (fun ls hl => ?_)
          exact hj24 (y1_4 + 1) ls hF (lv_sub hl [1, 0, 2] rfl)
  exact hL4 m_N 0 0 ls hF (lv_sub hl [2, 1, 0] rfl)

def st_X2_hoursOfAll_4 (v : GroupV) (rec4 : Int32 → Int32 → Option Int32) (y1_4 : Int32) (y2_4 : Int32) : Option Int32 :=
  (if (Group_size v) ≤ y2_4 then some y1_4 else (if mIn y2_4 6 = true then rec4 (y1_4 + ((Group_hours v) (y2_4).toNatClampNeg)) (y2_4 + 1) else none))
def lp_X2_hoursOfAll_4 (v : GroupV) : Nat → Int32 → Int32 → Option Int32
  | 0 => fun _ _ => none
  | n + 1 => st_X2_hoursOfAll_4 v (lp_X2_hoursOfAll_4 v n)
def fn_X2_hoursOfAll (v : GroupV) : Option Int32 :=
  lp_X2_hoursOfAll_4 v m_N 0 0
abbrev rmX2_hoursOfAll : Room := { frames := 0, cells := 0, slots := 0, locals := 0 }
set_option maxRecDepth 100000 in
set_option maxHeartbeats 4000000 in
theorem c_X2_hoursOfAll (l : Launch) (E : mE) (a : GroupA) (v : GroupV) (t : Int32) (hF : fn_X2_hoursOfAll v = some t) : Met l yX2_hoursOfAll wsX2_hoursOfAll rmX2_hoursOfAll (mPp E [.ref (Groupa_self a)] (Group_c E a v)) (mSp (some (.int t))) 0 0 (fun _ => False) := by
  refine mOfP (cc := cX2_hoursOfAll) (maxL := 3) (ret := (some .int)) (by decide) rfl (Nat.le_of_ble_eq_true rfl) ?_
  intro p e_ s m args below meth c Q hQ CC hr hlocks hP hKN hGl ls hl
  have hS : va_S (fun _ => False) s.heap s.heap [] := va_S.rf
  have hK := hKN.1
  have hx := CC.1
  have hb := CC.2.1
  have hml := CC.2.2.1
  have hown : s.vm.findClass RX2 = some m.cls := CC.2.2.2.1
  have hts := CC.2.2.2.2
  have hl : lv_has ls 3 [(0, .ref (Groupa_self a))] := hl
  have k0 := hts (.fieldLink RX2 9 "OneDidAll$Group" "size" "I") (by decide +kernel)
  have k1 := (show ∀ w ∈ u_ws RX2 TX2 11, w ∈ wsX2_hoursOfAll by decide +kernel)
  have k2 := hts (.fieldLink RX2 34 "OneDidAll$Group" "hours" "[I") (by decide +kernel)
  unfold fn_X2_hoursOfAll at hF
  refine lv_iconst (v := 0) hx hb dX2_hoursOfAll_0 (by decide) ?_
  refine lv_istore_n (lv' := [(1, .int 0), (0, .ref (Groupa_self a))]) hx hb dX2_hoursOfAll_1 rfl hl (by decide) rfl (fun ls hl => ?_)
  refine lv_iconst (v := 0) hx hb dX2_hoursOfAll_2 (by decide) ?_
  refine lv_istore_n (lv' := [(2, .int 0), (1, .int 0), (0, .ref (Groupa_self a))]) hx hb dX2_hoursOfAll_3 rfl hl (by decide) rfl (fun ls hl => ?_)
  have hL4 : ∀ (n : Nat) (y1_4 : Int32) (y2_4 : Int32) (ls : Array Slot), lp_X2_hoursOfAll_4 v n y1_4 y2_4 = some t → lv_has ls 3 [(0, .ref (Groupa_self a)), (1, .int y1_4), (2, .int y2_4)] → W p l e_ rmX2_hoursOfAll s m args below meth c s.heap [] 0 0 Q (F0 m 4 ls []) := by
    intro n
    induction n with
    | zero =>
      intro y1_4 y2_4 ls hF
      exact nomatch (show (none : Option Int32) = some t from hF)
    | succ n ih4 =>
      intro y1_4 y2_4 ls hF hl
      have hF : st_X2_hoursOfAll_4 v (lp_X2_hoursOfAll_4 v n) y1_4 y2_4 = some t := hF
      unfold st_X2_hoursOfAll_4 at hF
      refine lv_iload_n hx hb dX2_hoursOfAll_4 rfl (lv_at hl 2 rfl) ?_
      refine lv_aload_n hx hb dX2_hoursOfAll_5 rfl (lv_at hl 0 rfl) ?_
      refine va_get (D := E.1) (ci := 2) (v := .int (Group_size v)) (C := RX2) (T := TX2) (N := 11) hx hb hts k1 hown hK hP 0 rfl rfl 0 (by decide) k0 (fun _ h9 => h9) rfl dX2_hoursOfAll_6 ?_
      refine lv_icmp_ge (tgt := 27) hx hb dX2_hoursOfAll_9 (by decide) (fun c1 => ?_) (fun c1 => ?_)
      · have hF := m_pos c1 hF
        refine lv_iload_n hx hb dX2_hoursOfAll_27 rfl (lv_at hl 1 rfl) ?_
        have hF := Option.some.inj hF
        subst hF
        rw [hQ]
        exact W.iret hx hb hr (fun t ht _ => ⟨rfl, ht⟩) (fun _ h => by cases h) dX2_hoursOfAll_28
      · have hF := m_neg c1 hF
        refine lv_iload_n hx hb dX2_hoursOfAll_12 rfl (lv_at hl 1 rfl) ?_
        refine lv_aload_n hx hb dX2_hoursOfAll_13 rfl (lv_at hl 0 rfl) ?_
        refine va_get (D := E.1) (ci := 2) (v := .ref (Groupa_hours a)) (C := RX2) (T := TX2) (N := 11) hx hb hts k1 hown hK hP 0 rfl rfl 7 (by decide) k2 (fun _ h9 => h9) rfl dX2_hoursOfAll_14 ?_
        refine lv_iload_n hx hb dX2_hoursOfAll_17 rfl (lv_at hl 2 rfl) ?_
        obtain ⟨h2, hF⟩ := m_chk hF
        refine va_iald (f := (Group_hours v)) hx hb hK hP 5 1 rfl rfl (mIn_ok h2) dX2_hoursOfAll_18 ?_
        refine W.eq (g2 := F0 m 19 ls [.int ((Group_hours v) (y2_4).toNatClampNeg), .int y1_4]) rfl ?_
        refine lv_iadd hx hb dX2_hoursOfAll_19 ?_
        refine lv_istore_n (lv' := [(1, .int (y1_4 + ((Group_hours v) (y2_4).toNatClampNeg))), (0, .ref (Groupa_self a)), (2, .int y2_4)]) hx hb dX2_hoursOfAll_20 rfl hl (by decide) rfl (fun ls hl => ?_)
        refine lv_iinc (v := (y2_4 + 1)) (lv' := [(2, .int (y2_4 + 1)), (1, .int (y1_4 + ((Group_hours v) (y2_4).toNatClampNeg))), (0, .ref (Groupa_self a))]) hx hb dX2_hoursOfAll_21 hl (k := 2) rfl rfl (by decide) rfl (fun ls hl => ?_)
        refine lv_goto (tgt := 4) hx hb dX2_hoursOfAll_24 (by decide) ?_
        exact ih4 (y1_4 + ((Group_hours v) (y2_4).toNatClampNeg)) (y2_4 + 1) ls hF (lv_sub hl [2, 1, 0] rfl)
  exact hL4 m_N 0 0 ls hF (lv_sub hl [2, 1, 0] rfl)

def fn_X2_shareOf (v : GroupV) (x0 : Int32) : Option Int32 :=
  (Option.bind (fn_X2_hoursOfAll v) (fun t1 => (if ¬ t1 = 0 then (if mIn x0 6 = true then (if ¬ t1 = 0 then some ((100 * ((Group_hours v) (x0).toNatClampNeg)) / t1) else none) else none) else some 0)))
abbrev rmX2_shareOf : Room := { frames := 1, cells := 0, slots := 0, locals := 22 }
set_option maxRecDepth 100000 in
set_option maxHeartbeats 4000000 in
theorem c_X2_shareOf (l : Launch) (E : mE) (a : GroupA) (v : GroupV) (x0 : Int32) (t : Int32) (hF : fn_X2_shareOf v x0 = some t) : Met l yX2_shareOf wsX2_shareOf rmX2_shareOf (mPp E [.ref (Groupa_self a), .int x0] (Group_c E a v)) (mSp (some (.int t))) 0 0 (fun _ => False) := by
  refine mOfP (cc := cX2_shareOf) (maxL := 3) (ret := (some .int)) (by decide) rfl (Nat.le_of_ble_eq_true rfl) ?_
  intro p e_ s m args below meth c Q hQ CC hr hlocks hP hKN hGl ls hl
  have hS : va_S (fun _ => False) s.heap s.heap [] := va_S.rf
  have hK := hKN.1
  have hx := CC.1
  have hb := CC.2.1
  have hml := CC.2.2.1
  have hown : s.vm.findClass RX2 = some m.cls := CC.2.2.2.1
  have hts := CC.2.2.2.2
  have hl : lv_has ls 3 [(0, .ref (Groupa_self a)), (1, .int x0)] := hl
  have k0 := hts (.fieldLink RX2 34 "OneDidAll$Group" "hours" "[I") (by decide +kernel)
  have k1 := (show ∀ w ∈ u_ws RX2 TX2 11, w ∈ wsX2_shareOf by decide +kernel)
  unfold fn_X2_shareOf at hF
  refine lv_aload_n hx hb dX2_shareOf_0 rfl (lv_at hl 0 rfl) ?_
  obtain ⟨t1, ht1, hF⟩ := m_bnd hF
  refine mVP (ci := 2) (n := 0) (rest := []) (As := []) CC hKN hGl hS (c_X2_hoursOfAll l E a v t1 ht1) gX2_shareOf_X2_hoursOfAll rfl ⟨rfl, rfl⟩ (by decide +kernel) ⟨Nat.le_of_ble_eq_true rfl, Nat.le_of_ble_eq_true rfl⟩ hP rfl rfl rfl rfl hl.1 rfl (Nat.le_of_ble_eq_true rfl) ⟨Nat.zero_le _, Nat.zero_le _⟩ dX2_shareOf_1 ?_
  refine W.eq (g2 := F0 m 4 ls [.int t1]) rfl ?_
  refine lv_istore_n (lv' := [(2, .int t1), (0, .ref (Groupa_self a)), (1, .int x0)]) hx hb dX2_shareOf_4 rfl hl (by decide) rfl (fun ls hl => ?_)
  refine lv_iload_n hx hb dX2_shareOf_5 rfl (lv_at hl 0 rfl) ?_
  refine lv_if_ne (tgt := 13) hx hb dX2_shareOf_6 (by decide) (fun c2 => ?_) (fun c2 => ?_)
  · have hF := m_pos c2 hF
    refine lv_bipush (v := 100) hx hb dX2_shareOf_13 (by decide) ?_
    refine lv_aload_n hx hb dX2_shareOf_15 rfl (lv_at hl 1 rfl) ?_
    refine va_get (D := E.1) (ci := 2) (v := .ref (Groupa_hours a)) (C := RX2) (T := TX2) (N := 11) hx hb hts k1 hown hK hP 0 rfl rfl 7 (by decide) k0 (fun _ h9 => h9) rfl dX2_shareOf_16 ?_
    refine lv_iload_n hx hb dX2_shareOf_19 rfl (lv_at hl 2 rfl) ?_
    obtain ⟨h3, hF⟩ := m_chk hF
    refine va_iald (f := (Group_hours v)) hx hb hK hP 5 1 rfl rfl (mIn_ok h3) dX2_shareOf_20 ?_
    refine W.eq (g2 := F0 m 21 ls [.int ((Group_hours v) (x0).toNatClampNeg), .int 100]) rfl ?_
    refine lv_imul hx hb dX2_shareOf_21 ?_
    refine lv_iload_n hx hb dX2_shareOf_22 rfl (lv_at hl 0 rfl) ?_
    obtain ⟨h4, hF⟩ := m_chk hF
    refine lv_idiv hx hb dX2_shareOf_23 h4 ?_
    have hF := Option.some.inj hF
    subst hF
    rw [hQ]
    exact W.iret hx hb hr (fun t ht _ => ⟨rfl, ht⟩) (fun _ h => by cases h) dX2_shareOf_24
  · have hF := m_neg (fun n9 => n9 c2) hF
    refine lv_iconst (v := 0) hx hb dX2_shareOf_9 (by decide) ?_
    refine lv_goto (tgt := 24) hx hb dX2_shareOf_10 (by decide) ?_
    have hF := Option.some.inj hF
    subst hF
    rw [hQ]
    exact W.iret hx hb hr (fun t ht _ => ⟨rfl, ht⟩) (fun _ h => by cases h) dX2_shareOf_24

def fn_X2_toHundred (x0 : Int32) : Option Int32 :=
  some (mMax 0 (mMin 100 x0))
abbrev rmX2_toHundred : Room := { frames := 1, cells := 0, slots := 0, locals := 21 }
set_option maxRecDepth 100000 in
set_option maxHeartbeats 4000000 in
theorem c_X2_toHundred (l : Launch) (E : mE) (x0 : Int32) (t : Int32) (hF : fn_X2_toHundred x0 = some t) : Met l yX2_toHundred wsX2_toHundred rmX2_toHundred (mPp E [.int x0] ([] : va_W)) (mSp (some (.int t))) 0 0 (fun _ => False) := by
  refine mOfP (cc := cX2_toHundred) (maxL := 1) (ret := (some .int)) (by decide) rfl (Nat.le_of_ble_eq_true rfl) ?_
  intro p e_ s m args below meth c Q hQ CC hr hlocks hP hKN hGl ls hl
  have hS : va_S (fun _ => False) s.heap s.heap [] := va_S.rf
  have hK := hKN.1
  have hx := CC.1
  have hb := CC.2.1
  have hml := CC.2.2.1
  have hown : s.vm.findClass RX2 = some m.cls := CC.2.2.2.1
  have hts := CC.2.2.2.2
  have hl : lv_has ls 1 [(0, .int x0)] := hl
  have k0 := hts (.methodLink RX2 70 Lib.Math.min.name) (by decide +kernel)
  have k1 := hts (.static Lib.Math.min.name) (by decide +kernel)
  have k2 := hts (.initialized "java/lang/Math") (by decide +kernel)
  have k3 := hts (.code Lib.Math.min.name Lib.Math.min.code 2 (some .int)) (by decide +kernel)
  have k4 := hts (.methodLink RX2 76 Lib.Math.max.name) (by decide +kernel)
  have k5 := hts (.static Lib.Math.max.name) (by decide +kernel)
  have k6 := hts (.code Lib.Math.max.name Lib.Math.max.code 2 (some .int)) (by decide +kernel)
  unfold fn_X2_toHundred at hF
  refine lv_iconst (v := 0) hx hb dX2_toHundred_0 (by decide) ?_
  refine lv_bipush (v := 100) hx hb dX2_toHundred_1 (by decide) ?_
  refine lv_iload_n hx hb dX2_toHundred_3 rfl (lv_at hl 0 rfl) ?_
  refine va_mmin hx hb (hml.trans hl.1.symm) hown k0 k1 k2 k3 (Nat.le_of_ble_eq_true rfl) (Nat.le_of_ble_eq_true rfl) (Nat.zero_le _) (Nat.zero_le _) dX2_toHundred_4 ?_
  refine W.eq (g2 := F0 m 7 ls [.int (mMin 100 x0), .int 0]) rfl ?_
  refine va_mmax hx hb (hml.trans hl.1.symm) hown k4 k5 k2 k6 (Nat.le_of_ble_eq_true rfl) (Nat.le_of_ble_eq_true rfl) (Nat.zero_le _) (Nat.zero_le _) dX2_toHundred_7 ?_
  refine W.eq (g2 := F0 m 10 ls [.int (mMax 0 (mMin 100 x0))]) rfl ?_
  have hF := Option.some.inj hF
  subst hF
  rw [hQ]
  exact W.iret hx hb hr (fun t ht _ => ⟨rfl, ht⟩) (fun _ h => by cases h) dX2_toHundred_10

def st_X2_changeWills_48 (x0 : Int32) (t1 : Int32) (x3_40 : Int32) (rec48 : Int32 → GroupV → Option GroupV) (y5_48 : Int32) (wy_48 : GroupV) : Option GroupV :=
  (if (Group_size wy_48) ≤ y5_48 then some wy_48 else (if mIn y5_48 6 = true then jp (fun (wx_135 : GroupV) => rec48 (y5_48 + 1) wx_135) (fun j135 => (if ((Group_outs wy_48) (y5_48).toNatClampNeg) = 0 then (if mIn y5_48 6 = true then jp (fun (wx_102 : GroupV) => (if mIn y5_48 6 = true then (if (x3_40 / t1) ≤ ((Group_does wx_102) (y5_48).toNatClampNeg) then j135 wx_102 else (if mIn y5_48 6 = true then (if mIn y5_48 6 = true then j135 (Group_wills_s wx_102 (upd (Group_wills wx_102) (y5_48).toNatClampNeg (mMin 99 (((Group_wills wx_102) (y5_48).toNatClampNeg) + 1)))) else none) else none)) else none)) (fun j102 => (if ((Group_does wy_48) (y5_48).toNatClampNeg) ≤ (x3_40 / t1) then j102 wy_48 else (if mIn y5_48 6 = true then (if mIn y5_48 6 = true then j102 (Group_wills_s wy_48 (upd (Group_wills wy_48) (y5_48).toNatClampNeg (mMax 0 (((Group_wills wy_48) (y5_48).toNatClampNeg) - x0)))) else none) else none))) else none) else j135 wy_48)) else none))
def lp_X2_changeWills_48 (x0 : Int32) (t1 : Int32) (x3_40 : Int32) : Nat → Int32 → GroupV → Option GroupV
  | 0 => fun _ _ => none
  | n + 1 => st_X2_changeWills_48 x0 t1 x3_40 (lp_X2_changeWills_48 x0 t1 x3_40 n)
def st_X2_changeWills_15 (v : GroupV) (j40 : Int32 → Option GroupV) (rec15 : Int32 → Int32 → Option GroupV) (y3_15 : Int32) (y4_15 : Int32) : Option GroupV :=
  (if (Group_size v) ≤ y4_15 then j40 y3_15 else (if mIn y4_15 6 = true then rec15 (y3_15 + ((Group_does v) (y4_15).toNatClampNeg)) (y4_15 + 1) else none))
def lp_X2_changeWills_15 (v : GroupV) (j40 : Int32 → Option GroupV) : Nat → Int32 → Int32 → Option GroupV
  | 0 => fun _ _ => none
  | n + 1 => st_X2_changeWills_15 v j40 (lp_X2_changeWills_15 v j40 n)
def fn_X2_changeWills (v : GroupV) (x0 : Int32) : Option GroupV :=
  (Option.bind (fn_X2_countIn v) (fun t1 => (if ¬ t1 = 0 then jp (fun (x3_40 : Int32) => (if ¬ t1 = 0 then lp_X2_changeWills_48 x0 t1 x3_40 m_N 0 v else none)) (fun j40 => lp_X2_changeWills_15 v j40 m_N 0 0) else some v)))
abbrev rmX2_changeWills : Room := { frames := 1, cells := 0, slots := 0, locals := 22 }
set_option maxRecDepth 100000 in
set_option maxHeartbeats 4000000 in
theorem c_X2_changeWills (l : Launch) (E : mE) (a : GroupA) (v : GroupV) (x0 : Int32) (t : GroupV) (hF : fn_X2_changeWills v x0 = some t) (sz : Nat) : Met l yX2_changeWills wsX2_changeWills rmX2_changeWills (mPm E [.ref (Groupa_self a), .int x0] sz ((Group_c E a v)) (([] : va_W))) (mSm E (none) ((Group_c E a t)) (va_A ((Group_c E a v)) sz)) 0 0 (va_A ((Group_c E a v)) sz) := by
  refine mOfM (cc := cX2_changeWills) (maxL := 6) (ret := none) (by decide) rfl (Nat.le_of_ble_eq_true rfl) ?_
  intro p e_ s m args below meth c Q A hQ CC hr hlocks hin hA hP hD hKN hGl hR0 hRA ls hl
  have hS : va_S A s.heap s.heap [] := va_S.rf
  have hK := hKN.1
  have hx := CC.1
  have hb := CC.2.1
  have hml := CC.2.2.1
  have hown : s.vm.findClass RX2 = some m.cls := CC.2.2.2.1
  have hts := CC.2.2.2.2
  have hl : lv_has ls 6 [(0, .ref (Groupa_self a)), (1, .int x0)] := hl
  have k0 := hts (.fieldLink RX2 9 "OneDidAll$Group" "size" "I") (by decide +kernel)
  have k1 := (show ∀ w ∈ u_ws RX2 TX2 11, w ∈ wsX2_changeWills by decide +kernel)
  have k2 := hts (.fieldLink RX2 37 "OneDidAll$Group" "outs" "[Z") (by decide +kernel)
  have k3 := hts (.fieldLink RX2 44 "OneDidAll$Group" "does" "[I") (by decide +kernel)
  have k4 := hts (.fieldLink RX2 31 "OneDidAll$Group" "wills" "[I") (by decide +kernel)
  have k5 := hts (.methodLink RX2 70 Lib.Math.min.name) (by decide +kernel)
  have k6 := hts (.static Lib.Math.min.name) (by decide +kernel)
  have k7 := hts (.initialized "java/lang/Math") (by decide +kernel)
  have k8 := hts (.code Lib.Math.min.name Lib.Math.min.code 2 (some .int)) (by decide +kernel)
  have k9 := hts (.methodLink RX2 76 Lib.Math.max.name) (by decide +kernel)
  have k10 := hts (.static Lib.Math.max.name) (by decide +kernel)
  have k11 := hts (.code Lib.Math.max.name Lib.Math.max.code 2 (some .int)) (by decide +kernel)
  have hP : va_P E.1 vwCl (Group_c E a v) s.heap := hP
  obtain ⟨H, hH⟩ : ∃ H, H = s.heap := ⟨_, rfl⟩
  obtain ⟨locs, hlc⟩ : ∃ z : List Loc, z = [] := ⟨_, rfl⟩
  rw [← hH] at hP
  rw [← hlc] at hS
  have hS : va_S A s.heap H locs := by rw [hH]; exact hS
  rw [← hH, ← hlc]
  unfold fn_X2_changeWills at hF
  refine lv_aload_n hx hb dX2_changeWills_0 rfl (lv_at hl 0 rfl) ?_
  obtain ⟨t1, ht1, hF⟩ := m_bnd hF
  refine mVP (ci := 2) (n := 0) (rest := []) (As := []) CC hKN hGl hS (c_X2_countIn l E a v t1 ht1) gX2_changeWills_X2_countIn rfl ⟨rfl, rfl⟩ (by decide +kernel) ⟨Nat.le_of_ble_eq_true rfl, Nat.le_of_ble_eq_true rfl⟩ hP rfl rfl rfl rfl hl.1 rfl (Nat.le_of_ble_eq_true rfl) ⟨Nat.zero_le _, Nat.zero_le _⟩ dX2_changeWills_1 ?_
  refine W.eq (g2 := F0 m 4 ls [.int t1]) rfl ?_
  refine lv_istore_n (lv' := [(2, .int t1), (0, .ref (Groupa_self a)), (1, .int x0)]) hx hb dX2_changeWills_4 rfl hl (by decide) rfl (fun ls hl => ?_)
  refine lv_iload_n hx hb dX2_changeWills_5 rfl (lv_at hl 0 rfl) ?_
  refine lv_if_ne (tgt := 10) hx hb dX2_changeWills_6 (by decide) (fun c2 => ?_) (fun c2 => ?_)
  · have hF := m_pos c2 hF
    refine lv_iconst (v := 0) hx hb dX2_changeWills_10 (by decide) ?_
    refine lv_istore_n (lv' := [(3, .int 0), (2, .int t1), (0, .ref (Groupa_self a)), (1, .int x0)]) hx hb dX2_changeWills_11 rfl hl (by decide) rfl (fun ls hl => ?_)
    refine lv_iconst (v := 0) hx hb dX2_changeWills_12 (by decide) ?_
    refine lv_istore (lv' := [(4, .int 0), (3, .int 0), (2, .int t1), (0, .ref (Groupa_self a)), (1, .int x0)]) hx hb dX2_changeWills_13 hl (by decide) rfl (fun ls hl => ?_)
    obtain ⟨j40, hjd40, hF⟩ := m_jp hF
    have hj40 : ∀ (x3_40 : Int32) (H : Heap) (locs : List Loc) (ls : Array Slot), j40 x3_40 = some t → va_P E.1 vwCl (Group_c E a v) H → va_D A (Group_c E a v) → va_S A s.heap H locs → lv_has ls 6 [(0, .ref (Groupa_self a)), (1, .int x0), (2, .int t1), (3, .int x3_40)] → W p l e_ rmX2_changeWills s m args below meth c H locs 0 0 Q (F0 m 40 ls []) := by
      intro x3_40 H locs ls hF hP hD hS hl
      rw [hjd40] at hF
      refine lv_iload_n hx hb dX2_changeWills_40 rfl (lv_at hl 3 rfl) ?_
      refine lv_iload_n hx hb dX2_changeWills_41 rfl (lv_at hl 2 rfl) ?_
      obtain ⟨h3, hF⟩ := m_chk hF
      refine lv_idiv hx hb dX2_changeWills_42 h3 ?_
      refine lv_istore (lv' := [(4, .int (x3_40 / t1)), (0, .ref (Groupa_self a)), (1, .int x0), (2, .int t1), (3, .int x3_40)]) hx hb dX2_changeWills_43 hl (by decide) rfl (fun ls hl => ?_)
      refine lv_iconst (v := 0) hx hb dX2_changeWills_45 (by decide) ?_
      refine lv_istore (lv' := [(5, .int 0), (4, .int (x3_40 / t1)), (0, .ref (Groupa_self a)), (1, .int x0), (2, .int t1), (3, .int x3_40)]) hx hb dX2_changeWills_46 hl (by decide) rfl (fun ls hl => ?_)
      have hL48 : ∀ (n : Nat) (y5_48 : Int32) (wy_48 : GroupV) (H : Heap) (locs : List Loc) (ls : Array Slot), lp_X2_changeWills_48 x0 t1 x3_40 n y5_48 wy_48 = some t → va_P E.1 vwCl (Group_c E a wy_48) H → va_D A (Group_c E a wy_48) → va_S A s.heap H locs → lv_has ls 6 [(0, .ref (Groupa_self a)), (1, .int x0), (4, .int (x3_40 / t1)), (5, .int y5_48)] → W p l e_ rmX2_changeWills s m args below meth c H locs 0 0 Q (F0 m 48 ls []) := by
        intro n
        induction n with
        | zero =>
          intro y5_48 wy_48 H locs ls hF
          exact nomatch (show (none : Option GroupV) = some t from hF)
        | succ n ih48 =>
          intro y5_48 wy_48 H locs ls hF hP hD hS hl
          have hF : st_X2_changeWills_48 x0 t1 x3_40 (lp_X2_changeWills_48 x0 t1 x3_40 n) y5_48 wy_48 = some t := hF
          unfold st_X2_changeWills_48 at hF
          refine lv_iload hx hb dX2_changeWills_48 (lv_at hl 3 rfl) ?_
          refine lv_aload_n hx hb dX2_changeWills_50 rfl (lv_at hl 0 rfl) ?_
          refine va_get (D := E.1) (ci := 2) (v := .int (Group_size wy_48)) (C := RX2) (T := TX2) (N := 11) hx hb hts k1 hown hK hP 0 rfl rfl 0 (by decide) k0 (fun _ h9 => h9) rfl dX2_changeWills_51 ?_
          refine lv_icmp_ge (tgt := 141) hx hb dX2_changeWills_54 (by decide) (fun c4 => ?_) (fun c4 => ?_)
          · have hF := m_pos c4 hF
            have hF := Option.some.inj hF
            subst hF
            rw [hQ]
            exact W.vret hx hb hr (fun t ht _ => ⟨⟨rfl, by rw [ht]; exact hP, hD⟩, hS.F ht⟩) hS.2.2 dX2_changeWills_141
          · have hF := m_neg c4 hF
            refine lv_aload_n hx hb dX2_changeWills_57 rfl (lv_at hl 0 rfl) ?_
            refine va_get (D := E.1) (ci := 2) (v := .ref (Groupa_outs a)) (C := RX2) (T := TX2) (N := 11) hx hb hts k1 hown hK hP 0 rfl rfl 8 (by decide) k2 (fun _ h9 => h9) rfl dX2_changeWills_58 ?_
            refine lv_iload hx hb dX2_changeWills_61 (lv_at hl 3 rfl) ?_
            obtain ⟨h5, hF⟩ := m_chk hF
            refine va_zald (f := (Group_outs wy_48)) hx hb hK hP 6 2 rfl rfl (mIn_ok h5) dX2_changeWills_63 ?_
            refine W.eq (g2 := F0 m 64 ls [.int ((Group_outs wy_48) (y5_48).toNatClampNeg)]) rfl ?_
            obtain ⟨j135, hjd135, hF⟩ := m_jp hF
            have hj135 : ∀ (wx_135 : GroupV) (H : Heap) (locs : List Loc) (ls : Array Slot), j135 wx_135 = some t → va_P E.1 vwCl (Group_c E a wx_135) H → va_D A (Group_c E a wx_135) → va_S A s.heap H locs → lv_has ls 6 [(0, .ref (Groupa_self a)), (1, .int x0), (4, .int (x3_40 / t1)), (5, .int y5_48)] → W p l e_ rmX2_changeWills s m args below meth c H locs 0 0 Q (F0 m 135 ls []) := by
              intro wx_135 H locs ls hF hP hD hS hl
              rw [hjd135] at hF
              refine lv_iinc (v := (y5_48 + 1)) (lv' := [(5, .int (y5_48 + 1)), (0, .ref (Groupa_self a)), (1, .int x0), (4, .int (x3_40 / t1))]) hx hb dX2_changeWills_135 hl (k := 3) rfl rfl (by decide) rfl (fun ls hl => ?_)
              refine lv_goto (tgt := 48) hx hb dX2_changeWills_138 (by decide) ?_
              exact ih48 (y5_48 + 1) wx_135 H locs ls hF hP hD hS (lv_sub hl [1, 2, 3, 0] rfl)
            clear hjd135
            refine lv_if_eq (tgt := 70) hx hb dX2_changeWills_64 (by decide) (fun c6 => ?_) (fun c6 => ?_)
            · have hF := m_pos c6 hF
              refine lv_aload_n hx hb dX2_changeWills_70 rfl (lv_at hl 0 rfl) ?_
              refine va_get (D := E.1) (ci := 2) (v := .ref (Groupa_does a)) (C := RX2) (T := TX2) (N := 11) hx hb hts k1 hown hK hP 0 rfl rfl 10 (by decide) k3 (fun _ h9 => h9) rfl dX2_changeWills_71 ?_
              refine lv_iload hx hb dX2_changeWills_74 (lv_at hl 3 rfl) ?_
              obtain ⟨h7, hF⟩ := m_chk hF
              refine va_iald (f := (Group_does wy_48)) hx hb hK hP 8 1 rfl rfl (mIn_ok h7) dX2_changeWills_76 ?_
              refine W.eq (g2 := F0 m 77 ls [.int ((Group_does wy_48) (y5_48).toNatClampNeg)]) rfl ?_
              refine lv_iload hx hb dX2_changeWills_77 (lv_at hl 2 rfl) ?_
              obtain ⟨j102, hjd102, hF⟩ := m_jp hF
              have hj102 : ∀ (wx_102 : GroupV) (H : Heap) (locs : List Loc) (ls : Array Slot), j102 wx_102 = some t → va_P E.1 vwCl (Group_c E a wx_102) H → va_D A (Group_c E a wx_102) → va_S A s.heap H locs → lv_has ls 6 [(0, .ref (Groupa_self a)), (1, .int x0), (4, .int (x3_40 / t1)), (5, .int y5_48)] → W p l e_ rmX2_changeWills s m args below meth c H locs 0 0 Q (F0 m 102 ls []) := by
                intro wx_102 H locs ls hF hP hD hS hl
                rw [hjd102] at hF
                refine lv_aload_n hx hb dX2_changeWills_102 rfl (lv_at hl 0 rfl) ?_
                refine va_get (D := E.1) (ci := 2) (v := .ref (Groupa_does a)) (C := RX2) (T := TX2) (N := 11) hx hb hts k1 hown hK hP 0 rfl rfl 10 (by decide) k3 (fun _ h9 => h9) rfl dX2_changeWills_103 ?_
                refine lv_iload hx hb dX2_changeWills_106 (lv_at hl 3 rfl) ?_
                obtain ⟨h8, hF⟩ := m_chk hF
                refine va_iald (f := (Group_does wx_102)) hx hb hK hP 8 1 rfl rfl (mIn_ok h8) dX2_changeWills_108 ?_
                refine W.eq (g2 := F0 m 109 ls [.int ((Group_does wx_102) (y5_48).toNatClampNeg)]) rfl ?_
                refine lv_iload hx hb dX2_changeWills_109 (lv_at hl 2 rfl) ?_
                refine lv_icmp_ge (tgt := 135) hx hb dX2_changeWills_111 (by decide) (fun c9 => ?_) (fun c9 => ?_)
                · have hF := m_pos c9 hF
                  exact hj135 wx_102 H locs ls hF hP hD hS (lv_sub hl [0, 1, 2, 3] rfl)
                · have hF := m_neg c9 hF
                  refine lv_aload_n hx hb dX2_changeWills_114 rfl (lv_at hl 0 rfl) ?_
                  refine va_get (D := E.1) (ci := 2) (v := .ref (Groupa_wills a)) (C := RX2) (T := TX2) (N := 11) hx hb hts k1 hown hK hP 0 rfl rfl 6 (by decide) k4 (fun _ h9 => h9) rfl dX2_changeWills_115 ?_
                  refine lv_iload hx hb dX2_changeWills_118 (lv_at hl 3 rfl) ?_
                  refine lv_bipush (v := 99) hx hb dX2_changeWills_120 (by decide) ?_
                  refine lv_aload_n hx hb dX2_changeWills_122 rfl (lv_at hl 0 rfl) ?_
                  refine va_get (D := E.1) (ci := 2) (v := .ref (Groupa_wills a)) (C := RX2) (T := TX2) (N := 11) hx hb hts k1 hown hK hP 0 rfl rfl 6 (by decide) k4 (fun _ h9 => h9) rfl dX2_changeWills_123 ?_
                  refine lv_iload hx hb dX2_changeWills_126 (lv_at hl 3 rfl) ?_
                  obtain ⟨h10, hF⟩ := m_chk hF
                  refine va_iald (f := (Group_wills wx_102)) hx hb hK hP 4 1 rfl rfl (mIn_ok h10) dX2_changeWills_128 ?_
                  refine W.eq (g2 := F0 m 129 ls [.int ((Group_wills wx_102) (y5_48).toNatClampNeg), .int 99, .int y5_48, .ref (Groupa_wills a)]) rfl ?_
                  refine lv_iconst (v := 1) hx hb dX2_changeWills_129 (by decide) ?_
                  refine lv_iadd hx hb dX2_changeWills_130 ?_
                  refine va_mmin hx hb (hml.trans hl.1.symm) hown k5 k6 k7 k8 (Nat.le_of_ble_eq_true rfl) (Nat.le_of_ble_eq_true rfl) (Nat.zero_le _) (Nat.zero_le _) dX2_changeWills_131 ?_
                  refine W.eq (g2 := F0 m 134 ls [.int (mMin 99 (((Group_wills wx_102) (y5_48).toNatClampNeg) + 1)), .int y5_48, .ref (Groupa_wills a)]) rfl ?_
                  obtain ⟨h11, hF⟩ := m_chk hF
                  refine va_iast (f := (Group_wills wx_102)) hx hb hK hP hD hS 4 1 rfl rfl (mIn_ok h11) dX2_changeWills_134 (fun H locs hP hD hS => ?_)
                  have hP : va_P E.1 vwCl (Group_c E a (Group_wills_s wx_102 (upd (Group_wills wx_102) (y5_48).toNatClampNeg (mMin 99 (((Group_wills wx_102) (y5_48).toNatClampNeg) + 1))))) H := hP
                  have hD : va_D A (Group_c E a (Group_wills_s wx_102 (upd (Group_wills wx_102) (y5_48).toNatClampNeg (mMin 99 (((Group_wills wx_102) (y5_48).toNatClampNeg) + 1))))) := hD
                  exact hj135 (Group_wills_s wx_102 (upd (Group_wills wx_102) (y5_48).toNatClampNeg (mMin 99 (((Group_wills wx_102) (y5_48).toNatClampNeg) + 1)))) H locs ls hF hP hD hS (lv_sub hl [0, 1, 2, 3] rfl)
              clear hjd102
              refine lv_icmp_le (tgt := 102) hx hb dX2_changeWills_79 (by decide) (fun c12 => ?_) (fun c12 => ?_)
              · have hF := m_pos c12 hF
                exact hj102 wy_48 H locs ls hF hP hD hS (lv_sub hl [0, 1, 2, 3] rfl)
              · have hF := m_neg c12 hF
                refine lv_aload_n hx hb dX2_changeWills_82 rfl (lv_at hl 0 rfl) ?_
                refine va_get (D := E.1) (ci := 2) (v := .ref (Groupa_wills a)) (C := RX2) (T := TX2) (N := 11) hx hb hts k1 hown hK hP 0 rfl rfl 6 (by decide) k4 (fun _ h9 => h9) rfl dX2_changeWills_83 ?_
                refine lv_iload hx hb dX2_changeWills_86 (lv_at hl 3 rfl) ?_
                refine lv_iconst (v := 0) hx hb dX2_changeWills_88 (by decide) ?_
                refine lv_aload_n hx hb dX2_changeWills_89 rfl (lv_at hl 0 rfl) ?_
                refine va_get (D := E.1) (ci := 2) (v := .ref (Groupa_wills a)) (C := RX2) (T := TX2) (N := 11) hx hb hts k1 hown hK hP 0 rfl rfl 6 (by decide) k4 (fun _ h9 => h9) rfl dX2_changeWills_90 ?_
                refine lv_iload hx hb dX2_changeWills_93 (lv_at hl 3 rfl) ?_
                obtain ⟨h13, hF⟩ := m_chk hF
                refine va_iald (f := (Group_wills wy_48)) hx hb hK hP 4 1 rfl rfl (mIn_ok h13) dX2_changeWills_95 ?_
                refine W.eq (g2 := F0 m 96 ls [.int ((Group_wills wy_48) (y5_48).toNatClampNeg), .int 0, .int y5_48, .ref (Groupa_wills a)]) rfl ?_
                refine lv_iload_n hx hb dX2_changeWills_96 rfl (lv_at hl 1 rfl) ?_
                refine lv_isub hx hb dX2_changeWills_97 ?_
                refine va_mmax hx hb (hml.trans hl.1.symm) hown k9 k10 k7 k11 (Nat.le_of_ble_eq_true rfl) (Nat.le_of_ble_eq_true rfl) (Nat.zero_le _) (Nat.zero_le _) dX2_changeWills_98 ?_
                refine W.eq (g2 := F0 m 101 ls [.int (mMax 0 (((Group_wills wy_48) (y5_48).toNatClampNeg) - x0)), .int y5_48, .ref (Groupa_wills a)]) rfl ?_
                obtain ⟨h14, hF⟩ := m_chk hF
                refine va_iast (f := (Group_wills wy_48)) hx hb hK hP hD hS 4 1 rfl rfl (mIn_ok h14) dX2_changeWills_101 (fun H locs hP hD hS => ?_)
                have hP : va_P E.1 vwCl (Group_c E a (Group_wills_s wy_48 (upd (Group_wills wy_48) (y5_48).toNatClampNeg (mMax 0 (((Group_wills wy_48) (y5_48).toNatClampNeg) - x0))))) H := hP
                have hD : va_D A (Group_c E a (Group_wills_s wy_48 (upd (Group_wills wy_48) (y5_48).toNatClampNeg (mMax 0 (((Group_wills wy_48) (y5_48).toNatClampNeg) - x0))))) := hD
                exact hj102 (Group_wills_s wy_48 (upd (Group_wills wy_48) (y5_48).toNatClampNeg (mMax 0 (((Group_wills wy_48) (y5_48).toNatClampNeg) - x0)))) H locs ls hF hP hD hS (lv_sub hl [0, 1, 2, 3] rfl)
            · have hF := m_neg c6 hF
              refine lv_goto (tgt := 135) hx hb dX2_changeWills_67 (by decide) ?_
              exact hj135 wy_48 H locs ls hF hP hD hS (lv_sub hl [0, 1, 2, 3] rfl)
      exact hL48 m_N 0 v H locs ls hF hP hD hS (lv_sub hl [2, 3, 1, 0] rfl)
    clear hjd40
    have hL15 : ∀ (n : Nat) (y3_15 : Int32) (y4_15 : Int32) (H : Heap) (locs : List Loc) (ls : Array Slot), lp_X2_changeWills_15 v j40 n y3_15 y4_15 = some t → va_P E.1 vwCl (Group_c E a v) H → va_D A (Group_c E a v) → va_S A s.heap H locs → lv_has ls 6 [(0, .ref (Groupa_self a)), (1, .int x0), (2, .int t1), (3, .int y3_15), (4, .int y4_15)] → W p l e_ rmX2_changeWills s m args below meth c H locs 0 0 Q (F0 m 15 ls []) := by
      intro n
      induction n with
      | zero =>
        intro y3_15 y4_15 H locs ls hF
        exact nomatch (show (none : Option GroupV) = some t from hF)
      | succ n ih15 =>
        intro y3_15 y4_15 H locs ls hF hP hD hS hl
        have hF : st_X2_changeWills_15 v j40 (lp_X2_changeWills_15 v j40 n) y3_15 y4_15 = some t := hF
        unfold st_X2_changeWills_15 at hF
        refine lv_iload hx hb dX2_changeWills_15 (lv_at hl 4 rfl) ?_
        refine lv_aload_n hx hb dX2_changeWills_17 rfl (lv_at hl 0 rfl) ?_
        refine va_get (D := E.1) (ci := 2) (v := .int (Group_size v)) (C := RX2) (T := TX2) (N := 11) hx hb hts k1 hown hK hP 0 rfl rfl 0 (by decide) k0 (fun _ h9 => h9) rfl dX2_changeWills_18 ?_
        refine lv_icmp_ge (tgt := 40) hx hb dX2_changeWills_21 (by decide) (fun c15 => ?_) (fun c15 => ?_)
        · have hF := m_pos c15 hF
          exact hj40 y3_15 H locs ls hF hP hD hS (lv_sub hl [0, 1, 2, 3] rfl)
        · have hF := m_neg c15 hF
          refine lv_iload_n hx hb dX2_changeWills_24 rfl (lv_at hl 3 rfl) ?_
          refine lv_aload_n hx hb dX2_changeWills_25 rfl (lv_at hl 0 rfl) ?_
          refine va_get (D := E.1) (ci := 2) (v := .ref (Groupa_does a)) (C := RX2) (T := TX2) (N := 11) hx hb hts k1 hown hK hP 0 rfl rfl 10 (by decide) k3 (fun _ h9 => h9) rfl dX2_changeWills_26 ?_
          refine lv_iload hx hb dX2_changeWills_29 (lv_at hl 4 rfl) ?_
          obtain ⟨h16, hF⟩ := m_chk hF
          refine va_iald (f := (Group_does v)) hx hb hK hP 8 1 rfl rfl (mIn_ok h16) dX2_changeWills_31 ?_
          refine W.eq (g2 := F0 m 32 ls [.int ((Group_does v) (y4_15).toNatClampNeg), .int y3_15]) rfl ?_
          refine lv_iadd hx hb dX2_changeWills_32 ?_
          refine lv_istore_n (lv' := [(3, .int (y3_15 + ((Group_does v) (y4_15).toNatClampNeg))), (0, .ref (Groupa_self a)), (1, .int x0), (2, .int t1), (4, .int y4_15)]) hx hb dX2_changeWills_33 rfl hl (by decide) rfl (fun ls hl => ?_)
          refine lv_iinc (v := (y4_15 + 1)) (lv' := [(4, .int (y4_15 + 1)), (3, .int (y3_15 + ((Group_does v) (y4_15).toNatClampNeg))), (0, .ref (Groupa_self a)), (1, .int x0), (2, .int t1)]) hx hb dX2_changeWills_34 hl (k := 4) rfl rfl (by decide) rfl (fun ls hl => ?_)
          refine lv_goto (tgt := 15) hx hb dX2_changeWills_37 (by decide) ?_
          exact ih15 (y3_15 + ((Group_does v) (y4_15).toNatClampNeg)) (y4_15 + 1) H locs ls hF hP hD hS (lv_sub hl [2, 3, 4, 1, 0] rfl)
    exact hL15 m_N 0 0 H locs ls hF hP hD hS (lv_sub hl [3, 4, 2, 1, 0] rfl)
  · have hF := m_neg (fun n9 => n9 c2) hF
    have hF := Option.some.inj hF
    subst hF
    rw [hQ]
    exact W.vret hx hb hr (fun t ht _ => ⟨⟨rfl, by rw [ht]; exact hP, hD⟩, hS.F ht⟩) hS.2.2 dX2_changeWills_9

def fn_X2_claimOf (v : GroupV) (x0 : Int32) : Option Int32 :=
  (Option.bind (fn_X2_shareOf v x0) (fun t1 => (if mIn x0 6 = true then jp (fun (_ : Unit) => (if mIn x0 6 = true then (Option.bind (fn_X2_toHundred (t1 - ((Group_vs v) (x0).toNatClampNeg))) (fun t4 => some t4)) else none)) (fun j52 => (if ((Group_kinds v) (x0).toNatClampNeg) = 1 then j52 () else (if ((Group_kinds v) (x0).toNatClampNeg) = 2 then (if mIn x0 6 = true then (Option.bind (fn_X2_toHundred (t1 + ((Group_vs v) (x0).toNatClampNeg))) (fun t8 => some t8)) else none) else (if ((Group_kinds v) (x0).toNatClampNeg) = 3 then (Option.bind (fn_X2_toHundred (2 * t1)) (fun t10 => some t10)) else (if ((Group_kinds v) (x0).toNatClampNeg) = 4 then j52 () else (if ((Group_kinds v) (x0).toNatClampNeg) = 5 then (if mIn x0 6 = true then (Option.bind (fn_X2_toHundred (t1 + ((Group_vs v) (x0).toNatClampNeg))) (fun t14 => some (t14 / 2))) else none) else (if ((Group_kinds v) (x0).toNatClampNeg) = 6 then (Option.bind (fn_X2_rowNow v x0) (fun t16 => (Option.bind (fn_X2_toHundred ((2 * t1) + t16)) (fun t17 => some t17)))) else (Option.bind (fn_X2_toHundred t1) (fun t18 => some t18))))))))) else none)))
abbrev rmX2_claimOf : Room := { frames := 2, cells := 0, slots := 0, locals := 44 }
set_option maxRecDepth 100000 in
set_option maxHeartbeats 4000000 in
theorem c_X2_claimOf (l : Launch) (E : mE) (a : GroupA) (v : GroupV) (x0 : Int32) (t : Int32) (hF : fn_X2_claimOf v x0 = some t) : Met l yX2_claimOf wsX2_claimOf rmX2_claimOf (mPp E [.ref (Groupa_self a), .int x0] (Group_c E a v)) (mSp (some (.int t))) 0 0 (fun _ => False) := by
  refine mOfP (cc := cX2_claimOf) (maxL := 3) (ret := (some .int)) (by decide) rfl (Nat.le_of_ble_eq_true rfl) ?_
  intro p e_ s m args below meth c Q hQ CC hr hlocks hP hKN hGl ls hl
  have hS : va_S (fun _ => False) s.heap s.heap [] := va_S.rf
  have hK := hKN.1
  have hx := CC.1
  have hb := CC.2.1
  have hml := CC.2.2.1
  have hown : s.vm.findClass RX2 = some m.cls := CC.2.2.2.1
  have hts := CC.2.2.2.2
  have hl : lv_has ls 3 [(0, .ref (Groupa_self a)), (1, .int x0)] := hl
  have k0 := hts (.fieldLink RX2 21 "OneDidAll$Group" "kinds" "[I") (by decide +kernel)
  have k1 := (show ∀ w ∈ u_ws RX2 TX2 11, w ∈ wsX2_claimOf by decide +kernel)
  have k2 := hts (.fieldLink RX2 25 "OneDidAll$Group" "vs" "[I") (by decide +kernel)
  unfold fn_X2_claimOf at hF
  refine lv_aload_n hx hb dX2_claimOf_0 rfl (lv_at hl 0 rfl) ?_
  refine lv_iload_n hx hb dX2_claimOf_1 rfl (lv_at hl 1 rfl) ?_
  obtain ⟨t1, ht1, hF⟩ := m_bnd hF
  refine mVP (ci := 2) (n := 1) (rest := []) (As := [.int x0]) CC hKN hGl hS (c_X2_shareOf l E a v x0 t1 ht1) gX2_claimOf_X2_shareOf rfl ⟨rfl, rfl⟩ (by decide +kernel) ⟨Nat.le_of_ble_eq_true rfl, Nat.le_of_ble_eq_true rfl⟩ hP rfl rfl rfl rfl hl.1 rfl (Nat.le_of_ble_eq_true rfl) ⟨Nat.zero_le _, Nat.zero_le _⟩ dX2_claimOf_2 ?_
  refine W.eq (g2 := F0 m 5 ls [.int t1]) rfl ?_
  refine lv_istore_n (lv' := [(2, .int t1), (0, .ref (Groupa_self a)), (1, .int x0)]) hx hb dX2_claimOf_5 rfl hl (by decide) rfl (fun ls hl => ?_)
  refine lv_aload_n hx hb dX2_claimOf_6 rfl (lv_at hl 1 rfl) ?_
  refine va_get (D := E.1) (ci := 2) (v := .ref (Groupa_kinds a)) (C := RX2) (T := TX2) (N := 11) hx hb hts k1 hown hK hP 0 rfl rfl 3 (by decide) k0 (fun _ h9 => h9) rfl dX2_claimOf_7 ?_
  refine lv_iload_n hx hb dX2_claimOf_10 rfl (lv_at hl 2 rfl) ?_
  obtain ⟨h2, hF⟩ := m_chk hF
  refine va_iald (f := (Group_kinds v)) hx hb hK hP 1 1 rfl rfl (mIn_ok h2) dX2_claimOf_11 ?_
  refine W.eq (g2 := F0 m 12 ls [.int ((Group_kinds v) (x0).toNatClampNeg)]) rfl ?_
  obtain ⟨j52, hjd52, hF⟩ := m_jp hF
  have hj52 : ∀ (ls : Array Slot), j52 () = some t → lv_has ls 3 [(0, .ref (Groupa_self a)), (1, .int x0), (2, .int t1)] → W p l e_ rmX2_claimOf s m args below meth c s.heap [] 0 0 Q (F0 m 52 ls []) := by
    intro ls hF hl
    rw [hjd52] at hF
    refine lv_iload_n hx hb dX2_claimOf_52 rfl (lv_at hl 2 rfl) ?_
    refine lv_aload_n hx hb dX2_claimOf_53 rfl (lv_at hl 0 rfl) ?_
    refine va_get (D := E.1) (ci := 2) (v := .ref (Groupa_vs a)) (C := RX2) (T := TX2) (N := 11) hx hb hts k1 hown hK hP 0 rfl rfl 4 (by decide) k2 (fun _ h9 => h9) rfl dX2_claimOf_54 ?_
    refine lv_iload_n hx hb dX2_claimOf_57 rfl (lv_at hl 1 rfl) ?_
    obtain ⟨h3, hF⟩ := m_chk hF
    refine va_iald (f := (Group_vs v)) hx hb hK hP 2 1 rfl rfl (mIn_ok h3) dX2_claimOf_58 ?_
    refine W.eq (g2 := F0 m 59 ls [.int ((Group_vs v) (x0).toNatClampNeg), .int t1]) rfl ?_
    refine lv_isub hx hb dX2_claimOf_59 ?_
    obtain ⟨t4, ht4, hF⟩ := m_bnd hF
    refine mSP (n := 1) (rest := []) (As := [.int (t1 - ((Group_vs v) (x0).toNatClampNeg))]) CC hKN hGl hS (c_X2_toHundred l E (t1 - ((Group_vs v) (x0).toNatClampNeg)) t4 ht4) gX2_claimOf_X2_toHundred rfl ⟨rfl, rfl⟩ (by decide +kernel) ⟨Nat.le_of_ble_eq_true rfl, Nat.le_of_ble_eq_true rfl⟩ m_nil rfl hl.1 rfl (Nat.le_of_ble_eq_true rfl) ⟨Nat.zero_le _, Nat.zero_le _⟩ dX2_claimOf_60 ?_
    refine W.eq (g2 := F0 m 63 ls [.int t4]) rfl ?_
    have hF := Option.some.inj hF
    subst hF
    rw [hQ]
    exact W.iret hx hb hr (fun t ht _ => ⟨rfl, ht⟩) (fun _ h => by cases h) dX2_claimOf_63
  clear hjd52
  by_cases c5 : ((Group_kinds v) (x0).toNatClampNeg) = 1
  · have hF := m_pos c5 hF
    refine lv_tableIn (off := 40) (tgt := 52) hx hb dX2_claimOf_12 (by rw [c5]; decide) (by rw [c5]; decide) (by rw [c5]; rfl) (by decide) ?_
    exact hj52 ls hF (lv_sub hl [1, 2, 0] rfl)
  · have hF := m_neg c5 hF
    by_cases c6 : ((Group_kinds v) (x0).toNatClampNeg) = 2
    · have hF := m_pos c6 hF
      refine lv_tableIn (off := 52) (tgt := 64) hx hb dX2_claimOf_12 (by rw [c6]; decide) (by rw [c6]; decide) (by rw [c6]; rfl) (by decide) ?_
      refine lv_iload_n hx hb dX2_claimOf_64 rfl (lv_at hl 0 rfl) ?_
      refine lv_aload_n hx hb dX2_claimOf_65 rfl (lv_at hl 1 rfl) ?_
      refine va_get (D := E.1) (ci := 2) (v := .ref (Groupa_vs a)) (C := RX2) (T := TX2) (N := 11) hx hb hts k1 hown hK hP 0 rfl rfl 4 (by decide) k2 (fun _ h9 => h9) rfl dX2_claimOf_66 ?_
      refine lv_iload_n hx hb dX2_claimOf_69 rfl (lv_at hl 2 rfl) ?_
      obtain ⟨h7, hF⟩ := m_chk hF
      refine va_iald (f := (Group_vs v)) hx hb hK hP 2 1 rfl rfl (mIn_ok h7) dX2_claimOf_70 ?_
      refine W.eq (g2 := F0 m 71 ls [.int ((Group_vs v) (x0).toNatClampNeg), .int t1]) rfl ?_
      refine lv_iadd hx hb dX2_claimOf_71 ?_
      obtain ⟨t8, ht8, hF⟩ := m_bnd hF
      refine mSP (n := 1) (rest := []) (As := [.int (t1 + ((Group_vs v) (x0).toNatClampNeg))]) CC hKN hGl hS (c_X2_toHundred l E (t1 + ((Group_vs v) (x0).toNatClampNeg)) t8 ht8) gX2_claimOf_X2_toHundred rfl ⟨rfl, rfl⟩ (by decide +kernel) ⟨Nat.le_of_ble_eq_true rfl, Nat.le_of_ble_eq_true rfl⟩ m_nil rfl hl.1 rfl (Nat.le_of_ble_eq_true rfl) ⟨Nat.zero_le _, Nat.zero_le _⟩ dX2_claimOf_72 ?_
      refine W.eq (g2 := F0 m 75 ls [.int t8]) rfl ?_
      have hF := Option.some.inj hF
      subst hF
      rw [hQ]
      exact W.iret hx hb hr (fun t ht _ => ⟨rfl, ht⟩) (fun _ h => by cases h) dX2_claimOf_75
    · have hF := m_neg c6 hF
      by_cases c9 : ((Group_kinds v) (x0).toNatClampNeg) = 3
      · have hF := m_pos c9 hF
        refine lv_tableIn (off := 64) (tgt := 76) hx hb dX2_claimOf_12 (by rw [c9]; decide) (by rw [c9]; decide) (by rw [c9]; rfl) (by decide) ?_
        refine lv_iconst (v := 2) hx hb dX2_claimOf_76 (by decide) ?_
        refine lv_iload_n hx hb dX2_claimOf_77 rfl (lv_at hl 0 rfl) ?_
        refine lv_imul hx hb dX2_claimOf_78 ?_
        obtain ⟨t10, ht10, hF⟩ := m_bnd hF
        refine mSP (n := 1) (rest := []) (As := [.int (2 * t1)]) CC hKN hGl hS (c_X2_toHundred l E (2 * t1) t10 ht10) gX2_claimOf_X2_toHundred rfl ⟨rfl, rfl⟩ (by decide +kernel) ⟨Nat.le_of_ble_eq_true rfl, Nat.le_of_ble_eq_true rfl⟩ m_nil rfl hl.1 rfl (Nat.le_of_ble_eq_true rfl) ⟨Nat.zero_le _, Nat.zero_le _⟩ dX2_claimOf_79 ?_
        refine W.eq (g2 := F0 m 82 ls [.int t10]) rfl ?_
        have hF := Option.some.inj hF
        subst hF
        rw [hQ]
        exact W.iret hx hb hr (fun t ht _ => ⟨rfl, ht⟩) (fun _ h => by cases h) dX2_claimOf_82
      · have hF := m_neg c9 hF
        by_cases c11 : ((Group_kinds v) (x0).toNatClampNeg) = 4
        · have hF := m_pos c11 hF
          refine lv_tableIn (off := 40) (tgt := 52) hx hb dX2_claimOf_12 (by rw [c11]; decide) (by rw [c11]; decide) (by rw [c11]; rfl) (by decide) ?_
          exact hj52 ls hF (lv_sub hl [1, 2, 0] rfl)
        · have hF := m_neg c11 hF
          by_cases c12 : ((Group_kinds v) (x0).toNatClampNeg) = 5
          · have hF := m_pos c12 hF
            refine lv_tableIn (off := 71) (tgt := 83) hx hb dX2_claimOf_12 (by rw [c12]; decide) (by rw [c12]; decide) (by rw [c12]; rfl) (by decide) ?_
            refine lv_iload_n hx hb dX2_claimOf_83 rfl (lv_at hl 0 rfl) ?_
            refine lv_aload_n hx hb dX2_claimOf_84 rfl (lv_at hl 1 rfl) ?_
            refine va_get (D := E.1) (ci := 2) (v := .ref (Groupa_vs a)) (C := RX2) (T := TX2) (N := 11) hx hb hts k1 hown hK hP 0 rfl rfl 4 (by decide) k2 (fun _ h9 => h9) rfl dX2_claimOf_85 ?_
            refine lv_iload_n hx hb dX2_claimOf_88 rfl (lv_at hl 2 rfl) ?_
            obtain ⟨h13, hF⟩ := m_chk hF
            refine va_iald (f := (Group_vs v)) hx hb hK hP 2 1 rfl rfl (mIn_ok h13) dX2_claimOf_89 ?_
            refine W.eq (g2 := F0 m 90 ls [.int ((Group_vs v) (x0).toNatClampNeg), .int t1]) rfl ?_
            refine lv_iadd hx hb dX2_claimOf_90 ?_
            obtain ⟨t14, ht14, hF⟩ := m_bnd hF
            refine mSP (n := 1) (rest := []) (As := [.int (t1 + ((Group_vs v) (x0).toNatClampNeg))]) CC hKN hGl hS (c_X2_toHundred l E (t1 + ((Group_vs v) (x0).toNatClampNeg)) t14 ht14) gX2_claimOf_X2_toHundred rfl ⟨rfl, rfl⟩ (by decide +kernel) ⟨Nat.le_of_ble_eq_true rfl, Nat.le_of_ble_eq_true rfl⟩ m_nil rfl hl.1 rfl (Nat.le_of_ble_eq_true rfl) ⟨Nat.zero_le _, Nat.zero_le _⟩ dX2_claimOf_91 ?_
            refine W.eq (g2 := F0 m 94 ls [.int t14]) rfl ?_
            refine lv_iconst (v := 2) hx hb dX2_claimOf_94 (by decide) ?_
            refine lv_idiv hx hb dX2_claimOf_95 (by decide) ?_
            have hF := Option.some.inj hF
            subst hF
            rw [hQ]
            exact W.iret hx hb hr (fun t ht _ => ⟨rfl, ht⟩) (fun _ h => by cases h) dX2_claimOf_96
          · have hF := m_neg c12 hF
            by_cases c15 : ((Group_kinds v) (x0).toNatClampNeg) = 6
            · have hF := m_pos c15 hF
              refine lv_tableIn (off := 85) (tgt := 97) hx hb dX2_claimOf_12 (by rw [c15]; decide) (by rw [c15]; decide) (by rw [c15]; rfl) (by decide) ?_
              refine lv_iconst (v := 2) hx hb dX2_claimOf_97 (by decide) ?_
              refine lv_iload_n hx hb dX2_claimOf_98 rfl (lv_at hl 0 rfl) ?_
              refine lv_imul hx hb dX2_claimOf_99 ?_
              refine lv_aload_n hx hb dX2_claimOf_100 rfl (lv_at hl 1 rfl) ?_
              refine lv_iload_n hx hb dX2_claimOf_101 rfl (lv_at hl 2 rfl) ?_
              obtain ⟨t16, ht16, hF⟩ := m_bnd hF
              refine mVP (ci := 2) (n := 1) (rest := [.int (2 * t1)]) (As := [.int x0]) CC hKN hGl hS (c_X2_rowNow l E a v x0 t16 ht16) gX2_claimOf_X2_rowNow rfl ⟨rfl, rfl⟩ (by decide +kernel) ⟨Nat.le_of_ble_eq_true rfl, Nat.le_of_ble_eq_true rfl⟩ hP rfl rfl rfl rfl hl.1 rfl (Nat.le_of_ble_eq_true rfl) ⟨Nat.zero_le _, Nat.zero_le _⟩ dX2_claimOf_102 ?_
              refine W.eq (g2 := F0 m 105 ls [.int t16, .int (2 * t1)]) rfl ?_
              refine lv_iadd hx hb dX2_claimOf_105 ?_
              obtain ⟨t17, ht17, hF⟩ := m_bnd hF
              refine mSP (n := 1) (rest := []) (As := [.int ((2 * t1) + t16)]) CC hKN hGl hS (c_X2_toHundred l E ((2 * t1) + t16) t17 ht17) gX2_claimOf_X2_toHundred rfl ⟨rfl, rfl⟩ (by decide +kernel) ⟨Nat.le_of_ble_eq_true rfl, Nat.le_of_ble_eq_true rfl⟩ m_nil rfl hl.1 rfl (Nat.le_of_ble_eq_true rfl) ⟨Nat.zero_le _, Nat.zero_le _⟩ dX2_claimOf_106 ?_
              refine W.eq (g2 := F0 m 109 ls [.int t17]) rfl ?_
              have hF := Option.some.inj hF
              subst hF
              rw [hQ]
              exact W.iret hx hb hr (fun t ht _ => ⟨rfl, ht⟩) (fun _ h => by cases h) dX2_claimOf_109
            · have hF := m_neg c15 hF
              have qc5 := lv_neT (a := 1) c5 rfl
              have qc6 := lv_neT (a := 2) c6 rfl
              have qc9 := lv_neT (a := 3) c9 rfl
              have qc11 := lv_neT (a := 4) c11 rfl
              have qc12 := lv_neT (a := 5) c12 rfl
              have qc15 := lv_neT (a := 6) c15 rfl
              refine lv_tableOut (tgt := 110) hx hb dX2_claimOf_12 (by omega) (by decide) ?_
              refine lv_iload_n hx hb dX2_claimOf_110 rfl (lv_at hl 0 rfl) ?_
              obtain ⟨t18, ht18, hF⟩ := m_bnd hF
              refine mSP (n := 1) (rest := []) (As := [.int t1]) CC hKN hGl hS (c_X2_toHundred l E t1 t18 ht18) gX2_claimOf_X2_toHundred rfl ⟨rfl, rfl⟩ (by decide +kernel) ⟨Nat.le_of_ble_eq_true rfl, Nat.le_of_ble_eq_true rfl⟩ m_nil rfl hl.1 rfl (Nat.le_of_ble_eq_true rfl) ⟨Nat.zero_le _, Nat.zero_le _⟩ dX2_claimOf_111 ?_
              refine W.eq (g2 := F0 m 114 ls [.int t18]) rfl ?_
              have hF := Option.some.inj hF
              subst hF
              rw [hQ]
              exact W.iret hx hb hr (fun t ht _ => ⟨rfl, ht⟩) (fun _ h => by cases h) dX2_claimOf_114

