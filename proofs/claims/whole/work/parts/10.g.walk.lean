abbrev rmX7_plan : Room := { frames := 2, cells := 0, slots := 0, locals := 42 }
set_option maxRecDepth 100000 in
set_option maxHeartbeats 400000 in
theorem c_X7_plan (l : Launch) (E : mE) (a : OneA) (v : OneV) (x0 : Int32) (x1 : Int32) (t : (Int32 × OneV)) (hF : fn_X7_plan v x0 x1 = some t) (sz : Nat) : Met l yX7_plan wsX7_plan rmX7_plan (mPm E [.ref (Onea_self a), .int x0, .int x1] sz ((One_c E a v)) (([] : va_W))) (mSm E (some (.int t.1)) ((One_c E a t.2)) (va_A ((One_c E a v)) sz)) 0 0 (va_A ((One_c E a v)) sz) := by
  refine mOfM (cc := cX7_plan) (maxL := 3) (ret := (some .int)) (by decide) rfl (Nat.le_of_ble_eq_true rfl) ?_
  intro p e_ s m args below meth c Q A hQ CC hr hlocks hin hA hP hD hKN hGl hR0 hRA ls hl
  have hS : va_S A s.heap s.heap [] := va_S.rf
  have hK := hKN.1
  have hx := CC.1
  have hb := CC.2.1
  have hml := CC.2.2.1
  have hown : s.vm.findClass RX7 = some m.cls := CC.2.2.2.1
  have hts := CC.2.2.2.2
  have hl : lv_has ls 3 [(0, .ref (Onea_self a)), (1, .int x0), (2, .int x1)] := hl
  have k0 := hts (.fieldLink RX7 12 "OneDidAll" "now" "LOneDidAll$Room;") (by decide +kernel)
  have k1 := (show ∀ w ∈ u_ws RX7 TX7 5, w ∈ wsX7_plan by decide +kernel)
  have k2 := (va_Nw.use rfl (hKN.2.1 ("OneDidAll", 245, "OneDidAll$Room", "plan", "LOneDidAll$Rows;", "OneDidAll") (by decide +kernel)) : (Cond.fieldLinkNest "OneDidAll" 245 "OneDidAll$Room" "plan" "LOneDidAll$Rows;" "OneDidAll").before args s = true)
  have k3 := (show ∀ w ∈ u_ws RX5 TX5 9, w ∈ wsX7_plan by decide +kernel)
  have hP : va_P E.1 vwCl (One_c E a v) s.heap := hP
  obtain ⟨H, hH⟩ : ∃ H, H = s.heap := ⟨_, rfl⟩
  obtain ⟨locs, hlc⟩ : ∃ z : List Loc, z = [] := ⟨_, rfl⟩
  rw [← hH] at hP
  rw [← hlc] at hS
  have hS : va_S A s.heap H locs := by rw [hH]; exact hS
  rw [← hH, ← hlc]
  unfold fn_X7_plan at hF
  refine lv_iload_n hx hb dX7_plan_0 rfl (lv_at hl 1 rfl) ?_
  refine lv_iconst (v := (-1)) hx hb dX7_plan_1 (by decide) ?_
  refine lv_icmp_ne (tgt := 16) hx hb dX7_plan_2 (by decide) (fun c1 => ?_) (fun c1 => ?_)
  · have hF := m_pos c1 hF
    refine lv_iload_n hx hb dX7_plan_16 rfl (lv_at hl 1 rfl) ?_
    refine lv_if_lt (tgt := 25) hx hb dX7_plan_17 (by decide) (fun c2 => ?_) (fun c2 => ?_)
    · have hF := m_pos c2 hF
      refine lv_iconst (v := (-1)) hx hb dX7_plan_25 (by decide) ?_
      have hF := Option.some.inj hF
      subst hF
      rw [hQ]
      exact W.iret hx hb hr (fun t ht _ => ⟨⟨rfl, by rw [ht]; exact hP, hD⟩, hS.F ht⟩) hS.2.2 dX7_plan_26
    · have hF := m_neg c2 hF
      refine lv_iload_n hx hb dX7_plan_20 rfl (lv_at hl 1 rfl) ?_
      refine lv_iconst (v := 3) hx hb dX7_plan_21 (by decide) ?_
      refine lv_icmp_le (tgt := 27) hx hb dX7_plan_22 (by decide) (fun c3 => ?_) (fun c3 => ?_)
      · have hF := m_pos c3 hF
        refine lv_iload_n hx hb dX7_plan_27 rfl (lv_at hl 1 rfl) ?_
        obtain ⟨j41, hjd41, hF⟩ := m_jp hF
        have hj41 : ∀ (H : Heap) (locs : List Loc) (ls : Array Slot), j41 () = some t → va_P E.1 vwCl (One_c E a v) H → va_D A (One_c E a v) → va_S A s.heap H locs → lv_has ls 3 [(0, .ref (Onea_self a)), (1, .int x0), (2, .int x1)] → W p l e_ rmX7_plan s m args below meth c H locs 0 0 Q (F0 m 41 ls []) := by
          intro H locs ls hF hP hD hS hl
          rw [hjd41] at hF
          refine lv_aload_n hx hb dX7_plan_41 rfl (lv_at hl 0 rfl) ?_
          refine va_get (D := E.1) (ci := 7) (v := .ref (Rooma_self (Onea_now a))) (C := RX7) (T := TX7) (N := 5) hx hb hts k1 hown hK hP 0 rfl rfl 0 (by decide) k0 (fun _ h9 => h9) rfl dX7_plan_42 ?_
          refine va_getN (D := E.1) (ci := 5) (v := .ref (Rowsa_self (Rooma_plan (Onea_now a)))) (C := RX5) (T := TX5) (N := 9) hx hb hts k3 hown hK hP 1 rfl rfl 7 (by decide) k2 (fun _ h9 => h9) rfl dX7_plan_45 ?_
          obtain ⟨t4, ht4, hF⟩ := m_bnd hF
          have hPc := m_cutP (mid := (Rows_c E (Rooma_plan (Onea_now a)) (Room_plan (One_now v)))) hP 16 3 rfl
          refine mVP (ci := 6) (n := 0) (rest := []) (As := []) CC hKN hGl hS (c_X6_isFull l E (Rooma_plan (Onea_now a)) (Room_plan (One_now v)) t4 ht4) gX7_plan_X6_isFull rfl ⟨rfl, rfl⟩ (by decide +kernel) ⟨Nat.le_of_ble_eq_true rfl, Nat.le_of_ble_eq_true rfl⟩ hPc rfl rfl rfl rfl hl.1 rfl (Nat.le_of_ble_eq_true rfl) ⟨Nat.zero_le _, Nat.zero_le _⟩ dX7_plan_48 ?_
          refine W.eq (g2 := F0 m 51 ls [.int t4]) rfl ?_
          refine lv_if_eq (tgt := 57) hx hb dX7_plan_51 (by decide) (fun c5 => ?_) (fun c5 => ?_)
          · have hF := m_pos c5 hF
            refine lv_aload_n hx hb dX7_plan_57 rfl (lv_at hl 0 rfl) ?_
            refine va_get (D := E.1) (ci := 7) (v := .ref (Rooma_self (Onea_now a))) (C := RX7) (T := TX7) (N := 5) hx hb hts k1 hown hK hP 0 rfl rfl 0 (by decide) k0 (fun _ h9 => h9) rfl dX7_plan_58 ?_
            refine va_getN (D := E.1) (ci := 5) (v := .ref (Rowsa_self (Rooma_plan (Onea_now a)))) (C := RX5) (T := TX5) (N := 9) hx hb hts k3 hown hK hP 1 rfl rfl 7 (by decide) k2 (fun _ h9 => h9) rfl dX7_plan_61 ?_
            refine lv_iload_n hx hb dX7_plan_64 rfl (lv_at hl 1 rfl) ?_
            refine lv_iload_n hx hb dX7_plan_65 rfl (lv_at hl 2 rfl) ?_
            obtain ⟨t6, ht6, hF⟩ := m_bnd hF
            have hpm : List.Perm (One_c E a v) ((Rows_c E (Rooma_plan (Onea_now a)) (Room_plan (One_now v))) ++ ((List.take 16 (One_c E a v)) ++ (List.drop 19 (One_c E a v)))) := m_p1 (A := (List.take 16 (One_c E a v))) (m := (Rows_c E (Rooma_plan (Onea_now a)) (Room_plan (One_now v)))) (C := (List.drop 19 (One_c E a v)))
            obtain ⟨hPc, hDc, hFc⟩ := m_pre hpm hP hD hS hA
            refine mVM (ci := 6) (n := 2) (rest := []) (As := [.int x0, .int x1]) CC hKN hGl (c_X6_add l E (Rooma_plan (Onea_now a)) (Room_plan (One_now v)) x0 x1 t6 ht6 _) gX7_plan_X6_add rfl ⟨rfl, rfl⟩ (by decide +kernel) ⟨Nat.le_of_ble_eq_true rfl, Nat.le_of_ble_eq_true rfl⟩ hPc hDc m_nil m_nilA hS hFc rfl rfl rfl rfl hl.1 rfl (Nat.le_of_ble_eq_true rfl) ⟨Nat.zero_le _, Nat.zero_le _⟩ dX7_plan_66 (fun H1 locs hP1 hD1 hz1 hk1 hS => ?_)
            have hpn : List.Perm (One_c E a (One_now_s v (Room_plan_s (One_now v) t6.2))) ((Rows_c E (Rooma_plan (Onea_now a)) t6.2) ++ ((List.take 16 (One_c E a v)) ++ (List.drop 19 (One_c E a v)))) := m_p1 (A := (List.take 16 (One_c E a v))) (m := (Rows_c E (Rooma_plan (Onea_now a)) t6.2)) (C := (List.drop 19 (One_c E a v)))
            obtain ⟨hP, hD⟩ := m_spl hpm hpn hP hD hk1 hFc hP1 hD1
            generalize H1 = H at hP hS ⊢
            refine W.eq (g2 := F0 m 69 ls [.int t6.1]) rfl ?_
            have hF := Option.some.inj hF
            subst hF
            rw [hQ]
            exact W.iret hx hb hr (fun t ht _ => ⟨⟨rfl, by rw [ht]; exact hP, hD⟩, hS.F ht⟩) hS.2.2 dX7_plan_69
          · have hF := m_neg c5 hF
            refine lv_bipush (v := (-4)) hx hb dX7_plan_54 (by decide) ?_
            have hF := Option.some.inj hF
            subst hF
            rw [hQ]
            exact W.iret hx hb hr (fun t ht _ => ⟨⟨rfl, by rw [ht]; exact hP, hD⟩, hS.F ht⟩) hS.2.2 dX7_plan_56
        clear hjd41
        refine lv_if_eq (tgt := 41) hx hb dX7_plan_28 (by decide) (fun c7 => ?_) (fun c7 => ?_)
        · have hF := m_pos c7 hF
          exact hj41 H locs ls hF hP hD hS (lv_sub hl [0, 1, 2] rfl)
        · have hF := m_neg c7 hF
          refine lv_aload_n hx hb dX7_plan_31 rfl (lv_at hl 0 rfl) ?_
          refine lv_iload_n hx hb dX7_plan_32 rfl (lv_at hl 2 rfl) ?_
          obtain ⟨t8, ht8, hF⟩ := m_bnd hF
          refine mVP (ci := 7) (n := 1) (rest := []) (As := [.int x1]) CC hKN hGl hS (c_X7_isPupil l E a v x1 t8 ht8) gX7_plan_X7_isPupil rfl ⟨rfl, rfl⟩ (by decide +kernel) ⟨Nat.le_of_ble_eq_true rfl, Nat.le_of_ble_eq_true rfl⟩ hP rfl rfl rfl rfl hl.1 rfl (Nat.le_of_ble_eq_true rfl) ⟨Nat.zero_le _, Nat.zero_le _⟩ dX7_plan_33 ?_
          refine W.eq (g2 := F0 m 36 ls [.int t8]) rfl ?_
          refine lv_if_ne (tgt := 41) hx hb dX7_plan_36 (by decide) (fun c9 => ?_) (fun c9 => ?_)
          · have hF := m_pos c9 hF
            exact hj41 H locs ls hF hP hD hS (lv_sub hl [0, 1, 2] rfl)
          · have hF := m_neg (fun n9 => n9 c9) hF
            refine lv_iconst (v := (-1)) hx hb dX7_plan_39 (by decide) ?_
            have hF := Option.some.inj hF
            subst hF
            rw [hQ]
            exact W.iret hx hb hr (fun t ht _ => ⟨⟨rfl, by rw [ht]; exact hP, hD⟩, hS.F ht⟩) hS.2.2 dX7_plan_40
      · have hF := m_neg c3 hF
        refine lv_iconst (v := (-1)) hx hb dX7_plan_25 (by decide) ?_
        have hF := Option.some.inj hF
        subst hF
        rw [hQ]
        exact W.iret hx hb hr (fun t ht _ => ⟨⟨rfl, by rw [ht]; exact hP, hD⟩, hS.F ht⟩) hS.2.2 dX7_plan_26
  · have hF := m_neg (fun n9 => n9 c1) hF
    refine lv_aload_n hx hb dX7_plan_5 rfl (lv_at hl 0 rfl) ?_
    refine va_get (D := E.1) (ci := 7) (v := .ref (Rooma_self (Onea_now a))) (C := RX7) (T := TX7) (N := 5) hx hb hts k1 hown hK hP 0 rfl rfl 0 (by decide) k0 (fun _ h9 => h9) rfl dX7_plan_6 ?_
    refine va_getN (D := E.1) (ci := 5) (v := .ref (Rowsa_self (Rooma_plan (Onea_now a)))) (C := RX5) (T := TX5) (N := 9) hx hb hts k3 hown hK hP 1 rfl rfl 7 (by decide) k2 (fun _ h9 => h9) rfl dX7_plan_9 ?_
    obtain ⟨t10, ht10, hF⟩ := m_bnd hF
    have hpm : List.Perm (One_c E a v) ((Rows_c E (Rooma_plan (Onea_now a)) (Room_plan (One_now v))) ++ ((List.take 16 (One_c E a v)) ++ (List.drop 19 (One_c E a v)))) := m_p1 (A := (List.take 16 (One_c E a v))) (m := (Rows_c E (Rooma_plan (Onea_now a)) (Room_plan (One_now v)))) (C := (List.drop 19 (One_c E a v)))
    obtain ⟨hPc, hDc, hFc⟩ := m_pre hpm hP hD hS hA
    refine mVM (ci := 6) (n := 0) (rest := []) (As := []) CC hKN hGl (c_X6_clear l E (Rooma_plan (Onea_now a)) (Room_plan (One_now v)) t10 ht10 _) gX7_plan_X6_clear rfl ⟨rfl, rfl⟩ (by decide +kernel) ⟨Nat.le_of_ble_eq_true rfl, Nat.le_of_ble_eq_true rfl⟩ hPc hDc m_nil m_nilA hS hFc rfl rfl rfl rfl hl.1 rfl (Nat.le_of_ble_eq_true rfl) ⟨Nat.zero_le _, Nat.zero_le _⟩ dX7_plan_12 (fun H1 locs hP1 hD1 hz1 hk1 hS => ?_)
    have hpn : List.Perm (One_c E a (One_now_s v (Room_plan_s (One_now v) t10.2))) ((Rows_c E (Rooma_plan (Onea_now a)) t10.2) ++ ((List.take 16 (One_c E a v)) ++ (List.drop 19 (One_c E a v)))) := m_p1 (A := (List.take 16 (One_c E a v))) (m := (Rows_c E (Rooma_plan (Onea_now a)) t10.2)) (C := (List.drop 19 (One_c E a v)))
    obtain ⟨hP, hD⟩ := m_spl hpm hpn hP hD hk1 hFc hP1 hD1
    generalize H1 = H at hP hS ⊢
    refine W.eq (g2 := F0 m 15 ls [.int t10.1]) rfl ?_
    have hF := Option.some.inj hF
    subst hF
    rw [hQ]
    exact W.iret hx hb hr (fun t ht _ => ⟨⟨rfl, by rw [ht]; exact hP, hD⟩, hS.F ht⟩) hS.2.2 dX7_plan_15

abbrev rmX7_book : Room := { frames := 2, cells := 0, slots := 0, locals := 42 }
set_option maxRecDepth 100000 in
set_option maxHeartbeats 400000 in
theorem c_X7_book (l : Launch) (E : mE) (a : OneA) (v : OneV) (x0 : Int32) (x1 : Int32) (t : (Int32 × OneV)) (hF : fn_X7_book v x0 x1 = some t) (sz : Nat) : Met l yX7_book wsX7_book rmX7_book (mPm E [.ref (Onea_self a), .int x0, .int x1] sz ((One_c E a v)) (([] : va_W))) (mSm E (some (.int t.1)) ((One_c E a t.2)) (va_A ((One_c E a v)) sz)) 0 0 (va_A ((One_c E a v)) sz) := by
  refine mOfM (cc := cX7_book) (maxL := 3) (ret := (some .int)) (by decide) rfl (Nat.le_of_ble_eq_true rfl) ?_
  intro p e_ s m args below meth c Q A hQ CC hr hlocks hin hA hP hD hKN hGl hR0 hRA ls hl
  have hS : va_S A s.heap s.heap [] := va_S.rf
  have hK := hKN.1
  have hx := CC.1
  have hb := CC.2.1
  have hml := CC.2.2.1
  have hown : s.vm.findClass RX7 = some m.cls := CC.2.2.2.1
  have hts := CC.2.2.2.2
  have hl : lv_has ls 3 [(0, .ref (Onea_self a)), (1, .int x0), (2, .int x1)] := hl
  have k0 := hts (.fieldLink RX7 12 "OneDidAll" "now" "LOneDidAll$Room;") (by decide +kernel)
  have k1 := (show ∀ w ∈ u_ws RX7 TX7 5, w ∈ wsX7_book by decide +kernel)
  have k2 := (va_Nw.use rfl (hKN.2.1 ("OneDidAll", 252, "OneDidAll$Room", "book", "LOneDidAll$Rows;", "OneDidAll") (by decide +kernel)) : (Cond.fieldLinkNest "OneDidAll" 252 "OneDidAll$Room" "book" "LOneDidAll$Rows;" "OneDidAll").before args s = true)
  have k3 := (show ∀ w ∈ u_ws RX5 TX5 9, w ∈ wsX7_book by decide +kernel)
  have hP : va_P E.1 vwCl (One_c E a v) s.heap := hP
  obtain ⟨H, hH⟩ : ∃ H, H = s.heap := ⟨_, rfl⟩
  obtain ⟨locs, hlc⟩ : ∃ z : List Loc, z = [] := ⟨_, rfl⟩
  rw [← hH] at hP
  rw [← hlc] at hS
  have hS : va_S A s.heap H locs := by rw [hH]; exact hS
  rw [← hH, ← hlc]
  unfold fn_X7_book at hF
  refine lv_iload_n hx hb dX7_book_0 rfl (lv_at hl 1 rfl) ?_
  refine lv_iconst (v := (-1)) hx hb dX7_book_1 (by decide) ?_
  refine lv_icmp_ne (tgt := 16) hx hb dX7_book_2 (by decide) (fun c1 => ?_) (fun c1 => ?_)
  · have hF := m_pos c1 hF
    refine lv_aload_n hx hb dX7_book_16 rfl (lv_at hl 0 rfl) ?_
    refine lv_iload_n hx hb dX7_book_17 rfl (lv_at hl 1 rfl) ?_
    obtain ⟨t2, ht2, hF⟩ := m_bnd hF
    refine mVP (ci := 7) (n := 1) (rest := []) (As := [.int x0]) CC hKN hGl hS (c_X7_isPupil l E a v x0 t2 ht2) gX7_book_X7_isPupil rfl ⟨rfl, rfl⟩ (by decide +kernel) ⟨Nat.le_of_ble_eq_true rfl, Nat.le_of_ble_eq_true rfl⟩ hP rfl rfl rfl rfl hl.1 rfl (Nat.le_of_ble_eq_true rfl) ⟨Nat.zero_le _, Nat.zero_le _⟩ dX7_book_18 ?_
    refine W.eq (g2 := F0 m 21 ls [.int t2]) rfl ?_
    refine lv_if_ne (tgt := 26) hx hb dX7_book_21 (by decide) (fun c3 => ?_) (fun c3 => ?_)
    · have hF := m_pos c3 hF
      refine lv_iload_n hx hb dX7_book_26 rfl (lv_at hl 2 rfl) ?_
      refine lv_if_lt (tgt := 37) hx hb dX7_book_27 (by decide) (fun c4 => ?_) (fun c4 => ?_)
      · have hF := m_pos c4 hF
        refine lv_bipush (v := (-2)) hx hb dX7_book_37 (by decide) ?_
        have hF := Option.some.inj hF
        subst hF
        rw [hQ]
        exact W.iret hx hb hr (fun t ht _ => ⟨⟨rfl, by rw [ht]; exact hP, hD⟩, hS.F ht⟩) hS.2.2 dX7_book_39
      · have hF := m_neg c4 hF
        refine lv_iload_n hx hb dX7_book_30 rfl (lv_at hl 2 rfl) ?_
        refine lv_sipush (v := 9999) hx hb dX7_book_31 (by decide) ?_
        refine lv_icmp_le (tgt := 40) hx hb dX7_book_34 (by decide) (fun c5 => ?_) (fun c5 => ?_)
        · have hF := m_pos c5 hF
          refine lv_aload_n hx hb dX7_book_40 rfl (lv_at hl 0 rfl) ?_
          refine va_get (D := E.1) (ci := 7) (v := .ref (Rooma_self (Onea_now a))) (C := RX7) (T := TX7) (N := 5) hx hb hts k1 hown hK hP 0 rfl rfl 0 (by decide) k0 (fun _ h9 => h9) rfl dX7_book_41 ?_
          refine va_getN (D := E.1) (ci := 5) (v := .ref (Rowsa_self (Rooma_book (Onea_now a)))) (C := RX5) (T := TX5) (N := 9) hx hb hts k3 hown hK hP 1 rfl rfl 8 (by decide) k2 (fun _ h9 => h9) rfl dX7_book_44 ?_
          obtain ⟨t6, ht6, hF⟩ := m_bnd hF
          have hPc := m_cutP (mid := (Rows_c E (Rooma_book (Onea_now a)) (Room_book (One_now v)))) hP 19 3 rfl
          refine mVP (ci := 6) (n := 0) (rest := []) (As := []) CC hKN hGl hS (c_X6_isFull l E (Rooma_book (Onea_now a)) (Room_book (One_now v)) t6 ht6) gX7_book_X6_isFull rfl ⟨rfl, rfl⟩ (by decide +kernel) ⟨Nat.le_of_ble_eq_true rfl, Nat.le_of_ble_eq_true rfl⟩ hPc rfl rfl rfl rfl hl.1 rfl (Nat.le_of_ble_eq_true rfl) ⟨Nat.zero_le _, Nat.zero_le _⟩ dX7_book_47 ?_
          refine W.eq (g2 := F0 m 50 ls [.int t6]) rfl ?_
          refine lv_if_eq (tgt := 56) hx hb dX7_book_50 (by decide) (fun c7 => ?_) (fun c7 => ?_)
          · have hF := m_pos c7 hF
            refine lv_aload_n hx hb dX7_book_56 rfl (lv_at hl 0 rfl) ?_
            refine va_get (D := E.1) (ci := 7) (v := .ref (Rooma_self (Onea_now a))) (C := RX7) (T := TX7) (N := 5) hx hb hts k1 hown hK hP 0 rfl rfl 0 (by decide) k0 (fun _ h9 => h9) rfl dX7_book_57 ?_
            refine va_getN (D := E.1) (ci := 5) (v := .ref (Rowsa_self (Rooma_book (Onea_now a)))) (C := RX5) (T := TX5) (N := 9) hx hb hts k3 hown hK hP 1 rfl rfl 8 (by decide) k2 (fun _ h9 => h9) rfl dX7_book_60 ?_
            refine lv_iload_n hx hb dX7_book_63 rfl (lv_at hl 1 rfl) ?_
            refine lv_iload_n hx hb dX7_book_64 rfl (lv_at hl 2 rfl) ?_
            obtain ⟨t8, ht8, hF⟩ := m_bnd hF
            have hpm : List.Perm (One_c E a v) ((Rows_c E (Rooma_book (Onea_now a)) (Room_book (One_now v))) ++ ((List.take 19 (One_c E a v)) ++ (List.drop 22 (One_c E a v)))) := m_p1 (A := (List.take 19 (One_c E a v))) (m := (Rows_c E (Rooma_book (Onea_now a)) (Room_book (One_now v)))) (C := (List.drop 22 (One_c E a v)))
            obtain ⟨hPc, hDc, hFc⟩ := m_pre hpm hP hD hS hA
            refine mVM (ci := 6) (n := 2) (rest := []) (As := [.int x0, .int x1]) CC hKN hGl (c_X6_add l E (Rooma_book (Onea_now a)) (Room_book (One_now v)) x0 x1 t8 ht8 _) gX7_book_X6_add rfl ⟨rfl, rfl⟩ (by decide +kernel) ⟨Nat.le_of_ble_eq_true rfl, Nat.le_of_ble_eq_true rfl⟩ hPc hDc m_nil m_nilA hS hFc rfl rfl rfl rfl hl.1 rfl (Nat.le_of_ble_eq_true rfl) ⟨Nat.zero_le _, Nat.zero_le _⟩ dX7_book_65 (fun H1 locs hP1 hD1 hz1 hk1 hS => ?_)
            have hpn : List.Perm (One_c E a (One_now_s v (Room_book_s (One_now v) t8.2))) ((Rows_c E (Rooma_book (Onea_now a)) t8.2) ++ ((List.take 19 (One_c E a v)) ++ (List.drop 22 (One_c E a v)))) := m_p1 (A := (List.take 19 (One_c E a v))) (m := (Rows_c E (Rooma_book (Onea_now a)) t8.2)) (C := (List.drop 22 (One_c E a v)))
            obtain ⟨hP, hD⟩ := m_spl hpm hpn hP hD hk1 hFc hP1 hD1
            generalize H1 = H at hP hS ⊢
            refine W.eq (g2 := F0 m 68 ls [.int t8.1]) rfl ?_
            have hF := Option.some.inj hF
            subst hF
            rw [hQ]
            exact W.iret hx hb hr (fun t ht _ => ⟨⟨rfl, by rw [ht]; exact hP, hD⟩, hS.F ht⟩) hS.2.2 dX7_book_68
          · have hF := m_neg c7 hF
            refine lv_bipush (v := (-4)) hx hb dX7_book_53 (by decide) ?_
            have hF := Option.some.inj hF
            subst hF
            rw [hQ]
            exact W.iret hx hb hr (fun t ht _ => ⟨⟨rfl, by rw [ht]; exact hP, hD⟩, hS.F ht⟩) hS.2.2 dX7_book_55
        · have hF := m_neg c5 hF
          refine lv_bipush (v := (-2)) hx hb dX7_book_37 (by decide) ?_
          have hF := Option.some.inj hF
          subst hF
          rw [hQ]
          exact W.iret hx hb hr (fun t ht _ => ⟨⟨rfl, by rw [ht]; exact hP, hD⟩, hS.F ht⟩) hS.2.2 dX7_book_39
    · have hF := m_neg (fun n9 => n9 c3) hF
      refine lv_iconst (v := (-1)) hx hb dX7_book_24 (by decide) ?_
      have hF := Option.some.inj hF
      subst hF
      rw [hQ]
      exact W.iret hx hb hr (fun t ht _ => ⟨⟨rfl, by rw [ht]; exact hP, hD⟩, hS.F ht⟩) hS.2.2 dX7_book_25
  · have hF := m_neg (fun n9 => n9 c1) hF
    refine lv_aload_n hx hb dX7_book_5 rfl (lv_at hl 0 rfl) ?_
    refine va_get (D := E.1) (ci := 7) (v := .ref (Rooma_self (Onea_now a))) (C := RX7) (T := TX7) (N := 5) hx hb hts k1 hown hK hP 0 rfl rfl 0 (by decide) k0 (fun _ h9 => h9) rfl dX7_book_6 ?_
    refine va_getN (D := E.1) (ci := 5) (v := .ref (Rowsa_self (Rooma_book (Onea_now a)))) (C := RX5) (T := TX5) (N := 9) hx hb hts k3 hown hK hP 1 rfl rfl 8 (by decide) k2 (fun _ h9 => h9) rfl dX7_book_9 ?_
    obtain ⟨t9, ht9, hF⟩ := m_bnd hF
    have hpm : List.Perm (One_c E a v) ((Rows_c E (Rooma_book (Onea_now a)) (Room_book (One_now v))) ++ ((List.take 19 (One_c E a v)) ++ (List.drop 22 (One_c E a v)))) := m_p1 (A := (List.take 19 (One_c E a v))) (m := (Rows_c E (Rooma_book (Onea_now a)) (Room_book (One_now v)))) (C := (List.drop 22 (One_c E a v)))
    obtain ⟨hPc, hDc, hFc⟩ := m_pre hpm hP hD hS hA
    refine mVM (ci := 6) (n := 0) (rest := []) (As := []) CC hKN hGl (c_X6_clear l E (Rooma_book (Onea_now a)) (Room_book (One_now v)) t9 ht9 _) gX7_book_X6_clear rfl ⟨rfl, rfl⟩ (by decide +kernel) ⟨Nat.le_of_ble_eq_true rfl, Nat.le_of_ble_eq_true rfl⟩ hPc hDc m_nil m_nilA hS hFc rfl rfl rfl rfl hl.1 rfl (Nat.le_of_ble_eq_true rfl) ⟨Nat.zero_le _, Nat.zero_le _⟩ dX7_book_12 (fun H1 locs hP1 hD1 hz1 hk1 hS => ?_)
    have hpn : List.Perm (One_c E a (One_now_s v (Room_book_s (One_now v) t9.2))) ((Rows_c E (Rooma_book (Onea_now a)) t9.2) ++ ((List.take 19 (One_c E a v)) ++ (List.drop 22 (One_c E a v)))) := m_p1 (A := (List.take 19 (One_c E a v))) (m := (Rows_c E (Rooma_book (Onea_now a)) t9.2)) (C := (List.drop 22 (One_c E a v)))
    obtain ⟨hP, hD⟩ := m_spl hpm hpn hP hD hk1 hFc hP1 hD1
    generalize H1 = H at hP hS ⊢
    refine W.eq (g2 := F0 m 15 ls [.int t9.1]) rfl ?_
    have hF := Option.some.inj hF
    subst hF
    rw [hQ]
    exact W.iret hx hb hr (fun t ht _ => ⟨⟨rfl, by rw [ht]; exact hP, hD⟩, hS.F ht⟩) hS.2.2 dX7_book_15

abbrev rmX7_looked : Room := { frames := 1, cells := 0, slots := 0, locals := 21 }
set_option maxRecDepth 100000 in
set_option maxHeartbeats 400000 in
theorem c_X7_looked (l : Launch) (E : mE) (a : OneA) (v : OneV) (t : Int32) (hF : fn_X7_looked v = some t) : Met l yX7_looked wsX7_looked rmX7_looked (mPp E [.ref (Onea_self a)] (One_c E a v)) (mSp (some (.int t))) 0 0 (fun _ => False) := by
  refine mOfP (cc := cX7_looked) (maxL := 3) (ret := (some .int)) (by decide) rfl (Nat.le_of_ble_eq_true rfl) ?_
  intro p e_ s m args below meth c Q hQ CC hr hlocks hP hKN hGl ls hl
  have hS : va_S (fun _ => False) s.heap s.heap [] := va_S.rf
  have hK := hKN.1
  have hx := CC.1
  have hb := CC.2.1
  have hml := CC.2.2.1
  have hown : s.vm.findClass RX7 = some m.cls := CC.2.2.2.1
  have hts := CC.2.2.2.2
  have hl : lv_has ls 3 [(0, .ref (Onea_self a))] := hl
  have k0 := hts (.fieldLink RX7 12 "OneDidAll" "now" "LOneDidAll$Room;") (by decide +kernel)
  have k1 := (show ∀ w ∈ u_ws RX7 TX7 5, w ∈ wsX7_looked by decide +kernel)
  have k2 := (va_Nw.use rfl (hKN.2.1 ("OneDidAll", 252, "OneDidAll$Room", "book", "LOneDidAll$Rows;", "OneDidAll") (by decide +kernel)) : (Cond.fieldLinkNest "OneDidAll" 252 "OneDidAll$Room" "book" "LOneDidAll$Rows;" "OneDidAll").before args s = true)
  have k3 := (show ∀ w ∈ u_ws RX5 TX5 9, w ∈ wsX7_looked by decide +kernel)
  have k4 := (va_Nw.use rfl (hKN.2.1 ("OneDidAll", 255, "OneDidAll$Rows", "size", "I", "OneDidAll") (by decide +kernel)) : (Cond.fieldLinkNest "OneDidAll" 255 "OneDidAll$Rows" "size" "I" "OneDidAll").before args s = true)
  have k5 := (show ∀ w ∈ u_ws RX6 TX6 3, w ∈ wsX7_looked by decide +kernel)
  have k6 := (va_Nw.use rfl (hKN.2.1 ("OneDidAll", 256, "OneDidAll$Rows", "firsts", "[I", "OneDidAll") (by decide +kernel)) : (Cond.fieldLinkNest "OneDidAll" 256 "OneDidAll$Rows" "firsts" "[I" "OneDidAll").before args s = true)
  have k7 := (va_Nw.use rfl (hKN.2.1 ("OneDidAll", 74, "OneDidAll$Room", "group", "LOneDidAll$Group;", "OneDidAll") (by decide +kernel)) : (Cond.fieldLinkNest "OneDidAll" 74 "OneDidAll$Room" "group" "LOneDidAll$Group;" "OneDidAll").before args s = true)
  have k8 := (va_Nw.use rfl (hKN.2.1 ("OneDidAll", 103, "OneDidAll$Group", "hours", "[I", "OneDidAll") (by decide +kernel)) : (Cond.fieldLinkNest "OneDidAll" 103 "OneDidAll$Group" "hours" "[I" "OneDidAll").before args s = true)
  have k9 := (show ∀ w ∈ u_ws RX2 TX2 11, w ∈ wsX7_looked by decide +kernel)
  have k10 := (va_Nw.use rfl (hKN.2.1 ("OneDidAll", 259, "OneDidAll$Rows", "seconds", "[I", "OneDidAll") (by decide +kernel)) : (Cond.fieldLinkNest "OneDidAll" 259 "OneDidAll$Rows" "seconds" "[I" "OneDidAll").before args s = true)
  unfold fn_X7_looked at hF
  refine lv_iconst (v := 0) hx hb dX7_looked_0 (by decide) ?_
  refine lv_istore_n (lv' := [(1, .int 0), (0, .ref (Onea_self a))]) hx hb dX7_looked_1 rfl hl (by decide) rfl (fun ls hl => ?_)
  have hL2 : ∀ (n : Nat) (y1_2 : Int32) (ls : Array Slot), lp_X7_looked_2 v n y1_2 = some t → lv_has ls 3 [(0, .ref (Onea_self a)), (1, .int y1_2)] → W p l e_ rmX7_looked s m args below meth c s.heap [] 0 0 Q (F0 m 2 ls []) := by
    intro n
    induction n with
    | zero =>
      intro y1_2 ls hF
      exact nomatch (show (none : Option Int32) = some t from hF)
    | succ n ih2 =>
      intro y1_2 ls hF hl
      have hF : st_X7_looked_2 v (lp_X7_looked_2 v n) y1_2 = some t := hF
      unfold st_X7_looked_2 at hF
      refine lv_iload_n hx hb dX7_looked_2 rfl (lv_at hl 1 rfl) ?_
      refine lv_aload_n hx hb dX7_looked_3 rfl (lv_at hl 0 rfl) ?_
      refine va_get (D := E.1) (ci := 7) (v := .ref (Rooma_self (Onea_now a))) (C := RX7) (T := TX7) (N := 5) hx hb hts k1 hown hK hP 0 rfl rfl 0 (by decide) k0 (fun _ h9 => h9) rfl dX7_looked_4 ?_
      refine va_getN (D := E.1) (ci := 5) (v := .ref (Rowsa_self (Rooma_book (Onea_now a)))) (C := RX5) (T := TX5) (N := 9) hx hb hts k3 hown hK hP 1 rfl rfl 8 (by decide) k2 (fun _ h9 => h9) rfl dX7_looked_7 ?_
      refine va_getN (D := E.1) (ci := 6) (v := .int (Rows_size (Room_book (One_now v)))) (C := RX6) (T := TX6) (N := 3) hx hb hts k5 hown hK hP 19 rfl rfl 2 (by decide) k4 (fun _ h9 => h9) rfl dX7_looked_10 ?_
      refine lv_icmp_ge (tgt := 72) hx hb dX7_looked_13 (by decide) (fun c1 => ?_) (fun c1 => ?_)
      · have hF := m_pos c1 hF
        refine lv_bipush (v := (-5)) hx hb dX7_looked_72 (by decide) ?_
        have hF := Option.some.inj hF
        subst hF
        rw [hQ]
        exact W.iret hx hb hr (fun t ht _ => ⟨rfl, ht⟩) (fun _ h => by cases h) dX7_looked_74
      · have hF := m_neg c1 hF
        refine lv_aload_n hx hb dX7_looked_16 rfl (lv_at hl 0 rfl) ?_
        refine va_get (D := E.1) (ci := 7) (v := .ref (Rooma_self (Onea_now a))) (C := RX7) (T := TX7) (N := 5) hx hb hts k1 hown hK hP 0 rfl rfl 0 (by decide) k0 (fun _ h9 => h9) rfl dX7_looked_17 ?_
        refine va_getN (D := E.1) (ci := 5) (v := .ref (Rowsa_self (Rooma_book (Onea_now a)))) (C := RX5) (T := TX5) (N := 9) hx hb hts k3 hown hK hP 1 rfl rfl 8 (by decide) k2 (fun _ h9 => h9) rfl dX7_looked_20 ?_
        refine va_getN (D := E.1) (ci := 6) (v := .ref (Rowsa_firsts (Rooma_book (Onea_now a)))) (C := RX6) (T := TX6) (N := 3) hx hb hts k5 hown hK hP 19 rfl rfl 0 (by decide) k6 (fun _ h9 => h9) rfl dX7_looked_23 ?_
        refine lv_iload_n hx hb dX7_looked_26 rfl (lv_at hl 1 rfl) ?_
        obtain ⟨h2, hF⟩ := m_chk hF
        refine va_iald (f := (Rows_firsts (Room_book (One_now v)))) hx hb hK hP 20 1 rfl rfl (mIn_ok h2) dX7_looked_27 ?_
        refine W.eq (g2 := F0 m 28 ls [.int ((Rows_firsts (Room_book (One_now v))) (y1_2).toNatClampNeg)]) rfl ?_
        refine lv_istore_n (lv' := [(2, .int ((Rows_firsts (Room_book (One_now v))) (y1_2).toNatClampNeg)), (0, .ref (Onea_self a)), (1, .int y1_2)]) hx hb dX7_looked_28 rfl hl (by decide) rfl (fun ls hl => ?_)
        refine lv_aload_n hx hb dX7_looked_29 rfl (lv_at hl 1 rfl) ?_
        refine lv_iload_n hx hb dX7_looked_30 rfl (lv_at hl 0 rfl) ?_
        obtain ⟨t3, ht3, hF⟩ := m_bnd hF
        refine mVP (ci := 7) (n := 1) (rest := []) (As := [.int ((Rows_firsts (Room_book (One_now v))) (y1_2).toNatClampNeg)]) CC hKN hGl hS (c_X7_isPupil l E a v ((Rows_firsts (Room_book (One_now v))) (y1_2).toNatClampNeg) t3 ht3) gX7_looked_X7_isPupil rfl ⟨rfl, rfl⟩ (by decide +kernel) ⟨Nat.le_of_ble_eq_true rfl, Nat.le_of_ble_eq_true rfl⟩ hP rfl rfl rfl rfl hl.1 rfl (Nat.le_of_ble_eq_true rfl) ⟨Nat.zero_le _, Nat.zero_le _⟩ dX7_looked_31 ?_
        refine W.eq (g2 := F0 m 34 ls [.int t3]) rfl ?_
        obtain ⟨j66, hjd66, hF⟩ := m_jp hF
        have hj66 : ∀ (ls : Array Slot), j66 () = some t → lv_has ls 3 [(0, .ref (Onea_self a)), (1, .int y1_2)] → W p l e_ rmX7_looked s m args below meth c s.heap [] 0 0 Q (F0 m 66 ls []) := by
          intro ls hF hl
          rw [hjd66] at hF
          refine lv_iinc (v := (y1_2 + 1)) (lv' := [(1, .int (y1_2 + 1)), (0, .ref (Onea_self a))]) hx hb dX7_looked_66 hl (k := 1) rfl rfl (by decide) rfl (fun ls hl => ?_)
          refine lv_goto (tgt := 2) hx hb dX7_looked_69 (by decide) ?_
          exact ih2 (y1_2 + 1) ls hF (lv_sub hl [1, 0] rfl)
        clear hjd66
        refine lv_if_eq (tgt := 66) hx hb dX7_looked_34 (by decide) (fun c4 => ?_) (fun c4 => ?_)
        · have hF := m_pos c4 hF
          exact hj66 ls hF (lv_sub hl [1, 2] rfl)
        · have hF := m_neg c4 hF
          refine lv_aload_n hx hb dX7_looked_37 rfl (lv_at hl 1 rfl) ?_
          refine va_get (D := E.1) (ci := 7) (v := .ref (Rooma_self (Onea_now a))) (C := RX7) (T := TX7) (N := 5) hx hb hts k1 hown hK hP 0 rfl rfl 0 (by decide) k0 (fun _ h9 => h9) rfl dX7_looked_38 ?_
          refine va_getN (D := E.1) (ci := 5) (v := .ref (Groupa_self (Rooma_group (Onea_now a)))) (C := RX5) (T := TX5) (N := 9) hx hb hts k3 hown hK hP 1 rfl rfl 0 (by decide) k7 (fun _ h9 => h9) rfl dX7_looked_41 ?_
          refine va_getN (D := E.1) (ci := 2) (v := .ref (Groupa_hours (Rooma_group (Onea_now a)))) (C := RX2) (T := TX2) (N := 11) hx hb hts k9 hown hK hP 2 rfl rfl 7 (by decide) k8 (fun _ h9 => h9) rfl dX7_looked_44 ?_
          refine lv_iload_n hx hb dX7_looked_47 rfl (lv_at hl 0 rfl) ?_
          obtain ⟨h5, hF⟩ := m_chk hF
          refine va_iald (f := (Group_hours (Room_group (One_now v)))) hx hb hK hP 7 1 rfl rfl (mIn_ok h5) dX7_looked_48 ?_
          refine W.eq (g2 := F0 m 49 ls [.int ((Group_hours (Room_group (One_now v))) (((Rows_firsts (Room_book (One_now v))) (y1_2).toNatClampNeg)).toNatClampNeg)]) rfl ?_
          refine lv_aload_n hx hb dX7_looked_49 rfl (lv_at hl 1 rfl) ?_
          refine va_get (D := E.1) (ci := 7) (v := .ref (Rooma_self (Onea_now a))) (C := RX7) (T := TX7) (N := 5) hx hb hts k1 hown hK hP 0 rfl rfl 0 (by decide) k0 (fun _ h9 => h9) rfl dX7_looked_50 ?_
          refine va_getN (D := E.1) (ci := 5) (v := .ref (Rowsa_self (Rooma_book (Onea_now a)))) (C := RX5) (T := TX5) (N := 9) hx hb hts k3 hown hK hP 1 rfl rfl 8 (by decide) k2 (fun _ h9 => h9) rfl dX7_looked_53 ?_
          refine va_getN (D := E.1) (ci := 6) (v := .ref (Rowsa_seconds (Rooma_book (Onea_now a)))) (C := RX6) (T := TX6) (N := 3) hx hb hts k5 hown hK hP 19 rfl rfl 1 (by decide) k10 (fun _ h9 => h9) rfl dX7_looked_56 ?_
          refine lv_iload_n hx hb dX7_looked_59 rfl (lv_at hl 2 rfl) ?_
          obtain ⟨h6, hF⟩ := m_chk hF
          refine va_iald (f := (Rows_seconds (Room_book (One_now v)))) hx hb hK hP 21 1 rfl rfl (mIn_ok h6) dX7_looked_60 ?_
          refine W.eq (g2 := F0 m 61 ls [.int ((Rows_seconds (Room_book (One_now v))) (y1_2).toNatClampNeg), .int ((Group_hours (Room_group (One_now v))) (((Rows_firsts (Room_book (One_now v))) (y1_2).toNatClampNeg)).toNatClampNeg)]) rfl ?_
          refine lv_icmp_eq (tgt := 66) hx hb dX7_looked_61 (by decide) (fun c7 => ?_) (fun c7 => ?_)
          · have hF := m_pos c7 hF
            exact hj66 ls hF (lv_sub hl [1, 2] rfl)
          · have hF := m_neg c7 hF
            refine lv_iload_n hx hb dX7_looked_64 rfl (lv_at hl 2 rfl) ?_
            have hF := Option.some.inj hF
            subst hF
            rw [hQ]
            exact W.iret hx hb hr (fun t ht _ => ⟨rfl, ht⟩) (fun _ h => by cases h) dX7_looked_65
  exact hL2 m_N 0 ls hF (lv_sub hl [1, 0] rfl)

abbrev rmX7_act : Room := { frames := 13, cells := 0, slots := 0, locals := 297 }
set_option maxRecDepth 100000 in
set_option maxHeartbeats 400000 in
theorem c_X7_act (l : Launch) (E : mE) (a : OneA) (v : OneV) (x0 : Int32) (x1 : Int32) (x2 : Int32) (t : (Int32 × OneV)) (hF : fn_X7_act v x0 x1 x2 = some t) (sz : Nat) : Met l yX7_act wsX7_act rmX7_act (mPm E [.ref (Onea_self a), .int x0, .int x1, .int x2] sz ((One_c E a v)) (([] : va_W))) (mSm E (some (.int t.1)) ((One_c E a t.2)) (va_A ((One_c E a v)) sz)) 0 0 (va_A ((One_c E a v)) sz) := by
  refine mOfM (cc := cX7_act) (maxL := 4) (ret := (some .int)) (by decide) rfl (Nat.le_of_ble_eq_true rfl) ?_
  intro p e_ s m args below meth c Q A hQ CC hr hlocks hin hA hP hD hKN hGl hR0 hRA ls hl
  have hS : va_S A s.heap s.heap [] := va_S.rf
  have hK := hKN.1
  have hx := CC.1
  have hb := CC.2.1
  have hml := CC.2.2.1
  have hown : s.vm.findClass RX7 = some m.cls := CC.2.2.2.1
  have hts := CC.2.2.2.2
  have hl : lv_has ls 4 [(0, .ref (Onea_self a)), (1, .int x0), (2, .int x1), (3, .int x2)] := hl
  have k0 := hts (.fieldLink RX7 35 "OneDidAll" "acts" "LOneDidAll$Acts;") (by decide +kernel)
  have k1 := (show ∀ w ∈ u_ws RX7 TX7 5, w ∈ wsX7_act by decide +kernel)
  have k2 := (va_Nw.use rfl (hKN.2.1 ("OneDidAll", 262, "OneDidAll$Acts", "ran", "I", "OneDidAll") (by decide +kernel)) : (Cond.fieldLinkNest "OneDidAll" 262 "OneDidAll$Acts" "ran" "I" "OneDidAll").before args s = true)
  have k3 := (show ∀ w ∈ u_ws RX0 TX0 5, w ∈ wsX7_act by decide +kernel)
  have k4 := hts (.fieldLink RX7 12 "OneDidAll" "now" "LOneDidAll$Room;") (by decide +kernel)
  have k5 := (va_Nw.use rfl (hKN.2.1 ("OneDidAll", 74, "OneDidAll$Room", "group", "LOneDidAll$Group;", "OneDidAll") (by decide +kernel)) : (Cond.fieldLinkNest "OneDidAll" 74 "OneDidAll$Room" "group" "LOneDidAll$Group;" "OneDidAll").before args s = true)
  have k6 := (show ∀ w ∈ u_ws RX5 TX5 9, w ∈ wsX7_act by decide +kernel)
  have k7 := (va_Nw.use rfl (hKN.2.1 ("OneDidAll", 90, "OneDidAll$Group", "kinds", "[I", "OneDidAll") (by decide +kernel)) : (Cond.fieldLinkNest "OneDidAll" 90 "OneDidAll$Group" "kinds" "[I" "OneDidAll").before args s = true)
  have k8 := (show ∀ w ∈ u_ws RX2 TX2 11, w ∈ wsX7_act by decide +kernel)
  have k9 := (va_Nw.use rfl (hKN.2.1 ("OneDidAll", 265, "OneDidAll$Acts", "kind", "I", "OneDidAll") (by decide +kernel)) : (Cond.fieldLinkNest "OneDidAll" 265 "OneDidAll$Acts" "kind" "I" "OneDidAll").before args s = true)
  have k10 := (va_Nw.use rfl (hKN.2.1 ("OneDidAll", 94, "OneDidAll$Group", "vs", "[I", "OneDidAll") (by decide +kernel)) : (Cond.fieldLinkNest "OneDidAll" 94 "OneDidAll$Group" "vs" "[I" "OneDidAll").before args s = true)
  have k11 := (va_Nw.use rfl (hKN.2.1 ("OneDidAll", 268, "OneDidAll$Acts", "v", "I", "OneDidAll") (by decide +kernel)) : (Cond.fieldLinkNest "OneDidAll" 268 "OneDidAll$Acts" "v" "I" "OneDidAll").before args s = true)
  have k12 := (va_Nw.use rfl (hKN.2.1 ("OneDidAll", 271, "OneDidAll$Acts", "i", "I", "OneDidAll") (by decide +kernel)) : (Cond.fieldLinkNest "OneDidAll" 271 "OneDidAll$Acts" "i" "I" "OneDidAll").before args s = true)
  have hP : va_P E.1 vwCl (One_c E a v) s.heap := hP
  obtain ⟨H, hH⟩ : ∃ H, H = s.heap := ⟨_, rfl⟩
  obtain ⟨locs, hlc⟩ : ∃ z : List Loc, z = [] := ⟨_, rfl⟩
  rw [← hH] at hP
  rw [← hlc] at hS
  have hS : va_S A s.heap H locs := by rw [hH]; exact hS
  rw [← hH, ← hlc]
  unfold fn_X7_act at hF
  refine lv_aload_n hx hb dX7_act_0 rfl (lv_at hl 0 rfl) ?_
  refine va_get (D := E.1) (ci := 7) (v := .ref (Actsa_self (Onea_acts a))) (C := RX7) (T := TX7) (N := 5) hx hb hts k1 hown hK hP 0 rfl rfl 4 (by decide) k0 (fun _ h9 => h9) rfl dX7_act_1 ?_
  refine lv_iconst (v := 0) hx hb dX7_act_4 (by decide) ?_
  refine va_putN (D := E.1) (ci := 0) (v := .int 0) (ty := .int) (C := RX0) (T := TX0) (N := 5) hx hb hts k3 tyX0 tyX0_ok nmX0 hown hK hP hD hS 62 rfl rfl 1 (by decide) k2 (fun _ h9 => h9) rfl (by decide +kernel) rfl rfl (Nat.le_of_ble_eq_true rfl) dX7_act_5 (fun H locs hP hD hS => ?_)
  have hP : va_P E.1 vwCl (One_c E a (One_acts_s v (Acts_ran_s (One_acts v) 0))) H := hP
  have hD : va_D A (One_c E a (One_acts_s v (Acts_ran_s (One_acts v) 0))) := hD
  refine lv_aload_n hx hb dX7_act_8 rfl (lv_at hl 0 rfl) ?_
  refine lv_iload_n hx hb dX7_act_9 rfl (lv_at hl 1 rfl) ?_
  obtain ⟨t1, ht1, hF⟩ := m_bnd hF
  refine mVP (ci := 7) (n := 1) (rest := []) (As := [.int x0]) CC hKN hGl hS (c_X7_isPupil l E a (One_acts_s v (Acts_ran_s (One_acts v) 0)) x0 t1 ht1) gX7_act_X7_isPupil rfl ⟨rfl, rfl⟩ (by decide +kernel) ⟨Nat.le_of_ble_eq_true rfl, Nat.le_of_ble_eq_true rfl⟩ hP rfl rfl rfl rfl hl.1 rfl (Nat.le_of_ble_eq_true rfl) ⟨Nat.zero_le _, Nat.zero_le _⟩ dX7_act_10 ?_
  refine W.eq (g2 := F0 m 13 ls [.int t1]) rfl ?_
  refine lv_if_ne (tgt := 18) hx hb dX7_act_13 (by decide) (fun c2 => ?_) (fun c2 => ?_)
  · have hF := m_pos c2 hF
    refine lv_aload_n hx hb dX7_act_18 rfl (lv_at hl 0 rfl) ?_
    refine va_get (D := E.1) (ci := 7) (v := .ref (Actsa_self (Onea_acts a))) (C := RX7) (T := TX7) (N := 5) hx hb hts k1 hown hK hP 0 rfl rfl 4 (by decide) k0 (fun _ h9 => h9) rfl dX7_act_19 ?_
    refine lv_aload_n hx hb dX7_act_22 rfl (lv_at hl 0 rfl) ?_
    refine va_get (D := E.1) (ci := 7) (v := .ref (Rooma_self (Onea_now a))) (C := RX7) (T := TX7) (N := 5) hx hb hts k1 hown hK hP 0 rfl rfl 0 (by decide) k4 (fun _ h9 => h9) rfl dX7_act_23 ?_
    refine va_getN (D := E.1) (ci := 5) (v := .ref (Groupa_self (Rooma_group (Onea_now a)))) (C := RX5) (T := TX5) (N := 9) hx hb hts k6 hown hK hP 1 rfl rfl 0 (by decide) k5 (fun _ h9 => h9) rfl dX7_act_26 ?_
    refine va_getN (D := E.1) (ci := 2) (v := .ref (Groupa_kinds (Rooma_group (Onea_now a)))) (C := RX2) (T := TX2) (N := 11) hx hb hts k8 hown hK hP 2 rfl rfl 3 (by decide) k7 (fun _ h9 => h9) rfl dX7_act_29 ?_
    refine lv_iload_n hx hb dX7_act_32 rfl (lv_at hl 1 rfl) ?_
    obtain ⟨h3, hF⟩ := m_chk hF
    refine va_iald (f := (Group_kinds (Room_group (One_now v)))) hx hb hK hP 3 1 rfl rfl (mIn_ok h3) dX7_act_33 ?_
    refine W.eq (g2 := F0 m 34 ls [.int ((Group_kinds (Room_group (One_now v))) (x0).toNatClampNeg), .ref (Actsa_self (Onea_acts a))]) rfl ?_
    refine va_putN (D := E.1) (ci := 0) (v := .int ((Group_kinds (Room_group (One_now v))) (x0).toNatClampNeg)) (ty := .int) (C := RX0) (T := TX0) (N := 5) hx hb hts k3 tyX0 tyX0_ok nmX0 hown hK hP hD hS 62 rfl rfl 2 (by decide) k9 (fun _ h9 => h9) rfl (by decide +kernel) rfl rfl (Nat.le_of_ble_eq_true rfl) dX7_act_34 (fun H locs hP hD hS => ?_)
    have hP : va_P E.1 vwCl (One_c E a (One_acts_s v (Acts_kind_s (Acts_ran_s (One_acts v) 0) ((Group_kinds (Room_group (One_now v))) (x0).toNatClampNeg)))) H := hP
    have hD : va_D A (One_c E a (One_acts_s v (Acts_kind_s (Acts_ran_s (One_acts v) 0) ((Group_kinds (Room_group (One_now v))) (x0).toNatClampNeg)))) := hD
    refine lv_aload_n hx hb dX7_act_37 rfl (lv_at hl 0 rfl) ?_
    refine va_get (D := E.1) (ci := 7) (v := .ref (Actsa_self (Onea_acts a))) (C := RX7) (T := TX7) (N := 5) hx hb hts k1 hown hK hP 0 rfl rfl 4 (by decide) k0 (fun _ h9 => h9) rfl dX7_act_38 ?_
    refine lv_aload_n hx hb dX7_act_41 rfl (lv_at hl 0 rfl) ?_
    refine va_get (D := E.1) (ci := 7) (v := .ref (Rooma_self (Onea_now a))) (C := RX7) (T := TX7) (N := 5) hx hb hts k1 hown hK hP 0 rfl rfl 0 (by decide) k4 (fun _ h9 => h9) rfl dX7_act_42 ?_
    refine va_getN (D := E.1) (ci := 5) (v := .ref (Groupa_self (Rooma_group (Onea_now a)))) (C := RX5) (T := TX5) (N := 9) hx hb hts k6 hown hK hP 1 rfl rfl 0 (by decide) k5 (fun _ h9 => h9) rfl dX7_act_45 ?_
    refine va_getN (D := E.1) (ci := 2) (v := .ref (Groupa_vs (Rooma_group (Onea_now a)))) (C := RX2) (T := TX2) (N := 11) hx hb hts k8 hown hK hP 2 rfl rfl 4 (by decide) k10 (fun _ h9 => h9) rfl dX7_act_48 ?_
    refine lv_iload_n hx hb dX7_act_51 rfl (lv_at hl 1 rfl) ?_
    obtain ⟨h4, hF⟩ := m_chk hF
    refine va_iald (f := (Group_vs (Room_group (One_now v)))) hx hb hK hP 4 1 rfl rfl (mIn_ok h4) dX7_act_52 ?_
    refine W.eq (g2 := F0 m 53 ls [.int ((Group_vs (Room_group (One_now v))) (x0).toNatClampNeg), .ref (Actsa_self (Onea_acts a))]) rfl ?_
    refine va_putN (D := E.1) (ci := 0) (v := .int ((Group_vs (Room_group (One_now v))) (x0).toNatClampNeg)) (ty := .int) (C := RX0) (T := TX0) (N := 5) hx hb hts k3 tyX0 tyX0_ok nmX0 hown hK hP hD hS 62 rfl rfl 3 (by decide) k11 (fun _ h9 => h9) rfl (by decide +kernel) rfl rfl (Nat.le_of_ble_eq_true rfl) dX7_act_53 (fun H locs hP hD hS => ?_)
    have hP : va_P E.1 vwCl (One_c E a (One_acts_s v (Acts_v_s (Acts_kind_s (Acts_ran_s (One_acts v) 0) ((Group_kinds (Room_group (One_now v))) (x0).toNatClampNeg)) ((Group_vs (Room_group (One_now v))) (x0).toNatClampNeg)))) H := hP
    have hD : va_D A (One_c E a (One_acts_s v (Acts_v_s (Acts_kind_s (Acts_ran_s (One_acts v) 0) ((Group_kinds (Room_group (One_now v))) (x0).toNatClampNeg)) ((Group_vs (Room_group (One_now v))) (x0).toNatClampNeg)))) := hD
    refine lv_aload_n hx hb dX7_act_56 rfl (lv_at hl 0 rfl) ?_
    refine va_get (D := E.1) (ci := 7) (v := .ref (Actsa_self (Onea_acts a))) (C := RX7) (T := TX7) (N := 5) hx hb hts k1 hown hK hP 0 rfl rfl 4 (by decide) k0 (fun _ h9 => h9) rfl dX7_act_57 ?_
    refine lv_iload_n hx hb dX7_act_60 rfl (lv_at hl 1 rfl) ?_
    refine va_putN (D := E.1) (ci := 0) (v := .int x0) (ty := .int) (C := RX0) (T := TX0) (N := 5) hx hb hts k3 tyX0 tyX0_ok nmX0 hown hK hP hD hS 62 rfl rfl 4 (by decide) k12 (fun _ h9 => h9) rfl (by decide +kernel) rfl rfl (Nat.le_of_ble_eq_true rfl) dX7_act_61 (fun H locs hP hD hS => ?_)
    have hP : va_P E.1 vwCl (One_c E a (One_acts_s v (Acts_i_s (Acts_v_s (Acts_kind_s (Acts_ran_s (One_acts v) 0) ((Group_kinds (Room_group (One_now v))) (x0).toNatClampNeg)) ((Group_vs (Room_group (One_now v))) (x0).toNatClampNeg)) x0))) H := hP
    have hD : va_D A (One_c E a (One_acts_s v (Acts_i_s (Acts_v_s (Acts_kind_s (Acts_ran_s (One_acts v) 0) ((Group_kinds (Room_group (One_now v))) (x0).toNatClampNeg)) ((Group_vs (Room_group (One_now v))) (x0).toNatClampNeg)) x0))) := hD
    refine lv_iload_n hx hb dX7_act_64 rfl (lv_at hl 2 rfl) ?_
    by_cases c5 : x1 = 0
    · have hF := m_pos c5 hF
      refine lv_tableIn (off := 27) (tgt := 92) hx hb dX7_act_65 (by rw [c5]; decide) (by rw [c5]; decide) (by rw [c5]; rfl) (by decide) ?_
      refine lv_aload_n hx hb dX7_act_92 rfl (lv_at hl 0 rfl) ?_
      refine va_get (D := E.1) (ci := 7) (v := .ref (Actsa_self (Onea_acts a))) (C := RX7) (T := TX7) (N := 5) hx hb hts k1 hown hK hP 0 rfl rfl 4 (by decide) k0 (fun _ h9 => h9) rfl dX7_act_93 ?_
      refine lv_aload_n hx hb dX7_act_96 rfl (lv_at hl 0 rfl) ?_
      refine va_get (D := E.1) (ci := 7) (v := .ref (Actsa_self (Onea_acts a))) (C := RX7) (T := TX7) (N := 5) hx hb hts k1 hown hK hP 0 rfl rfl 4 (by decide) k0 (fun _ h9 => h9) rfl dX7_act_97 ?_
      refine va_getN (D := E.1) (ci := 0) (v := .int ((Group_kinds (Room_group (One_now v))) (x0).toNatClampNeg)) (C := RX0) (T := TX0) (N := 5) hx hb hts k3 hown hK hP 62 rfl rfl 2 (by decide) k9 (fun _ h9 => h9) rfl dX7_act_100 ?_
      refine lv_iload_n hx hb dX7_act_103 rfl (lv_at hl 3 rfl) ?_
      refine lv_iconst (v := 0) hx hb dX7_act_104 (by decide) ?_
      obtain ⟨t6, ht6, hF⟩ := m_bnd hF
      have hpm : List.Perm (One_c E a (One_acts_s v (Acts_i_s (Acts_v_s (Acts_kind_s (Acts_ran_s (One_acts v) 0) ((Group_kinds (Room_group (One_now v))) (x0).toNatClampNeg)) ((Group_vs (Room_group (One_now v))) (x0).toNatClampNeg)) x0))) ((Acts_c E (Onea_acts a) (Acts_i_s (Acts_v_s (Acts_kind_s (Acts_ran_s (One_acts v) 0) ((Group_kinds (Room_group (One_now v))) (x0).toNatClampNeg)) ((Group_vs (Room_group (One_now v))) (x0).toNatClampNeg)) x0)) ++ ((List.take 62 (One_c E a (One_acts_s v (Acts_i_s (Acts_v_s (Acts_kind_s (Acts_ran_s (One_acts v) 0) ((Group_kinds (Room_group (One_now v))) (x0).toNatClampNeg)) ((Group_vs (Room_group (One_now v))) (x0).toNatClampNeg)) x0)))) ++ (List.drop 64 (One_c E a (One_acts_s v (Acts_i_s (Acts_v_s (Acts_kind_s (Acts_ran_s (One_acts v) 0) ((Group_kinds (Room_group (One_now v))) (x0).toNatClampNeg)) ((Group_vs (Room_group (One_now v))) (x0).toNatClampNeg)) x0)))))) := m_p1 (A := (List.take 62 (One_c E a (One_acts_s v (Acts_i_s (Acts_v_s (Acts_kind_s (Acts_ran_s (One_acts v) 0) ((Group_kinds (Room_group (One_now v))) (x0).toNatClampNeg)) ((Group_vs (Room_group (One_now v))) (x0).toNatClampNeg)) x0))))) (m := (Acts_c E (Onea_acts a) (Acts_i_s (Acts_v_s (Acts_kind_s (Acts_ran_s (One_acts v) 0) ((Group_kinds (Room_group (One_now v))) (x0).toNatClampNeg)) ((Group_vs (Room_group (One_now v))) (x0).toNatClampNeg)) x0))) (C := (List.drop 64 (One_c E a (One_acts_s v (Acts_i_s (Acts_v_s (Acts_kind_s (Acts_ran_s (One_acts v) 0) ((Group_kinds (Room_group (One_now v))) (x0).toNatClampNeg)) ((Group_vs (Room_group (One_now v))) (x0).toNatClampNeg)) x0)))))
      obtain ⟨hPc, hDc, hFc⟩ := m_pre hpm hP hD hS hA
      refine mVNM (host := "OneDidAll") (ci := 0) (n := 3) (rest := []) (As := [.int ((Group_kinds (Room_group (One_now v))) (x0).toNatClampNeg), .int x2, .int 0]) CC hKN hGl ((cg_Tk l E 3) (Onea_acts a) (Acts_i_s (Acts_v_s (Acts_kind_s (Acts_ran_s (One_acts v) 0) ((Group_kinds (Room_group (One_now v))) (x0).toNatClampNeg)) ((Group_vs (Room_group (One_now v))) (x0).toNatClampNeg)) x0) ((Group_kinds (Room_group (One_now v))) (x0).toNatClampNeg) x2 0 t6 ht6 _) gX7_act_X0_thinks_n274 rfl ⟨rfl, rfl⟩ (hts (.initialized RX0) (by decide +kernel)) (hKN.2.2.1 ("OneDidAll", 274, ⟨"OneDidAll$Acts", "thinks", "(III)I"⟩, "OneDidAll") (by decide +kernel)) (hts (.instanceMethod yX0_thinks) (by decide +kernel)) (hts (.selects RX0 yX0_thinks yX0_thinks) (by decide +kernel)) (by decide +kernel) ⟨Nat.le_of_ble_eq_true rfl, Nat.le_of_ble_eq_true rfl⟩ hPc hDc m_nil m_nilA hS hFc rfl rfl rfl rfl hl.1 rfl (Nat.le_of_ble_eq_true rfl) ⟨Nat.zero_le _, Nat.zero_le _⟩ dX7_act_105 (fun H1 locs hP1 hD1 hz1 hk1 hS => ?_)
      have hpn : List.Perm (One_c E a (One_acts_s v t6.2)) ((Acts_c E (Onea_acts a) t6.2) ++ ((List.take 62 (One_c E a (One_acts_s v (Acts_i_s (Acts_v_s (Acts_kind_s (Acts_ran_s (One_acts v) 0) ((Group_kinds (Room_group (One_now v))) (x0).toNatClampNeg)) ((Group_vs (Room_group (One_now v))) (x0).toNatClampNeg)) x0)))) ++ (List.drop 64 (One_c E a (One_acts_s v (Acts_i_s (Acts_v_s (Acts_kind_s (Acts_ran_s (One_acts v) 0) ((Group_kinds (Room_group (One_now v))) (x0).toNatClampNeg)) ((Group_vs (Room_group (One_now v))) (x0).toNatClampNeg)) x0)))))) := m_p1 (A := (List.take 62 (One_c E a (One_acts_s v (Acts_i_s (Acts_v_s (Acts_kind_s (Acts_ran_s (One_acts v) 0) ((Group_kinds (Room_group (One_now v))) (x0).toNatClampNeg)) ((Group_vs (Room_group (One_now v))) (x0).toNatClampNeg)) x0))))) (m := (Acts_c E (Onea_acts a) t6.2)) (C := (List.drop 64 (One_c E a (One_acts_s v (Acts_i_s (Acts_v_s (Acts_kind_s (Acts_ran_s (One_acts v) 0) ((Group_kinds (Room_group (One_now v))) (x0).toNatClampNeg)) ((Group_vs (Room_group (One_now v))) (x0).toNatClampNeg)) x0)))))
      obtain ⟨hP, hD⟩ := m_spl hpm hpn hP hD hk1 hFc hP1 hD1
      generalize H1 = H at hP hS ⊢
      refine W.eq (g2 := F0 m 108 ls [.int t6.1]) rfl ?_
      have hF := Option.some.inj hF
      subst hF
      rw [hQ]
      exact W.iret hx hb hr (fun t ht _ => ⟨⟨rfl, by rw [ht]; exact hP, hD⟩, hS.F ht⟩) hS.2.2 dX7_act_108
    · have hF := m_neg c5 hF
      by_cases c7 : x1 = 1
      · have hF := m_pos c7 hF
        refine lv_tableIn (off := 44) (tgt := 109) hx hb dX7_act_65 (by rw [c7]; decide) (by rw [c7]; decide) (by rw [c7]; rfl) (by decide) ?_
        refine lv_aload_n hx hb dX7_act_109 rfl (lv_at hl 0 rfl) ?_
        refine va_get (D := E.1) (ci := 7) (v := .ref (Actsa_self (Onea_acts a))) (C := RX7) (T := TX7) (N := 5) hx hb hts k1 hown hK hP 0 rfl rfl 4 (by decide) k0 (fun _ h9 => h9) rfl dX7_act_110 ?_
        refine lv_aload_n hx hb dX7_act_113 rfl (lv_at hl 0 rfl) ?_
        refine va_get (D := E.1) (ci := 7) (v := .ref (Actsa_self (Onea_acts a))) (C := RX7) (T := TX7) (N := 5) hx hb hts k1 hown hK hP 0 rfl rfl 4 (by decide) k0 (fun _ h9 => h9) rfl dX7_act_114 ?_
        refine va_getN (D := E.1) (ci := 0) (v := .int ((Group_kinds (Room_group (One_now v))) (x0).toNatClampNeg)) (C := RX0) (T := TX0) (N := 5) hx hb hts k3 hown hK hP 62 rfl rfl 2 (by decide) k9 (fun _ h9 => h9) rfl dX7_act_117 ?_
        refine lv_iload_n hx hb dX7_act_120 rfl (lv_at hl 3 rfl) ?_
        refine lv_iconst (v := 0) hx hb dX7_act_121 (by decide) ?_
        obtain ⟨t8, ht8, hF⟩ := m_bnd hF
        have hpm : List.Perm (One_c E a (One_acts_s v (Acts_i_s (Acts_v_s (Acts_kind_s (Acts_ran_s (One_acts v) 0) ((Group_kinds (Room_group (One_now v))) (x0).toNatClampNeg)) ((Group_vs (Room_group (One_now v))) (x0).toNatClampNeg)) x0))) ((Acts_c E (Onea_acts a) (Acts_i_s (Acts_v_s (Acts_kind_s (Acts_ran_s (One_acts v) 0) ((Group_kinds (Room_group (One_now v))) (x0).toNatClampNeg)) ((Group_vs (Room_group (One_now v))) (x0).toNatClampNeg)) x0)) ++ ((List.take 62 (One_c E a (One_acts_s v (Acts_i_s (Acts_v_s (Acts_kind_s (Acts_ran_s (One_acts v) 0) ((Group_kinds (Room_group (One_now v))) (x0).toNatClampNeg)) ((Group_vs (Room_group (One_now v))) (x0).toNatClampNeg)) x0)))) ++ (List.drop 64 (One_c E a (One_acts_s v (Acts_i_s (Acts_v_s (Acts_kind_s (Acts_ran_s (One_acts v) 0) ((Group_kinds (Room_group (One_now v))) (x0).toNatClampNeg)) ((Group_vs (Room_group (One_now v))) (x0).toNatClampNeg)) x0)))))) := m_p1 (A := (List.take 62 (One_c E a (One_acts_s v (Acts_i_s (Acts_v_s (Acts_kind_s (Acts_ran_s (One_acts v) 0) ((Group_kinds (Room_group (One_now v))) (x0).toNatClampNeg)) ((Group_vs (Room_group (One_now v))) (x0).toNatClampNeg)) x0))))) (m := (Acts_c E (Onea_acts a) (Acts_i_s (Acts_v_s (Acts_kind_s (Acts_ran_s (One_acts v) 0) ((Group_kinds (Room_group (One_now v))) (x0).toNatClampNeg)) ((Group_vs (Room_group (One_now v))) (x0).toNatClampNeg)) x0))) (C := (List.drop 64 (One_c E a (One_acts_s v (Acts_i_s (Acts_v_s (Acts_kind_s (Acts_ran_s (One_acts v) 0) ((Group_kinds (Room_group (One_now v))) (x0).toNatClampNeg)) ((Group_vs (Room_group (One_now v))) (x0).toNatClampNeg)) x0)))))
        obtain ⟨hPc, hDc, hFc⟩ := m_pre hpm hP hD hS hA
        refine mVNM (host := "OneDidAll") (ci := 0) (n := 3) (rest := []) (As := [.int ((Group_kinds (Room_group (One_now v))) (x0).toNatClampNeg), .int x2, .int 0]) CC hKN hGl ((cg_Wr l E 3) (Onea_acts a) (Acts_i_s (Acts_v_s (Acts_kind_s (Acts_ran_s (One_acts v) 0) ((Group_kinds (Room_group (One_now v))) (x0).toNatClampNeg)) ((Group_vs (Room_group (One_now v))) (x0).toNatClampNeg)) x0) ((Group_kinds (Room_group (One_now v))) (x0).toNatClampNeg) x2 0 t8 ht8 _) gX7_act_X0_writes_n277 rfl ⟨rfl, rfl⟩ (hts (.initialized RX0) (by decide +kernel)) (hKN.2.2.1 ("OneDidAll", 277, ⟨"OneDidAll$Acts", "writes", "(III)I"⟩, "OneDidAll") (by decide +kernel)) (hts (.instanceMethod yX0_writes) (by decide +kernel)) (hts (.selects RX0 yX0_writes yX0_writes) (by decide +kernel)) (by decide +kernel) ⟨Nat.le_of_ble_eq_true rfl, Nat.le_of_ble_eq_true rfl⟩ hPc hDc m_nil m_nilA hS hFc rfl rfl rfl rfl hl.1 rfl (Nat.le_of_ble_eq_true rfl) ⟨Nat.zero_le _, Nat.zero_le _⟩ dX7_act_122 (fun H1 locs hP1 hD1 hz1 hk1 hS => ?_)
        have hpn : List.Perm (One_c E a (One_acts_s v t8.2)) ((Acts_c E (Onea_acts a) t8.2) ++ ((List.take 62 (One_c E a (One_acts_s v (Acts_i_s (Acts_v_s (Acts_kind_s (Acts_ran_s (One_acts v) 0) ((Group_kinds (Room_group (One_now v))) (x0).toNatClampNeg)) ((Group_vs (Room_group (One_now v))) (x0).toNatClampNeg)) x0)))) ++ (List.drop 64 (One_c E a (One_acts_s v (Acts_i_s (Acts_v_s (Acts_kind_s (Acts_ran_s (One_acts v) 0) ((Group_kinds (Room_group (One_now v))) (x0).toNatClampNeg)) ((Group_vs (Room_group (One_now v))) (x0).toNatClampNeg)) x0)))))) := m_p1 (A := (List.take 62 (One_c E a (One_acts_s v (Acts_i_s (Acts_v_s (Acts_kind_s (Acts_ran_s (One_acts v) 0) ((Group_kinds (Room_group (One_now v))) (x0).toNatClampNeg)) ((Group_vs (Room_group (One_now v))) (x0).toNatClampNeg)) x0))))) (m := (Acts_c E (Onea_acts a) t8.2)) (C := (List.drop 64 (One_c E a (One_acts_s v (Acts_i_s (Acts_v_s (Acts_kind_s (Acts_ran_s (One_acts v) 0) ((Group_kinds (Room_group (One_now v))) (x0).toNatClampNeg)) ((Group_vs (Room_group (One_now v))) (x0).toNatClampNeg)) x0)))))
        obtain ⟨hP, hD⟩ := m_spl hpm hpn hP hD hk1 hFc hP1 hD1
        generalize H1 = H at hP hS ⊢
        refine W.eq (g2 := F0 m 125 ls [.int t8.1]) rfl ?_
        have hF := Option.some.inj hF
        subst hF
        rw [hQ]
        exact W.iret hx hb hr (fun t ht _ => ⟨⟨rfl, by rw [ht]; exact hP, hD⟩, hS.F ht⟩) hS.2.2 dX7_act_125
      · have hF := m_neg c7 hF
        by_cases c9 : x1 = 2
        · have hF := m_pos c9 hF
          refine lv_tableIn (off := 61) (tgt := 126) hx hb dX7_act_65 (by rw [c9]; decide) (by rw [c9]; decide) (by rw [c9]; rfl) (by decide) ?_
          refine lv_aload_n hx hb dX7_act_126 rfl (lv_at hl 0 rfl) ?_
          refine va_get (D := E.1) (ci := 7) (v := .ref (Actsa_self (Onea_acts a))) (C := RX7) (T := TX7) (N := 5) hx hb hts k1 hown hK hP 0 rfl rfl 4 (by decide) k0 (fun _ h9 => h9) rfl dX7_act_127 ?_
          refine lv_aload_n hx hb dX7_act_130 rfl (lv_at hl 0 rfl) ?_
          refine va_get (D := E.1) (ci := 7) (v := .ref (Actsa_self (Onea_acts a))) (C := RX7) (T := TX7) (N := 5) hx hb hts k1 hown hK hP 0 rfl rfl 4 (by decide) k0 (fun _ h9 => h9) rfl dX7_act_131 ?_
          refine va_getN (D := E.1) (ci := 0) (v := .int ((Group_kinds (Room_group (One_now v))) (x0).toNatClampNeg)) (C := RX0) (T := TX0) (N := 5) hx hb hts k3 hown hK hP 62 rfl rfl 2 (by decide) k9 (fun _ h9 => h9) rfl dX7_act_134 ?_
          refine lv_iload_n hx hb dX7_act_137 rfl (lv_at hl 3 rfl) ?_
          refine lv_iconst (v := 0) hx hb dX7_act_138 (by decide) ?_
          obtain ⟨t10, ht10, hF⟩ := m_bnd hF
          have hpm : List.Perm (One_c E a (One_acts_s v (Acts_i_s (Acts_v_s (Acts_kind_s (Acts_ran_s (One_acts v) 0) ((Group_kinds (Room_group (One_now v))) (x0).toNatClampNeg)) ((Group_vs (Room_group (One_now v))) (x0).toNatClampNeg)) x0))) ((Acts_c E (Onea_acts a) (Acts_i_s (Acts_v_s (Acts_kind_s (Acts_ran_s (One_acts v) 0) ((Group_kinds (Room_group (One_now v))) (x0).toNatClampNeg)) ((Group_vs (Room_group (One_now v))) (x0).toNatClampNeg)) x0)) ++ ((List.take 62 (One_c E a (One_acts_s v (Acts_i_s (Acts_v_s (Acts_kind_s (Acts_ran_s (One_acts v) 0) ((Group_kinds (Room_group (One_now v))) (x0).toNatClampNeg)) ((Group_vs (Room_group (One_now v))) (x0).toNatClampNeg)) x0)))) ++ (List.drop 64 (One_c E a (One_acts_s v (Acts_i_s (Acts_v_s (Acts_kind_s (Acts_ran_s (One_acts v) 0) ((Group_kinds (Room_group (One_now v))) (x0).toNatClampNeg)) ((Group_vs (Room_group (One_now v))) (x0).toNatClampNeg)) x0)))))) := m_p1 (A := (List.take 62 (One_c E a (One_acts_s v (Acts_i_s (Acts_v_s (Acts_kind_s (Acts_ran_s (One_acts v) 0) ((Group_kinds (Room_group (One_now v))) (x0).toNatClampNeg)) ((Group_vs (Room_group (One_now v))) (x0).toNatClampNeg)) x0))))) (m := (Acts_c E (Onea_acts a) (Acts_i_s (Acts_v_s (Acts_kind_s (Acts_ran_s (One_acts v) 0) ((Group_kinds (Room_group (One_now v))) (x0).toNatClampNeg)) ((Group_vs (Room_group (One_now v))) (x0).toNatClampNeg)) x0))) (C := (List.drop 64 (One_c E a (One_acts_s v (Acts_i_s (Acts_v_s (Acts_kind_s (Acts_ran_s (One_acts v) 0) ((Group_kinds (Room_group (One_now v))) (x0).toNatClampNeg)) ((Group_vs (Room_group (One_now v))) (x0).toNatClampNeg)) x0)))))
          obtain ⟨hPc, hDc, hFc⟩ := m_pre hpm hP hD hS hA
          refine mVNM (host := "OneDidAll") (ci := 0) (n := 3) (rest := []) (As := [.int ((Group_kinds (Room_group (One_now v))) (x0).toNatClampNeg), .int x2, .int 0]) CC hKN hGl ((cg_Tl l E 3) (Onea_acts a) (Acts_i_s (Acts_v_s (Acts_kind_s (Acts_ran_s (One_acts v) 0) ((Group_kinds (Room_group (One_now v))) (x0).toNatClampNeg)) ((Group_vs (Room_group (One_now v))) (x0).toNatClampNeg)) x0) ((Group_kinds (Room_group (One_now v))) (x0).toNatClampNeg) x2 0 t10 ht10 _) gX7_act_X0_tells_n280 rfl ⟨rfl, rfl⟩ (hts (.initialized RX0) (by decide +kernel)) (hKN.2.2.1 ("OneDidAll", 280, ⟨"OneDidAll$Acts", "tells", "(III)I"⟩, "OneDidAll") (by decide +kernel)) (hts (.instanceMethod yX0_tells) (by decide +kernel)) (hts (.selects RX0 yX0_tells yX0_tells) (by decide +kernel)) (by decide +kernel) ⟨Nat.le_of_ble_eq_true rfl, Nat.le_of_ble_eq_true rfl⟩ hPc hDc m_nil m_nilA hS hFc rfl rfl rfl rfl hl.1 rfl (Nat.le_of_ble_eq_true rfl) ⟨Nat.zero_le _, Nat.zero_le _⟩ dX7_act_139 (fun H1 locs hP1 hD1 hz1 hk1 hS => ?_)
          have hpn : List.Perm (One_c E a (One_acts_s v t10.2)) ((Acts_c E (Onea_acts a) t10.2) ++ ((List.take 62 (One_c E a (One_acts_s v (Acts_i_s (Acts_v_s (Acts_kind_s (Acts_ran_s (One_acts v) 0) ((Group_kinds (Room_group (One_now v))) (x0).toNatClampNeg)) ((Group_vs (Room_group (One_now v))) (x0).toNatClampNeg)) x0)))) ++ (List.drop 64 (One_c E a (One_acts_s v (Acts_i_s (Acts_v_s (Acts_kind_s (Acts_ran_s (One_acts v) 0) ((Group_kinds (Room_group (One_now v))) (x0).toNatClampNeg)) ((Group_vs (Room_group (One_now v))) (x0).toNatClampNeg)) x0)))))) := m_p1 (A := (List.take 62 (One_c E a (One_acts_s v (Acts_i_s (Acts_v_s (Acts_kind_s (Acts_ran_s (One_acts v) 0) ((Group_kinds (Room_group (One_now v))) (x0).toNatClampNeg)) ((Group_vs (Room_group (One_now v))) (x0).toNatClampNeg)) x0))))) (m := (Acts_c E (Onea_acts a) t10.2)) (C := (List.drop 64 (One_c E a (One_acts_s v (Acts_i_s (Acts_v_s (Acts_kind_s (Acts_ran_s (One_acts v) 0) ((Group_kinds (Room_group (One_now v))) (x0).toNatClampNeg)) ((Group_vs (Room_group (One_now v))) (x0).toNatClampNeg)) x0)))))
          obtain ⟨hP, hD⟩ := m_spl hpm hpn hP hD hk1 hFc hP1 hD1
          generalize H1 = H at hP hS ⊢
          refine W.eq (g2 := F0 m 142 ls [.int t10.1]) rfl ?_
          have hF := Option.some.inj hF
          subst hF
          rw [hQ]
          exact W.iret hx hb hr (fun t ht _ => ⟨⟨rfl, by rw [ht]; exact hP, hD⟩, hS.F ht⟩) hS.2.2 dX7_act_142
        · have hF := m_neg c9 hF
          have qc5 := lv_neT (a := 0) c5 rfl
          have qc7 := lv_neT (a := 1) c7 rfl
          have qc9 := lv_neT (a := 2) c9 rfl
          refine lv_tableOut (tgt := 143) hx hb dX7_act_65 (by omega) (by decide) ?_
          refine lv_iconst (v := 0) hx hb dX7_act_143 (by decide) ?_
          have hF := Option.some.inj hF
          subst hF
          rw [hQ]
          exact W.iret hx hb hr (fun t ht _ => ⟨⟨rfl, by rw [ht]; exact hP, hD⟩, hS.F ht⟩) hS.2.2 dX7_act_144
  · have hF := m_neg (fun n9 => n9 c2) hF
    refine lv_iconst (v := 0) hx hb dX7_act_16 (by decide) ?_
    have hF := Option.some.inj hF
    subst hF
    rw [hQ]
    exact W.iret hx hb hr (fun t ht _ => ⟨⟨rfl, by rw [ht]; exact hP, hD⟩, hS.F ht⟩) hS.2.2 dX7_act_17

abbrev rmX7_as : Room := { frames := 2, cells := 0, slots := 0, locals := 43 }
set_option maxRecDepth 100000 in
set_option maxHeartbeats 400000 in
theorem c_X7_as (l : Launch) (E : mE) (a : OneA) (v : OneV) (x0 : Int32) (x1 : Int32) (t : Int32) (hF : fn_X7_as v x0 x1 = some t) : Met l yX7_as wsX7_as rmX7_as (mPp E [.ref (Onea_self a), .int x0, .int x1] (One_c E a v)) (mSp (some (.int t))) 0 0 (fun _ => False) := by
  refine mOfP (cc := cX7_as) (maxL := 3) (ret := (some .int)) (by decide) rfl (Nat.le_of_ble_eq_true rfl) ?_
  intro p e_ s m args below meth c Q hQ CC hr hlocks hP hKN hGl ls hl
  have hS : va_S (fun _ => False) s.heap s.heap [] := va_S.rf
  have hK := hKN.1
  have hx := CC.1
  have hb := CC.2.1
  have hml := CC.2.2.1
  have hown : s.vm.findClass RX7 = some m.cls := CC.2.2.2.1
  have hts := CC.2.2.2.2
  have hl : lv_has ls 3 [(0, .ref (Onea_self a)), (1, .int x0), (2, .int x1)] := hl
  have k0 := hts (.fieldLink RX7 12 "OneDidAll" "now" "LOneDidAll$Room;") (by decide +kernel)
  have k1 := (show ∀ w ∈ u_ws RX7 TX7 5, w ∈ wsX7_as by decide +kernel)
  have k2 := (va_Nw.use rfl (hKN.2.1 ("OneDidAll", 74, "OneDidAll$Room", "group", "LOneDidAll$Group;", "OneDidAll") (by decide +kernel)) : (Cond.fieldLinkNest "OneDidAll" 74 "OneDidAll$Room" "group" "LOneDidAll$Group;" "OneDidAll").before args s = true)
  have k3 := (show ∀ w ∈ u_ws RX5 TX5 9, w ∈ wsX7_as by decide +kernel)
  have k4 := (va_Nw.use rfl (hKN.2.1 ("OneDidAll", 90, "OneDidAll$Group", "kinds", "[I", "OneDidAll") (by decide +kernel)) : (Cond.fieldLinkNest "OneDidAll" 90 "OneDidAll$Group" "kinds" "[I" "OneDidAll").before args s = true)
  have k5 := (show ∀ w ∈ u_ws RX2 TX2 11, w ∈ wsX7_as by decide +kernel)
  have k6 := (va_Nw.use rfl (hKN.2.1 ("OneDidAll", 94, "OneDidAll$Group", "vs", "[I", "OneDidAll") (by decide +kernel)) : (Cond.fieldLinkNest "OneDidAll" 94 "OneDidAll$Group" "vs" "[I" "OneDidAll").before args s = true)
  unfold fn_X7_as at hF
  refine lv_aload_n hx hb dX7_as_0 rfl (lv_at hl 0 rfl) ?_
  refine lv_iload_n hx hb dX7_as_1 rfl (lv_at hl 1 rfl) ?_
  obtain ⟨t1, ht1, hF⟩ := m_bnd hF
  refine mVP (ci := 7) (n := 1) (rest := []) (As := [.int x0]) CC hKN hGl hS (c_X7_isPupil l E a v x0 t1 ht1) gX7_as_X7_isPupil rfl ⟨rfl, rfl⟩ (by decide +kernel) ⟨Nat.le_of_ble_eq_true rfl, Nat.le_of_ble_eq_true rfl⟩ hP rfl rfl rfl rfl hl.1 rfl (Nat.le_of_ble_eq_true rfl) ⟨Nat.zero_le _, Nat.zero_le _⟩ dX7_as_2 ?_
  refine W.eq (g2 := F0 m 5 ls [.int t1]) rfl ?_
  refine lv_if_eq (tgt := 15) hx hb dX7_as_5 (by decide) (fun c2 => ?_) (fun c2 => ?_)
  · have hF := m_pos c2 hF
    refine lv_iconst (v := (-1)) hx hb dX7_as_15 (by decide) ?_
    have hF := Option.some.inj hF
    subst hF
    rw [hQ]
    exact W.iret hx hb hr (fun t ht _ => ⟨rfl, ht⟩) (fun _ h => by cases h) dX7_as_16
  · have hF := m_neg c2 hF
    refine lv_iload_n hx hb dX7_as_8 rfl (lv_at hl 2 rfl) ?_
    obtain ⟨t3, ht3, hF⟩ := m_bnd hF
    refine mSP (n := 1) (rest := []) (As := [.int x1]) CC hKN hGl hS (c_X7_isKind l E x1 t3 ht3) gX7_as_X7_isKind rfl ⟨rfl, rfl⟩ (by decide +kernel) ⟨Nat.le_of_ble_eq_true rfl, Nat.le_of_ble_eq_true rfl⟩ m_nil rfl hl.1 rfl (Nat.le_of_ble_eq_true rfl) ⟨Nat.zero_le _, Nat.zero_le _⟩ dX7_as_9 ?_
    refine W.eq (g2 := F0 m 12 ls [.int t3]) rfl ?_
    refine lv_if_ne (tgt := 17) hx hb dX7_as_12 (by decide) (fun c4 => ?_) (fun c4 => ?_)
    · have hF := m_pos c4 hF
      refine lv_aload_n hx hb dX7_as_17 rfl (lv_at hl 0 rfl) ?_
      refine va_get (D := E.1) (ci := 7) (v := .ref (Rooma_self (Onea_now a))) (C := RX7) (T := TX7) (N := 5) hx hb hts k1 hown hK hP 0 rfl rfl 0 (by decide) k0 (fun _ h9 => h9) rfl dX7_as_18 ?_
      refine va_getN (D := E.1) (ci := 5) (v := .ref (Groupa_self (Rooma_group (Onea_now a)))) (C := RX5) (T := TX5) (N := 9) hx hb hts k3 hown hK hP 1 rfl rfl 0 (by decide) k2 (fun _ h9 => h9) rfl dX7_as_21 ?_
      refine va_getN (D := E.1) (ci := 2) (v := .ref (Groupa_kinds (Rooma_group (Onea_now a)))) (C := RX2) (T := TX2) (N := 11) hx hb hts k5 hown hK hP 2 rfl rfl 3 (by decide) k4 (fun _ h9 => h9) rfl dX7_as_24 ?_
      refine lv_iload_n hx hb dX7_as_27 rfl (lv_at hl 1 rfl) ?_
      obtain ⟨h5, hF⟩ := m_chk hF
      refine va_iald (f := (Group_kinds (Room_group (One_now v)))) hx hb hK hP 3 1 rfl rfl (mIn_ok h5) dX7_as_28 ?_
      refine W.eq (g2 := F0 m 29 ls [.int ((Group_kinds (Room_group (One_now v))) (x0).toNatClampNeg)]) rfl ?_
      refine lv_iload_n hx hb dX7_as_29 rfl (lv_at hl 2 rfl) ?_
      obtain ⟨t6, ht6, hF⟩ := m_bnd hF
      refine mSP (n := 2) (rest := []) (As := [.int ((Group_kinds (Room_group (One_now v))) (x0).toNatClampNeg), .int x1]) CC hKN hGl hS (c_X7_isUnder l E ((Group_kinds (Room_group (One_now v))) (x0).toNatClampNeg) x1 t6 ht6) gX7_as_X7_isUnder rfl ⟨rfl, rfl⟩ (by decide +kernel) ⟨Nat.le_of_ble_eq_true rfl, Nat.le_of_ble_eq_true rfl⟩ m_nil rfl hl.1 rfl (Nat.le_of_ble_eq_true rfl) ⟨Nat.zero_le _, Nat.zero_le _⟩ dX7_as_30 ?_
      refine W.eq (g2 := F0 m 33 ls [.int t6]) rfl ?_
      refine lv_if_eq (tgt := 51) hx hb dX7_as_33 (by decide) (fun c7 => ?_) (fun c7 => ?_)
      · have hF := m_pos c7 hF
        refine lv_bipush (v := (-6)) hx hb dX7_as_51 (by decide) ?_
        have hF := Option.some.inj hF
        subst hF
        rw [hQ]
        exact W.iret hx hb hr (fun t ht _ => ⟨rfl, ht⟩) (fun _ h => by cases h) dX7_as_53
      · have hF := m_neg c7 hF
        refine lv_aload_n hx hb dX7_as_36 rfl (lv_at hl 0 rfl) ?_
        refine va_get (D := E.1) (ci := 7) (v := .ref (Rooma_self (Onea_now a))) (C := RX7) (T := TX7) (N := 5) hx hb hts k1 hown hK hP 0 rfl rfl 0 (by decide) k0 (fun _ h9 => h9) rfl dX7_as_37 ?_
        refine va_getN (D := E.1) (ci := 5) (v := .ref (Groupa_self (Rooma_group (Onea_now a)))) (C := RX5) (T := TX5) (N := 9) hx hb hts k3 hown hK hP 1 rfl rfl 0 (by decide) k2 (fun _ h9 => h9) rfl dX7_as_40 ?_
        refine va_getN (D := E.1) (ci := 2) (v := .ref (Groupa_vs (Rooma_group (Onea_now a)))) (C := RX2) (T := TX2) (N := 11) hx hb hts k5 hown hK hP 2 rfl rfl 4 (by decide) k6 (fun _ h9 => h9) rfl dX7_as_43 ?_
        refine lv_iload_n hx hb dX7_as_46 rfl (lv_at hl 1 rfl) ?_
        obtain ⟨h8, hF⟩ := m_chk hF
        refine va_iald (f := (Group_vs (Room_group (One_now v)))) hx hb hK hP 4 1 rfl rfl (mIn_ok h8) dX7_as_47 ?_
        refine W.eq (g2 := F0 m 48 ls [.int ((Group_vs (Room_group (One_now v))) (x0).toNatClampNeg)]) rfl ?_
        refine lv_goto (tgt := 53) hx hb dX7_as_48 (by decide) ?_
        have hF := Option.some.inj hF
        subst hF
        rw [hQ]
        exact W.iret hx hb hr (fun t ht _ => ⟨rfl, ht⟩) (fun _ h => by cases h) dX7_as_53
    · have hF := m_neg (fun n9 => n9 c4) hF
      refine lv_iconst (v := (-1)) hx hb dX7_as_15 (by decide) ?_
      have hF := Option.some.inj hF
      subst hF
      rw [hQ]
      exact W.iret hx hb hr (fun t ht _ => ⟨rfl, ht⟩) (fun _ h => by cases h) dX7_as_16

abbrev rmX7_image : Room := { frames := 4, cells := 0, slots := 0, locals := 86 }
set_option maxRecDepth 100000 in
set_option maxHeartbeats 400000 in
theorem c_X7_image (l : Launch) (E : mE) (a : OneA) (v : OneV) (RP : va_W) (hRP : ∀ (i r : Nat), Room_lessons (One_now v) i = some r → ∃ (k : Nat) (fs : List Value), RP[k]? = some (r, .inr (3, fs))) (t : (Int32 × OneV)) (hF : fn_X7_image v = some t) (sz : Nat) : Met l yX7_image wsX7_image rmX7_image (mPm E [.ref (Onea_self a)] sz ((One_c E a v)) (RP)) (mSm E (some (.int t.1)) ((One_c E a t.2)) (va_A ((One_c E a v)) sz)) 0 0 (va_A ((One_c E a v)) sz) := by
  refine mOfM (cc := cX7_image) (maxL := 1) (ret := (some .int)) (by decide) rfl (Nat.le_of_ble_eq_true rfl) ?_
  intro p e_ s m args below meth c Q A hQ CC hr hlocks hin hA hP hD hKN hGl hR0 hRA ls hl
  have hS : va_S A s.heap s.heap [] := va_S.rf
  have hK := hKN.1
  have hx := CC.1
  have hb := CC.2.1
  have hml := CC.2.2.1
  have hown : s.vm.findClass RX7 = some m.cls := CC.2.2.2.1
  have hts := CC.2.2.2.2
  have hl : lv_has ls 1 [(0, .ref (Onea_self a))] := hl
  have k0 := hts (.fieldLink RX7 18 "OneDidAll" "image" "LOneDidAll$Room;") (by decide +kernel)
  have k1 := (show ∀ w ∈ u_ws RX7 TX7 5, w ∈ wsX7_image by decide +kernel)
  have k2 := hts (.fieldLink RX7 12 "OneDidAll" "now" "LOneDidAll$Room;") (by decide +kernel)
  have k3 := hts (.fieldLink RX7 21 "OneDidAll" "imageIsTaken" "Z") (by decide +kernel)
  have k4 := (va_Nw.use rfl (hKN.2.1 ("OneDidAll", 74, "OneDidAll$Room", "group", "LOneDidAll$Group;", "OneDidAll") (by decide +kernel)) : (Cond.fieldLinkNest "OneDidAll" 74 "OneDidAll$Room" "group" "LOneDidAll$Group;" "OneDidAll").before args s = true)
  have k5 := (show ∀ w ∈ u_ws RX5 TX5 9, w ∈ wsX7_image by decide +kernel)
  have k6 := (va_Nw.use rfl (hKN.2.1 ("OneDidAll", 78, "OneDidAll$Group", "size", "I", "OneDidAll") (by decide +kernel)) : (Cond.fieldLinkNest "OneDidAll" 78 "OneDidAll$Group" "size" "I" "OneDidAll").before args s = true)
  have k7 := (show ∀ w ∈ u_ws RX2 TX2 11, w ∈ wsX7_image by decide +kernel)
  have hP : va_P E.1 vwCl (One_c E a v) s.heap := hP
  obtain ⟨H, hH⟩ : ∃ H, H = s.heap := ⟨_, rfl⟩
  obtain ⟨locs, hlc⟩ : ∃ z : List Loc, z = [] := ⟨_, rfl⟩
  rw [← hH] at hP
  rw [← hlc] at hS
  have hS : va_S A s.heap H locs := by rw [hH]; exact hS
  rw [← hH, ← hlc]
  unfold fn_X7_image at hF
  refine lv_aload_n hx hb dX7_image_0 rfl (lv_at hl 0 rfl) ?_
  refine va_get (D := E.1) (ci := 7) (v := .ref (Rooma_self (Onea_image a))) (C := RX7) (T := TX7) (N := 5) hx hb hts k1 hown hK hP 0 rfl rfl 1 (by decide) k0 (fun _ h9 => h9) rfl dX7_image_1 ?_
  refine lv_aload_n hx hb dX7_image_4 rfl (lv_at hl 0 rfl) ?_
  refine va_get (D := E.1) (ci := 7) (v := .ref (Rooma_self (Onea_now a))) (C := RX7) (T := TX7) (N := 5) hx hb hts k1 hown hK hP 0 rfl rfl 0 (by decide) k2 (fun _ h9 => h9) rfl dX7_image_5 ?_
  obtain ⟨t1, ht1, hF⟩ := m_bnd hF
  have hpm : List.Perm (One_c E a v) (((Room_c E (Onea_image a) (One_image v)) ++ (Room_c E (Onea_now a) (One_now v))) ++ ((List.take 1 (One_c E a v)) ++ ((List.take 0 (List.drop 22 (One_c E a v))) ++ (List.drop 43 (One_c E a v))))) := m_p2s (A := (List.take 1 (One_c E a v))) (m1 := (Room_c E (Onea_now a) (One_now v))) (B := (List.take 0 (List.drop 22 (One_c E a v)))) (m2 := (Room_c E (Onea_image a) (One_image v))) (C := (List.drop 43 (One_c E a v)))
  obtain ⟨hPc, hDc, hFc⟩ := m_pre hpm hP hD hS hA
  refine mVM (ci := 5) (n := 1) (rest := []) (As := [.ref (Rooma_self (Onea_now a))]) CC hKN hGl (c_X5_copyFrom l E (Onea_image a) (One_image v) (Onea_now a) (One_now v) RP hRP t1 ht1 _) gX7_image_X5_copyFrom rfl ⟨rfl, rfl⟩ (by decide +kernel) ⟨Nat.le_of_ble_eq_true rfl, Nat.le_of_ble_eq_true rfl⟩ hPc hDc (m_ro hR0 hRA hS) (fun k q h h2 => hRA k q h (hFc _ h2)) hS hFc rfl rfl rfl rfl hl.1 rfl (Nat.le_of_ble_eq_true rfl) ⟨Nat.zero_le _, Nat.zero_le _⟩ dX7_image_8 (fun H1 locs hP1 hD1 hz1 hk1 hS => ?_)
  have hpn : List.Perm (One_c E a (One_image_s v t1)) (((Room_c E (Onea_image a) t1) ++ (Room_c E (Onea_now a) (One_now v))) ++ ((List.take 1 (One_c E a v)) ++ ((List.take 0 (List.drop 22 (One_c E a v))) ++ (List.drop 43 (One_c E a v))))) := m_p2s (A := (List.take 1 (One_c E a v))) (m1 := (Room_c E (Onea_now a) (One_now v))) (B := (List.take 0 (List.drop 22 (One_c E a v)))) (m2 := (Room_c E (Onea_image a) t1)) (C := (List.drop 43 (One_c E a v)))
  obtain ⟨hP, hD⟩ := m_spl hpm hpn hP hD hk1 hFc hP1 hD1
  generalize H1 = H at hP hS ⊢
  refine W.eq (g2 := F0 m 11 ls []) rfl ?_
  refine lv_aload_n hx hb dX7_image_11 rfl (lv_at hl 0 rfl) ?_
  refine lv_iconst (v := 1) hx hb dX7_image_12 (by decide) ?_
  refine va_put (D := E.1) (ci := 7) (v := .int 1) (ty := .boolean) (C := RX7) (T := TX7) (N := 5) hx hb hts k1 tyX7 tyX7_ok nmX7 hown hK hP hD hS 0 rfl rfl 2 (by decide) k3 (fun _ h9 => h9) rfl (by decide +kernel) rfl rfl (Nat.le_of_ble_eq_true rfl) dX7_image_13 (fun H locs hP hD hS => ?_)
  have hP : va_P E.1 vwCl (One_c E a (One_imageIsTaken_s (One_image_s v t1) 1)) H := hP
  have hD : va_D A (One_c E a (One_imageIsTaken_s (One_image_s v t1) 1)) := hD
  refine lv_aload_n hx hb dX7_image_16 rfl (lv_at hl 0 rfl) ?_
  refine va_get (D := E.1) (ci := 7) (v := .ref (Rooma_self (Onea_now a))) (C := RX7) (T := TX7) (N := 5) hx hb hts k1 hown hK hP 0 rfl rfl 0 (by decide) k2 (fun _ h9 => h9) rfl dX7_image_17 ?_
  refine va_getN (D := E.1) (ci := 5) (v := .ref (Groupa_self (Rooma_group (Onea_now a)))) (C := RX5) (T := TX5) (N := 9) hx hb hts k5 hown hK hP 1 rfl rfl 0 (by decide) k4 (fun _ h9 => h9) rfl dX7_image_20 ?_
  refine va_getN (D := E.1) (ci := 2) (v := .int (Group_size (Room_group (One_now v)))) (C := RX2) (T := TX2) (N := 11) hx hb hts k7 hown hK hP 2 rfl rfl 0 (by decide) k6 (fun _ h9 => h9) rfl dX7_image_23 ?_
  have hF := Option.some.inj hF
  subst hF
  rw [hQ]
  exact W.iret hx hb hr (fun t ht _ => ⟨⟨rfl, by rw [ht]; exact hP, hD⟩, hS.F ht⟩) hS.2.2 dX7_image_26

abbrev rmX7_undo : Room := { frames := 4, cells := 0, slots := 0, locals := 86 }
set_option maxRecDepth 100000 in
set_option maxHeartbeats 400000 in
theorem c_X7_undo (l : Launch) (E : mE) (a : OneA) (v : OneV) (RP : va_W) (hRP : ∀ (i r : Nat), Room_lessons (One_image v) i = some r → ∃ (k : Nat) (fs : List Value), RP[k]? = some (r, .inr (3, fs))) (t : (Int32 × OneV)) (hF : fn_X7_undo v = some t) (sz : Nat) : Met l yX7_undo wsX7_undo rmX7_undo (mPm E [.ref (Onea_self a)] sz ((One_c E a v)) (RP)) (mSm E (some (.int t.1)) ((One_c E a t.2)) (va_A ((One_c E a v)) sz)) 0 0 (va_A ((One_c E a v)) sz) := by
  refine mOfM (cc := cX7_undo) (maxL := 1) (ret := (some .int)) (by decide) rfl (Nat.le_of_ble_eq_true rfl) ?_
  intro p e_ s m args below meth c Q A hQ CC hr hlocks hin hA hP hD hKN hGl hR0 hRA ls hl
  have hS : va_S A s.heap s.heap [] := va_S.rf
  have hK := hKN.1
  have hx := CC.1
  have hb := CC.2.1
  have hml := CC.2.2.1
  have hown : s.vm.findClass RX7 = some m.cls := CC.2.2.2.1
  have hts := CC.2.2.2.2
  have hl : lv_has ls 1 [(0, .ref (Onea_self a))] := hl
  have k0 := hts (.fieldLink RX7 21 "OneDidAll" "imageIsTaken" "Z") (by decide +kernel)
  have k1 := (show ∀ w ∈ u_ws RX7 TX7 5, w ∈ wsX7_undo by decide +kernel)
  have k2 := hts (.fieldLink RX7 12 "OneDidAll" "now" "LOneDidAll$Room;") (by decide +kernel)
  have k3 := hts (.fieldLink RX7 18 "OneDidAll" "image" "LOneDidAll$Room;") (by decide +kernel)
  have k4 := (va_Nw.use rfl (hKN.2.1 ("OneDidAll", 74, "OneDidAll$Room", "group", "LOneDidAll$Group;", "OneDidAll") (by decide +kernel)) : (Cond.fieldLinkNest "OneDidAll" 74 "OneDidAll$Room" "group" "LOneDidAll$Group;" "OneDidAll").before args s = true)
  have k5 := (show ∀ w ∈ u_ws RX5 TX5 9, w ∈ wsX7_undo by decide +kernel)
  have k6 := (va_Nw.use rfl (hKN.2.1 ("OneDidAll", 78, "OneDidAll$Group", "size", "I", "OneDidAll") (by decide +kernel)) : (Cond.fieldLinkNest "OneDidAll" 78 "OneDidAll$Group" "size" "I" "OneDidAll").before args s = true)
  have k7 := (show ∀ w ∈ u_ws RX2 TX2 11, w ∈ wsX7_undo by decide +kernel)
  have hP : va_P E.1 vwCl (One_c E a v) s.heap := hP
  obtain ⟨H, hH⟩ : ∃ H, H = s.heap := ⟨_, rfl⟩
  obtain ⟨locs, hlc⟩ : ∃ z : List Loc, z = [] := ⟨_, rfl⟩
  rw [← hH] at hP
  rw [← hlc] at hS
  have hS : va_S A s.heap H locs := by rw [hH]; exact hS
  rw [← hH, ← hlc]
  unfold fn_X7_undo at hF
  refine lv_aload_n hx hb dX7_undo_0 rfl (lv_at hl 0 rfl) ?_
  refine va_get (D := E.1) (ci := 7) (v := .int (One_imageIsTaken v)) (C := RX7) (T := TX7) (N := 5) hx hb hts k1 hown hK hP 0 rfl rfl 2 (by decide) k0 (fun _ h9 => h9) rfl dX7_undo_1 ?_
  refine lv_if_ne (tgt := 10) hx hb dX7_undo_4 (by decide) (fun c1 => ?_) (fun c1 => ?_)
  · have hF := m_pos c1 hF
    refine lv_aload_n hx hb dX7_undo_10 rfl (lv_at hl 0 rfl) ?_
    refine va_get (D := E.1) (ci := 7) (v := .ref (Rooma_self (Onea_now a))) (C := RX7) (T := TX7) (N := 5) hx hb hts k1 hown hK hP 0 rfl rfl 0 (by decide) k2 (fun _ h9 => h9) rfl dX7_undo_11 ?_
    refine lv_aload_n hx hb dX7_undo_14 rfl (lv_at hl 0 rfl) ?_
    refine va_get (D := E.1) (ci := 7) (v := .ref (Rooma_self (Onea_image a))) (C := RX7) (T := TX7) (N := 5) hx hb hts k1 hown hK hP 0 rfl rfl 1 (by decide) k3 (fun _ h9 => h9) rfl dX7_undo_15 ?_
    obtain ⟨t2, ht2, hF⟩ := m_bnd hF
    have hpm : List.Perm (One_c E a v) (((Room_c E (Onea_now a) (One_now v)) ++ (Room_c E (Onea_image a) (One_image v))) ++ ((List.take 1 (One_c E a v)) ++ ((List.take 0 (List.drop 22 (One_c E a v))) ++ (List.drop 43 (One_c E a v))))) := m_p2 (A := (List.take 1 (One_c E a v))) (m1 := (Room_c E (Onea_now a) (One_now v))) (B := (List.take 0 (List.drop 22 (One_c E a v)))) (m2 := (Room_c E (Onea_image a) (One_image v))) (C := (List.drop 43 (One_c E a v)))
    obtain ⟨hPc, hDc, hFc⟩ := m_pre hpm hP hD hS hA
    refine mVM (ci := 5) (n := 1) (rest := []) (As := [.ref (Rooma_self (Onea_image a))]) CC hKN hGl (c_X5_copyFrom l E (Onea_now a) (One_now v) (Onea_image a) (One_image v) RP hRP t2 ht2 _) gX7_undo_X5_copyFrom rfl ⟨rfl, rfl⟩ (by decide +kernel) ⟨Nat.le_of_ble_eq_true rfl, Nat.le_of_ble_eq_true rfl⟩ hPc hDc (m_ro hR0 hRA hS) (fun k q h h2 => hRA k q h (hFc _ h2)) hS hFc rfl rfl rfl rfl hl.1 rfl (Nat.le_of_ble_eq_true rfl) ⟨Nat.zero_le _, Nat.zero_le _⟩ dX7_undo_18 (fun H1 locs hP1 hD1 hz1 hk1 hS => ?_)
    have hpn : List.Perm (One_c E a (One_now_s v t2)) (((Room_c E (Onea_now a) t2) ++ (Room_c E (Onea_image a) (One_image v))) ++ ((List.take 1 (One_c E a v)) ++ ((List.take 0 (List.drop 22 (One_c E a v))) ++ (List.drop 43 (One_c E a v))))) := m_p2 (A := (List.take 1 (One_c E a v))) (m1 := (Room_c E (Onea_now a) t2)) (B := (List.take 0 (List.drop 22 (One_c E a v)))) (m2 := (Room_c E (Onea_image a) (One_image v))) (C := (List.drop 43 (One_c E a v)))
    obtain ⟨hP, hD⟩ := m_spl hpm hpn hP hD hk1 hFc hP1 hD1
    generalize H1 = H at hP hS ⊢
    refine W.eq (g2 := F0 m 21 ls []) rfl ?_
    refine lv_aload_n hx hb dX7_undo_21 rfl (lv_at hl 0 rfl) ?_
    refine va_get (D := E.1) (ci := 7) (v := .ref (Rooma_self (Onea_now a))) (C := RX7) (T := TX7) (N := 5) hx hb hts k1 hown hK hP 0 rfl rfl 0 (by decide) k2 (fun _ h9 => h9) rfl dX7_undo_22 ?_
    refine va_getN (D := E.1) (ci := 5) (v := .ref (Groupa_self (Rooma_group (Onea_now a)))) (C := RX5) (T := TX5) (N := 9) hx hb hts k5 hown hK hP 1 rfl rfl 0 (by decide) k4 (fun _ h9 => h9) rfl dX7_undo_25 ?_
    refine va_getN (D := E.1) (ci := 2) (v := .int (Group_size (Room_group t2))) (C := RX2) (T := TX2) (N := 11) hx hb hts k7 hown hK hP 2 rfl rfl 0 (by decide) k6 (fun _ h9 => h9) rfl dX7_undo_28 ?_
    have hF := Option.some.inj hF
    subst hF
    rw [hQ]
    exact W.iret hx hb hr (fun t ht _ => ⟨⟨rfl, by rw [ht]; exact hP, hD⟩, hS.F ht⟩) hS.2.2 dX7_undo_31
  · have hF := m_neg (fun n9 => n9 c1) hF
    refine lv_bipush (v := (-3)) hx hb dX7_undo_7 (by decide) ?_
    have hF := Option.some.inj hF
    subst hF
    rw [hQ]
    exact W.iret hx hb hr (fun t ht _ => ⟨⟨rfl, by rw [ht]; exact hP, hD⟩, hS.F ht⟩) hS.2.2 dX7_undo_9

abbrev rmX8_much : Room := { frames := 30, cells := 0, slots := 0, locals := 703 }
set_option maxRecDepth 100000 in
set_option maxHeartbeats 400000 in
theorem c_X8_much (l : Launch) (E : mE) (a : ModelA) (v : ModelV) (x0 : Int32) (x1 : Nat) (t : ModelV) (hF : fn_X8_much v x0 x1 = some t) (sz : Nat) : Met l yX8_much wsX8_much rmX8_much (mPm E [.ref (Modela_self a), .int x0, .ref (m_adK E x1)] sz ((Model_c E a v)) (([] : va_W))) (mSm E (none) ((Model_c E a t)) (va_A ((Model_c E a v)) sz)) 0 0 (va_A ((Model_c E a v)) sz) := by
  refine mOfM (cc := cX8_much) (maxL := 4) (ret := none) (by decide) rfl (Nat.le_of_ble_eq_true rfl) ?_
  intro p e_ s m args below meth c Q A hQ CC hr hlocks hin hA hP hD hKN hGl hR0 hRA ls hl
  have hS : va_S A s.heap s.heap [] := va_S.rf
  have hK := hKN.1
  have hx := CC.1
  have hb := CC.2.1
  have hml := CC.2.2.1
  have hown : s.vm.findClass RX8 = some m.cls := CC.2.2.2.1
  have hts := CC.2.2.2.2
  have hl : lv_has ls 4 [(0, .ref (Modela_self a)), (1, .int x0), (2, .ref (m_adK E x1))] := hl
  have hP : va_P E.1 vwCl (Model_c E a v) s.heap := hP
  obtain ⟨H, hH⟩ : ∃ H, H = s.heap := ⟨_, rfl⟩
  obtain ⟨locs, hlc⟩ : ∃ z : List Loc, z = [] := ⟨_, rfl⟩
  rw [← hH] at hP
  rw [← hlc] at hS
  have hS : va_S A s.heap H locs := by rw [hH]; exact hS
  rw [← hH, ← hlc]
  unfold fn_X8_much at hF
  refine lv_aload_n hx hb dX8_much_0 rfl (lv_at hl 0 rfl) ?_
  refine lv_aload_n hx hb dX8_much_1 rfl (lv_at hl 2 rfl) ?_
  obtain ⟨t1, ht1, hF⟩ := m_bnd hF
  have hPc := hP
  have hDc := hD
  have hFc := va_free (wc := (Model_c E a v)) hD hS hA [0, 1, 2, 3, 4, 5, 6, 7] rfl
  refine mVM (ci := 8) (n := 1) (rest := []) (As := [.ref (m_adK E x1)]) CC hKN hGl (c_X8_spells l E a v x1 t1 ht1 _) gX8_much_X8_spells rfl ⟨rfl, rfl⟩ (by decide +kernel) ⟨Nat.le_of_ble_eq_true rfl, Nat.le_of_ble_eq_true rfl⟩ hPc hDc m_nil m_nilA hS hFc rfl rfl rfl rfl hl.1 rfl (Nat.le_of_ble_eq_true rfl) ⟨Nat.zero_le _, Nat.zero_le _⟩ dX8_much_2 (fun H1 locs hP1 hD1 hz1 hk1 hS => ?_)
  have hP : va_P E.1 vwCl (Model_c E a t1) H1 := hP1
  have hD : va_D A (Model_c E a t1) := m_back hD1 hFc
  generalize H1 = H at hP hS ⊢
  refine W.eq (g2 := F0 m 5 ls []) rfl ?_
  refine lv_aload_n hx hb dX8_much_5 rfl (lv_at hl 0 rfl) ?_
  obtain ⟨t2, ht2, hF⟩ := m_bnd hF
  have hPc := hP
  have hDc := hD
  have hFc := va_free (wc := (Model_c E a t1)) hD hS hA [0, 1, 2, 3, 4, 5, 6, 7] rfl
  refine mVM (ci := 8) (n := 0) (rest := []) (As := []) CC hKN hGl (c_X8_figures l E a t1 t2 ht2 _) gX8_much_X8_figures rfl ⟨rfl, rfl⟩ (by decide +kernel) ⟨Nat.le_of_ble_eq_true rfl, Nat.le_of_ble_eq_true rfl⟩ hPc hDc m_nil m_nilA hS hFc rfl rfl rfl rfl hl.1 rfl (Nat.le_of_ble_eq_true rfl) ⟨Nat.zero_le _, Nat.zero_le _⟩ dX8_much_6 (fun H1 locs hP1 hD1 hz1 hk1 hS => ?_)
  have hP : va_P E.1 vwCl (Model_c E a t2.2) H1 := hP1
  have hD : va_D A (Model_c E a t2.2) := m_back hD1 hFc
  generalize H1 = H at hP hS ⊢
  refine W.eq (g2 := F0 m 9 ls [.int t2.1]) rfl ?_
  refine lv_istore_n (lv' := [(3, .int t2.1), (0, .ref (Modela_self a)), (1, .int x0), (2, .ref (m_adK E x1))]) hx hb dX8_much_9 rfl hl (by decide) rfl (fun ls hl => ?_)
  refine lv_aload_n hx hb dX8_much_10 rfl (lv_at hl 1 rfl) ?_
  refine lv_bipush (v := 32) hx hb dX8_much_11 (by decide) ?_
  obtain ⟨t3, ht3, hF⟩ := m_bnd hF
  have hPc := hP
  have hDc := hD
  have hFc := va_free (wc := (Model_c E a t2.2)) hD hS hA [0, 1, 2, 3, 4, 5, 6, 7] rfl
  refine mVM (ci := 8) (n := 1) (rest := []) (As := [.int 32]) CC hKN hGl (c_X8_must l E a t2.2 32 t3 ht3 _) gX8_much_X8_must rfl ⟨rfl, rfl⟩ (by decide +kernel) ⟨Nat.le_of_ble_eq_true rfl, Nat.le_of_ble_eq_true rfl⟩ hPc hDc m_nil m_nilA hS hFc rfl rfl rfl rfl hl.1 rfl (Nat.le_of_ble_eq_true rfl) ⟨Nat.zero_le _, Nat.zero_le _⟩ dX8_much_13 (fun H1 locs hP1 hD1 hz1 hk1 hS => ?_)
  have hP : va_P E.1 vwCl (Model_c E a t3) H1 := hP1
  have hD : va_D A (Model_c E a t3) := m_back hD1 hFc
  generalize H1 = H at hP hS ⊢
  refine W.eq (g2 := F0 m 16 ls []) rfl ?_
  refine lv_aload_n hx hb dX8_much_16 rfl (lv_at hl 1 rfl) ?_
  obtain ⟨t4, ht4, hF⟩ := m_bnd hF
  have hPc := hP
  have hDc := hD
  have hFc := va_free (wc := (Model_c E a t3)) hD hS hA [0, 1, 2, 3, 4, 5, 6, 7] rfl
  refine mVM (ci := 8) (n := 0) (rest := []) (As := []) CC hKN hGl ((cg_Fa l E 24).2.2 a t3 t4 ht4 _) gX8_much_X8_some rfl ⟨rfl, rfl⟩ (by decide +kernel) ⟨Nat.le_of_ble_eq_true rfl, Nat.le_of_ble_eq_true rfl⟩ hPc hDc m_nil m_nilA hS hFc rfl rfl rfl rfl hl.1 rfl (Nat.le_of_ble_eq_true rfl) ⟨Nat.zero_le _, Nat.zero_le _⟩ dX8_much_17 (fun H1 locs hP1 hD1 hz1 hk1 hS => ?_)
  have hP : va_P E.1 vwCl (Model_c E a t4) H1 := hP1
  have hD : va_D A (Model_c E a t4) := m_back hD1 hFc
  generalize H1 = H at hP hS ⊢
  refine W.eq (g2 := F0 m 20 ls []) rfl ?_
  refine lv_aload_n hx hb dX8_much_20 rfl (lv_at hl 1 rfl) ?_
  refine lv_iload_n hx hb dX8_much_21 rfl (lv_at hl 2 rfl) ?_
  refine lv_iload_n hx hb dX8_much_22 rfl (lv_at hl 0 rfl) ?_
  refine lv_isub hx hb dX8_much_23 ?_
  obtain ⟨t5, ht5, hF⟩ := m_bnd hF
  have hPc := hP
  have hDc := hD
  have hFc := va_free (wc := (Model_c E a t4)) hD hS hA [0, 1, 2, 3, 4, 5, 6, 7] rfl
  refine mVM (ci := 8) (n := 1) (rest := []) (As := [.int (x0 - t2.1)]) CC hKN hGl (c_X8_emits l E a t4 (x0 - t2.1) t5 ht5 _) gX8_much_X8_emits rfl ⟨rfl, rfl⟩ (by decide +kernel) ⟨Nat.le_of_ble_eq_true rfl, Nat.le_of_ble_eq_true rfl⟩ hPc hDc m_nil m_nilA hS hFc rfl rfl rfl rfl hl.1 rfl (Nat.le_of_ble_eq_true rfl) ⟨Nat.zero_le _, Nat.zero_le _⟩ dX8_much_24 (fun H1 locs hP1 hD1 hz1 hk1 hS => ?_)
  have hP : va_P E.1 vwCl (Model_c E a t5) H1 := hP1
  have hD : va_D A (Model_c E a t5) := m_back hD1 hFc
  generalize H1 = H at hP hS ⊢
  refine W.eq (g2 := F0 m 27 ls []) rfl ?_
  have hF := Option.some.inj hF
  subst hF
  rw [hQ]
  exact W.vret hx hb hr (fun t ht _ => ⟨⟨rfl, by rw [ht]; exact hP, hD⟩, hS.F ht⟩) hS.2.2 dX8_much_27

abbrev rmX8_wordOfS : Room := { frames := 31, cells := 0, slots := 0, locals := 726 }
set_option maxRecDepth 100000 in
set_option maxHeartbeats 400000 in
theorem c_X8_wordOfS (l : Launch) (E : mE) (a : ModelA) (v : ModelV) (t : ModelV) (hF : fn_X8_wordOfS v = some t) (sz : Nat) : Met l yX8_wordOfS wsX8_wordOfS rmX8_wordOfS (mPm E [.ref (Modela_self a)] sz ((Model_c E a v)) (([] : va_W))) (mSm E (none) ((Model_c E a t)) (va_A ((Model_c E a v)) sz)) 0 0 (va_A ((Model_c E a v)) sz) := by
  refine mOfM (cc := cX8_wordOfS) (maxL := 1) (ret := none) (by decide) rfl (Nat.le_of_ble_eq_true rfl) ?_
  intro p e_ s m args below meth c Q A hQ CC hr hlocks hin hA hP hD hKN hGl hR0 hRA ls hl
  have hS : va_S A s.heap s.heap [] := va_S.rf
  have hK := hKN.1
  have hx := CC.1
  have hb := CC.2.1
  have hml := CC.2.2.1
  have hown : s.vm.findClass RX8 = some m.cls := CC.2.2.2.1
  have hts := CC.2.2.2.2
  have hl : lv_has ls 1 [(0, .ref (Modela_self a))] := hl
  have k0 := (hKN.2.2.2.1 ("OneDidAllModel", 108, "hirk ", 3) (by decide +kernel))
  have k1 := (hKN.2.2.2.1 ("OneDidAllModel", 102, "pur ", 2) (by decide +kernel))
  have hP : va_P E.1 vwCl (Model_c E a v) s.heap := hP
  obtain ⟨H, hH⟩ : ∃ H, H = s.heap := ⟨_, rfl⟩
  obtain ⟨locs, hlc⟩ : ∃ z : List Loc, z = [] := ⟨_, rfl⟩
  rw [← hH] at hP
  rw [← hlc] at hS
  have hS : va_S A s.heap H locs := by rw [hH]; exact hS
  rw [← hH, ← hlc]
  unfold fn_X8_wordOfS at hF
  refine lv_aload_n hx hb dX8_wordOfS_0 rfl (lv_at hl 0 rfl) ?_
  refine lv_bipush (v := 115) hx hb dX8_wordOfS_1 (by decide) ?_
  obtain ⟨t1, ht1, hF⟩ := m_bnd hF
  have hPc := hP
  have hDc := hD
  have hFc := va_free (wc := (Model_c E a v)) hD hS hA [0, 1, 2, 3, 4, 5, 6, 7] rfl
  refine mVM (ci := 8) (n := 1) (rest := []) (As := [.int 115]) CC hKN hGl (c_X8_must l E a v 115 t1 ht1 _) gX8_wordOfS_X8_must rfl ⟨rfl, rfl⟩ (by decide +kernel) ⟨Nat.le_of_ble_eq_true rfl, Nat.le_of_ble_eq_true rfl⟩ hPc hDc m_nil m_nilA hS hFc rfl rfl rfl rfl hl.1 rfl (Nat.le_of_ble_eq_true rfl) ⟨Nat.zero_le _, Nat.zero_le _⟩ dX8_wordOfS_3 (fun H1 locs hP1 hD1 hz1 hk1 hS => ?_)
  have hP : va_P E.1 vwCl (Model_c E a t1) H1 := hP1
  have hD : va_D A (Model_c E a t1) := m_back hD1 hFc
  generalize H1 = H at hP hS ⊢
  refine W.eq (g2 := F0 m 6 ls []) rfl ?_
  refine lv_aload_n hx hb dX8_wordOfS_6 rfl (lv_at hl 0 rfl) ?_
  obtain ⟨t2, ht2, hF⟩ := m_bnd hF
  refine mVP (ci := 8) (n := 0) (rest := []) (As := []) CC hKN hGl hS (c_X8_here l E a t1 t2 ht2) gX8_wordOfS_X8_here rfl ⟨rfl, rfl⟩ (by decide +kernel) ⟨Nat.le_of_ble_eq_true rfl, Nat.le_of_ble_eq_true rfl⟩ hP rfl rfl rfl rfl hl.1 rfl (Nat.le_of_ble_eq_true rfl) ⟨Nat.zero_le _, Nat.zero_le _⟩ dX8_wordOfS_7 ?_
  refine W.eq (g2 := F0 m 10 ls [.int t2]) rfl ?_
  refine lv_bipush (v := 112) hx hb dX8_wordOfS_10 (by decide) ?_
  refine lv_icmp_ne (tgt := 26) hx hb dX8_wordOfS_12 (by decide) (fun c3 => ?_) (fun c3 => ?_)
  · have hF := m_pos c3 hF
    refine lv_aload_n hx hb dX8_wordOfS_26 rfl (lv_at hl 0 rfl) ?_
    refine lv_sipush (v := (-200)) hx hb dX8_wordOfS_27 (by decide) ?_
    refine va_ldcS hx hb hown k0 dX8_wordOfS_30 ?_
    obtain ⟨t4, ht4, hF⟩ := m_bnd hF
    have hPc := hP
    have hDc := hD
    have hFc := va_free (wc := (Model_c E a t1)) hD hS hA [0, 1, 2, 3, 4, 5, 6, 7] rfl
    refine mVM (ci := 8) (n := 2) (rest := []) (As := [.int (-200), .ref (m_adK E 3)]) CC hKN hGl (c_X8_much l E a t1 (-200) 3 t4 ht4 _) gX8_wordOfS_X8_much rfl ⟨rfl, rfl⟩ (by decide +kernel) ⟨Nat.le_of_ble_eq_true rfl, Nat.le_of_ble_eq_true rfl⟩ hPc hDc m_nil m_nilA hS hFc rfl rfl rfl rfl hl.1 rfl (Nat.le_of_ble_eq_true rfl) ⟨Nat.zero_le _, Nat.zero_le _⟩ dX8_wordOfS_32 (fun H1 locs hP1 hD1 hz1 hk1 hS => ?_)
    have hP : va_P E.1 vwCl (Model_c E a t4) H1 := hP1
    have hD : va_D A (Model_c E a t4) := m_back hD1 hFc
    generalize H1 = H at hP hS ⊢
    refine W.eq (g2 := F0 m 35 ls []) rfl ?_
    have hF := Option.some.inj hF
    subst hF
    rw [hQ]
    exact W.vret hx hb hr (fun t ht _ => ⟨⟨rfl, by rw [ht]; exact hP, hD⟩, hS.F ht⟩) hS.2.2 dX8_wordOfS_35
  · have hF := m_neg (fun n9 => n9 c3) hF
    refine lv_aload_n hx hb dX8_wordOfS_15 rfl (lv_at hl 0 rfl) ?_
    refine lv_bipush (v := (-10)) hx hb dX8_wordOfS_16 (by decide) ?_
    refine va_ldcS hx hb hown k1 dX8_wordOfS_18 ?_
    obtain ⟨t5, ht5, hF⟩ := m_bnd hF
    have hPc := hP
    have hDc := hD
    have hFc := va_free (wc := (Model_c E a t1)) hD hS hA [0, 1, 2, 3, 4, 5, 6, 7] rfl
    refine mVM (ci := 8) (n := 2) (rest := []) (As := [.int (-10), .ref (m_adK E 2)]) CC hKN hGl (c_X8_much l E a t1 (-10) 2 t5 ht5 _) gX8_wordOfS_X8_much rfl ⟨rfl, rfl⟩ (by decide +kernel) ⟨Nat.le_of_ble_eq_true rfl, Nat.le_of_ble_eq_true rfl⟩ hPc hDc m_nil m_nilA hS hFc rfl rfl rfl rfl hl.1 rfl (Nat.le_of_ble_eq_true rfl) ⟨Nat.zero_le _, Nat.zero_le _⟩ dX8_wordOfS_20 (fun H1 locs hP1 hD1 hz1 hk1 hS => ?_)
    have hP : va_P E.1 vwCl (Model_c E a t5) H1 := hP1
    have hD : va_D A (Model_c E a t5) := m_back hD1 hFc
    generalize H1 = H at hP hS ⊢
    refine W.eq (g2 := F0 m 23 ls []) rfl ?_
    refine lv_goto (tgt := 35) hx hb dX8_wordOfS_23 (by decide) ?_
    have hF := Option.some.inj hF
    subst hF
    rw [hQ]
    exact W.vret hx hb hr (fun t ht _ => ⟨⟨rfl, by rw [ht]; exact hP, hD⟩, hS.F ht⟩) hS.2.2 dX8_wordOfS_35

abbrev rmX8_clauseHere : Room := { frames := 32, cells := 0, slots := 0, locals := 746 }
set_option maxRecDepth 100000 in
set_option maxHeartbeats 400000 in
theorem c_X8_clauseHere (l : Launch) (E : mE) (a : ModelA) (v : ModelV) (t : ModelV) (hF : fn_X8_clauseHere v = some t) (sz : Nat) : Met l yX8_clauseHere wsX8_clauseHere rmX8_clauseHere (mPm E [.ref (Modela_self a)] sz ((Model_c E a v)) (([] : va_W))) (mSm E (none) ((Model_c E a t)) (va_A ((Model_c E a v)) sz)) 0 0 (va_A ((Model_c E a v)) sz) := by
  refine mOfM (cc := cX8_clauseHere) (maxL := 1) (ret := none) (by decide) rfl (Nat.le_of_ble_eq_true rfl) ?_
  intro p e_ s m args below meth c Q A hQ CC hr hlocks hin hA hP hD hKN hGl hR0 hRA ls hl
  have hS : va_S A s.heap s.heap [] := va_S.rf
  have hK := hKN.1
  have hx := CC.1
  have hb := CC.2.1
  have hml := CC.2.2.1
  have hown : s.vm.findClass RX8 = some m.cls := CC.2.2.2.1
  have hts := CC.2.2.2.2
  have hl : lv_has ls 1 [(0, .ref (Modela_self a))] := hl
  have k0 := (hKN.2.2.2.1 ("OneDidAllModel", 115, "fair ", 5) (by decide +kernel))
  have k1 := (hKN.2.2.2.1 ("OneDidAllModel", 110, "goal ", 4) (by decide +kernel))
  have k2 := hts (.fieldLink RX8 48 "OneDidAllModel" "isWrong" "Z") (by decide +kernel)
  have k3 := (show ∀ w ∈ u_ws RX8 TX8 20, w ∈ wsX8_clauseHere by decide +kernel)
  have hP : va_P E.1 vwCl (Model_c E a v) s.heap := hP
  obtain ⟨H, hH⟩ : ∃ H, H = s.heap := ⟨_, rfl⟩
  obtain ⟨locs, hlc⟩ : ∃ z : List Loc, z = [] := ⟨_, rfl⟩
  rw [← hH] at hP
  rw [← hlc] at hS
  have hS : va_S A s.heap H locs := by rw [hH]; exact hS
  rw [← hH, ← hlc]
  unfold fn_X8_clauseHere at hF
  refine lv_aload_n hx hb dX8_clauseHere_0 rfl (lv_at hl 0 rfl) ?_
  obtain ⟨t1, ht1, hF⟩ := m_bnd hF
  refine mVP (ci := 8) (n := 0) (rest := []) (As := []) CC hKN hGl hS (c_X8_here l E a v t1 ht1) gX8_clauseHere_X8_here rfl ⟨rfl, rfl⟩ (by decide +kernel) ⟨Nat.le_of_ble_eq_true rfl, Nat.le_of_ble_eq_true rfl⟩ hP rfl rfl rfl rfl hl.1 rfl (Nat.le_of_ble_eq_true rfl) ⟨Nat.zero_le _, Nat.zero_le _⟩ dX8_clauseHere_1 ?_
  refine W.eq (g2 := F0 m 4 ls [.int t1]) rfl ?_
  by_cases c2 : t1 = 102
  · have hF := m_pos c2 hF
    refine lv_lookup (off := 48) (tgt := 52) hx hb dX8_clauseHere_4 (by decide) (by rw [c2]; rfl) (by decide) ?_
    refine lv_aload_n hx hb dX8_clauseHere_52 rfl (lv_at hl 0 rfl) ?_
    refine lv_sipush (v := 216) hx hb dX8_clauseHere_53 (by decide) ?_
    refine va_ldcS hx hb hown k0 dX8_clauseHere_56 ?_
    obtain ⟨t3, ht3, hF⟩ := m_bnd hF
    have hPc := hP
    have hDc := hD
    have hFc := va_free (wc := (Model_c E a v)) hD hS hA [0, 1, 2, 3, 4, 5, 6, 7] rfl
    refine mVM (ci := 8) (n := 2) (rest := []) (As := [.int 216, .ref (m_adK E 5)]) CC hKN hGl (c_X8_tellsHere l E a v 216 5 t3 ht3 _) gX8_clauseHere_X8_tellsHere rfl ⟨rfl, rfl⟩ (by decide +kernel) ⟨Nat.le_of_ble_eq_true rfl, Nat.le_of_ble_eq_true rfl⟩ hPc hDc m_nil m_nilA hS hFc rfl rfl rfl rfl hl.1 rfl (Nat.le_of_ble_eq_true rfl) ⟨Nat.zero_le _, Nat.zero_le _⟩ dX8_clauseHere_58 (fun H1 locs hP1 hD1 hz1 hk1 hS => ?_)
    have hP : va_P E.1 vwCl (Model_c E a t3) H1 := hP1
    have hD : va_D A (Model_c E a t3) := m_back hD1 hFc
    generalize H1 = H at hP hS ⊢
    refine W.eq (g2 := F0 m 61 ls []) rfl ?_
    refine lv_goto (tgt := 76) hx hb dX8_clauseHere_61 (by decide) ?_
    have hF := Option.some.inj hF
    subst hF
    rw [hQ]
    exact W.vret hx hb hr (fun t ht _ => ⟨⟨rfl, by rw [ht]; exact hP, hD⟩, hS.F ht⟩) hS.2.2 dX8_clauseHere_76
  · have hF := m_neg c2 hF
    by_cases c4 : t1 = 103
    · have hF := m_pos c4 hF
      refine lv_lookup (off := 36) (tgt := 40) hx hb dX8_clauseHere_4 (by decide) (by rw [c4]; rfl) (by decide) ?_
      refine lv_aload_n hx hb dX8_clauseHere_40 rfl (lv_at hl 0 rfl) ?_
      refine lv_sipush (v := 211) hx hb dX8_clauseHere_41 (by decide) ?_
      refine va_ldcS hx hb hown k1 dX8_clauseHere_44 ?_
      obtain ⟨t5, ht5, hF⟩ := m_bnd hF
      have hPc := hP
      have hDc := hD
      have hFc := va_free (wc := (Model_c E a v)) hD hS hA [0, 1, 2, 3, 4, 5, 6, 7] rfl
      refine mVM (ci := 8) (n := 2) (rest := []) (As := [.int 211, .ref (m_adK E 4)]) CC hKN hGl (c_X8_tellsHere l E a v 211 4 t5 ht5 _) gX8_clauseHere_X8_tellsHere rfl ⟨rfl, rfl⟩ (by decide +kernel) ⟨Nat.le_of_ble_eq_true rfl, Nat.le_of_ble_eq_true rfl⟩ hPc hDc m_nil m_nilA hS hFc rfl rfl rfl rfl hl.1 rfl (Nat.le_of_ble_eq_true rfl) ⟨Nat.zero_le _, Nat.zero_le _⟩ dX8_clauseHere_46 (fun H1 locs hP1 hD1 hz1 hk1 hS => ?_)
      have hP : va_P E.1 vwCl (Model_c E a t5) H1 := hP1
      have hD : va_D A (Model_c E a t5) := m_back hD1 hFc
      generalize H1 = H at hP hS ⊢
      refine W.eq (g2 := F0 m 49 ls []) rfl ?_
      refine lv_goto (tgt := 76) hx hb dX8_clauseHere_49 (by decide) ?_
      have hF := Option.some.inj hF
      subst hF
      rw [hQ]
      exact W.vret hx hb hr (fun t ht _ => ⟨⟨rfl, by rw [ht]; exact hP, hD⟩, hS.F ht⟩) hS.2.2 dX8_clauseHere_76
    · have hF := m_neg c4 hF
      by_cases c6 : t1 = 115
      · have hF := m_pos c6 hF
        refine lv_lookup (off := 60) (tgt := 64) hx hb dX8_clauseHere_4 (by decide) (by rw [c6]; rfl) (by decide) ?_
        refine lv_aload_n hx hb dX8_clauseHere_64 rfl (lv_at hl 0 rfl) ?_
        obtain ⟨t7, ht7, hF⟩ := m_bnd hF
        have hPc := hP
        have hDc := hD
        have hFc := va_free (wc := (Model_c E a v)) hD hS hA [0, 1, 2, 3, 4, 5, 6, 7] rfl
        refine mVM (ci := 8) (n := 0) (rest := []) (As := []) CC hKN hGl (c_X8_wordOfS l E a v t7 ht7 _) gX8_clauseHere_X8_wordOfS rfl ⟨rfl, rfl⟩ (by decide +kernel) ⟨Nat.le_of_ble_eq_true rfl, Nat.le_of_ble_eq_true rfl⟩ hPc hDc m_nil m_nilA hS hFc rfl rfl rfl rfl hl.1 rfl (Nat.le_of_ble_eq_true rfl) ⟨Nat.zero_le _, Nat.zero_le _⟩ dX8_clauseHere_65 (fun H1 locs hP1 hD1 hz1 hk1 hS => ?_)
        have hP : va_P E.1 vwCl (Model_c E a t7) H1 := hP1
        have hD : va_D A (Model_c E a t7) := m_back hD1 hFc
        generalize H1 = H at hP hS ⊢
        refine W.eq (g2 := F0 m 68 ls []) rfl ?_
        refine lv_goto (tgt := 76) hx hb dX8_clauseHere_68 (by decide) ?_
        have hF := Option.some.inj hF
        subst hF
        rw [hQ]
        exact W.vret hx hb hr (fun t ht _ => ⟨⟨rfl, by rw [ht]; exact hP, hD⟩, hS.F ht⟩) hS.2.2 dX8_clauseHere_76
      · have hF := m_neg c6 hF
        refine lv_lookup (off := 67) (tgt := 71) hx hb dX8_clauseHere_4 (by decide) (by show Op.lookupswitch.offset [(102, 48), (103, 36), (115, 60)] 67 _ = _; rw [lv_osw (a := 102) c2 rfl, lv_osw (a := 103) c4 rfl, lv_osw (a := 115) c6 rfl]; rfl) (by decide) ?_
        refine lv_aload_n hx hb dX8_clauseHere_71 rfl (lv_at hl 0 rfl) ?_
        refine lv_iconst (v := 1) hx hb dX8_clauseHere_72 (by decide) ?_
        refine va_put (D := E.1) (ci := 8) (v := .int 1) (ty := .boolean) (C := RX8) (T := TX8) (N := 20) hx hb hts k3 tyX8 tyX8_ok nmX8 hown hK hP hD hS 0 rfl rfl 8 (by decide) k2 (fun _ h9 => h9) rfl (by decide +kernel) rfl rfl (Nat.le_of_ble_eq_true rfl) dX8_clauseHere_73 (fun H locs hP hD hS => ?_)
        have hP : va_P E.1 vwCl (Model_c E a (Model_isWrong_s v 1)) H := hP
        have hD : va_D A (Model_c E a (Model_isWrong_s v 1)) := hD
        have hF := Option.some.inj hF
        subst hF
        rw [hQ]
        exact W.vret hx hb hr (fun t ht _ => ⟨⟨rfl, by rw [ht]; exact hP, hD⟩, hS.F ht⟩) hS.2.2 dX8_clauseHere_76

abbrev rmX8_school : Room := { frames := 33, cells := 0, slots := 0, locals := 766 }
set_option maxRecDepth 100000 in
set_option maxHeartbeats 400000 in
theorem c_X8_school (l : Launch) (E : mE) (a : ModelA) (v : ModelV) (t : (Int32 × ModelV)) (hF : fn_X8_school v = some t) (sz : Nat) : Met l yX8_school wsX8_school rmX8_school (mPm E [.ref (Modela_self a)] sz ((Model_c E a v)) (([] : va_W))) (mSm E (some (.int t.1)) ((Model_c E a t.2)) (va_A ((Model_c E a v)) sz)) 0 0 (va_A ((Model_c E a v)) sz) := by
  refine mOfM (cc := cX8_school) (maxL := 2) (ret := (some .int)) (by decide) rfl (Nat.le_of_ble_eq_true rfl) ?_
  intro p e_ s m args below meth c Q A hQ CC hr hlocks hin hA hP hD hKN hGl hR0 hRA ls hl
  have hS : va_S A s.heap s.heap [] := va_S.rf
  have hK := hKN.1
  have hx := CC.1
  have hb := CC.2.1
  have hml := CC.2.2.1
  have hown : s.vm.findClass RX8 = some m.cls := CC.2.2.2.1
  have hts := CC.2.2.2.2
  have hl : lv_has ls 2 [(0, .ref (Modela_self a))] := hl
  have k0 := hts (.fieldLink RX8 9 "OneDidAllModel" "s" "[I") (by decide +kernel)
  have k1 := (show ∀ w ∈ u_ws RX8 TX8 20, w ∈ wsX8_school by decide +kernel)
  have k2 := hts (.fieldLink RX8 69 "OneDidAllModel" "act" "I") (by decide +kernel)
  have k3 := hts (.fieldLink RX8 45 "OneDidAllModel" "end" "I") (by decide +kernel)
  have k4 := hts (.fieldLink RX8 42 "OneDidAllModel" "spot" "I") (by decide +kernel)
  have k5 := hts (.fieldLink RX8 48 "OneDidAllModel" "isWrong" "Z") (by decide +kernel)
  have k6 := hts (.fieldLink RX8 72 "OneDidAllModel" "open" "I") (by decide +kernel)
  have hP : va_P E.1 vwCl (Model_c E a v) s.heap := hP
  obtain ⟨H, hH⟩ : ∃ H, H = s.heap := ⟨_, rfl⟩
  obtain ⟨locs, hlc⟩ : ∃ z : List Loc, z = [] := ⟨_, rfl⟩
  rw [← hH] at hP
  rw [← hlc] at hS
  have hS : va_S A s.heap H locs := by rw [hH]; exact hS
  rw [← hH, ← hlc]
  unfold fn_X8_school at hF
  refine lv_aload_n hx hb dX8_school_0 rfl (lv_at hl 0 rfl) ?_
  refine va_get (D := E.1) (ci := 8) (v := .ref (Modela_s a)) (C := RX8) (T := TX8) (N := 20) hx hb hts k1 hown hK hP 0 rfl rfl 1 (by decide) k0 (fun _ h9 => h9) rfl dX8_school_1 ?_
  refine lv_bipush (v := 21) hx hb dX8_school_4 (by decide) ?_
  obtain ⟨h1, hF⟩ := m_chk hF
  refine va_iald (f := (Model_s v)) hx hb hK hP 1 1 rfl rfl (mIn_ok h1) dX8_school_6 ?_
  refine W.eq (g2 := F0 m 7 ls [.int ((Model_s v) (21 : Int32).toNatClampNeg)]) rfl ?_
  refine lv_iconst (v := 5) hx hb dX8_school_7 (by decide) ?_
  refine lv_icmp_ne (tgt := 14) hx hb dX8_school_8 (by decide) (fun c2 => ?_) (fun c2 => ?_)
  · have hF := m_pos c2 hF
    refine lv_aload_n hx hb dX8_school_14 rfl (lv_at hl 0 rfl) ?_
    refine lv_aload_n hx hb dX8_school_15 rfl (lv_at hl 0 rfl) ?_
    refine va_get (D := E.1) (ci := 8) (v := .ref (Modela_s a)) (C := RX8) (T := TX8) (N := 20) hx hb hts k1 hown hK hP 0 rfl rfl 1 (by decide) k0 (fun _ h9 => h9) rfl dX8_school_16 ?_
    refine lv_bipush (v := 21) hx hb dX8_school_19 (by decide) ?_
    obtain ⟨h3, hF⟩ := m_chk hF
    refine va_iald (f := (Model_s v)) hx hb hK hP 1 1 rfl rfl (mIn_ok h3) dX8_school_21 ?_
    refine W.eq (g2 := F0 m 22 ls [.int ((Model_s v) (21 : Int32).toNatClampNeg), .ref (Modela_self a)]) rfl ?_
    refine va_put (D := E.1) (ci := 8) (v := .int ((Model_s v) (21 : Int32).toNatClampNeg)) (ty := .int) (C := RX8) (T := TX8) (N := 20) hx hb hts k1 tyX8 tyX8_ok nmX8 hown hK hP hD hS 0 rfl rfl 5 (by decide) k2 (fun _ h9 => h9) rfl (by decide +kernel) rfl rfl (Nat.le_of_ble_eq_true rfl) dX8_school_22 (fun H locs hP hD hS => ?_)
    have hP : va_P E.1 vwCl (Model_c E a (Model_act_s v ((Model_s v) (21 : Int32).toNatClampNeg))) H := hP
    have hD : va_D A (Model_c E a (Model_act_s v ((Model_s v) (21 : Int32).toNatClampNeg))) := hD
    refine lv_aload_n hx hb dX8_school_25 rfl (lv_at hl 0 rfl) ?_
    refine lv_aload_n hx hb dX8_school_26 rfl (lv_at hl 0 rfl) ?_
    refine va_get (D := E.1) (ci := 8) (v := .ref (Modela_s a)) (C := RX8) (T := TX8) (N := 20) hx hb hts k1 hown hK hP 0 rfl rfl 1 (by decide) k0 (fun _ h9 => h9) rfl dX8_school_27 ?_
    refine lv_bipush (v := 25) hx hb dX8_school_30 (by decide) ?_
    obtain ⟨h4, hF⟩ := m_chk hF
    refine va_iald (f := (Model_s v)) hx hb hK hP 1 1 rfl rfl (mIn_ok h4) dX8_school_32 ?_
    refine W.eq (g2 := F0 m 33 ls [.int ((Model_s v) (25 : Int32).toNatClampNeg), .ref (Modela_self a)]) rfl ?_
    refine va_put (D := E.1) (ci := 8) (v := .int ((Model_s v) (25 : Int32).toNatClampNeg)) (ty := .int) (C := RX8) (T := TX8) (N := 20) hx hb hts k1 tyX8 tyX8_ok nmX8 hown hK hP hD hS 0 rfl rfl 7 (by decide) k3 (fun _ h9 => h9) rfl (by decide +kernel) rfl rfl (Nat.le_of_ble_eq_true rfl) dX8_school_33 (fun H locs hP hD hS => ?_)
    have hP : va_P E.1 vwCl (Model_c E a (Model_end_s (Model_act_s v ((Model_s v) (21 : Int32).toNatClampNeg)) ((Model_s v) (25 : Int32).toNatClampNeg))) H := hP
    have hD : va_D A (Model_c E a (Model_end_s (Model_act_s v ((Model_s v) (21 : Int32).toNatClampNeg)) ((Model_s v) (25 : Int32).toNatClampNeg))) := hD
    refine lv_aload_n hx hb dX8_school_36 rfl (lv_at hl 0 rfl) ?_
    refine va_get (D := E.1) (ci := 8) (v := .ref (Modela_s a)) (C := RX8) (T := TX8) (N := 20) hx hb hts k1 hown hK hP 0 rfl rfl 1 (by decide) k0 (fun _ h9 => h9) rfl dX8_school_37 ?_
    refine lv_bipush (v := 25) hx hb dX8_school_40 (by decide) ?_
    refine lv_iconst (v := 0) hx hb dX8_school_42 (by decide) ?_
    obtain ⟨h5, hF⟩ := m_chk hF
    refine va_iast (f := (Model_s v)) hx hb hK hP hD hS 1 1 rfl rfl (mIn_ok h5) dX8_school_43 (fun H locs hP hD hS => ?_)
    have hP : va_P E.1 vwCl (Model_c E a (Model_end_s (Model_act_s (Model_s_s v (upd (Model_s v) (25 : Int32).toNatClampNeg 0)) ((Model_s v) (21 : Int32).toNatClampNeg)) ((Model_s v) (25 : Int32).toNatClampNeg))) H := hP
    have hD : va_D A (Model_c E a (Model_end_s (Model_act_s (Model_s_s v (upd (Model_s v) (25 : Int32).toNatClampNeg 0)) ((Model_s v) (21 : Int32).toNatClampNeg)) ((Model_s v) (25 : Int32).toNatClampNeg))) := hD
    refine lv_aload_n hx hb dX8_school_44 rfl (lv_at hl 0 rfl) ?_
    refine va_get (D := E.1) (ci := 8) (v := .ref (Modela_s a)) (C := RX8) (T := TX8) (N := 20) hx hb hts k1 hown hK hP 0 rfl rfl 1 (by decide) k0 (fun _ h9 => h9) rfl dX8_school_45 ?_
    refine lv_sipush (v := 211) hx hb dX8_school_48 (by decide) ?_
    refine lv_aload_n hx hb dX8_school_51 rfl (lv_at hl 0 rfl) ?_
    refine va_get (D := E.1) (ci := 8) (v := .int ((Model_s v) (21 : Int32).toNatClampNeg)) (C := RX8) (T := TX8) (N := 20) hx hb hts k1 hown hK hP 0 rfl rfl 5 (by decide) k2 (fun _ h9 => h9) rfl dX8_school_52 ?_
    refine lv_iadd hx hb dX8_school_55 ?_
    refine lv_bipush (v := 60) hx hb dX8_school_56 (by decide) ?_
    obtain ⟨h6, hF⟩ := m_chk hF
    refine va_iast (f := (upd (Model_s v) (25 : Int32).toNatClampNeg 0)) hx hb hK hP hD hS 1 1 rfl rfl (mIn_ok h6) dX8_school_58 (fun H locs hP hD hS => ?_)
    have hP : va_P E.1 vwCl (Model_c E a (Model_end_s (Model_act_s (Model_s_s v (upd (upd (Model_s v) (25 : Int32).toNatClampNeg 0) ((211 + ((Model_s v) (21 : Int32).toNatClampNeg))).toNatClampNeg 60)) ((Model_s v) (21 : Int32).toNatClampNeg)) ((Model_s v) (25 : Int32).toNatClampNeg))) H := hP
    have hD : va_D A (Model_c E a (Model_end_s (Model_act_s (Model_s_s v (upd (upd (Model_s v) (25 : Int32).toNatClampNeg 0) ((211 + ((Model_s v) (21 : Int32).toNatClampNeg))).toNatClampNeg 60)) ((Model_s v) (21 : Int32).toNatClampNeg)) ((Model_s v) (25 : Int32).toNatClampNeg))) := hD
    refine lv_aload_n hx hb dX8_school_59 rfl (lv_at hl 0 rfl) ?_
    refine va_get (D := E.1) (ci := 8) (v := .ref (Modela_s a)) (C := RX8) (T := TX8) (N := 20) hx hb hts k1 hown hK hP 0 rfl rfl 1 (by decide) k0 (fun _ h9 => h9) rfl dX8_school_60 ?_
    refine lv_sipush (v := 216) hx hb dX8_school_63 (by decide) ?_
    refine lv_aload_n hx hb dX8_school_66 rfl (lv_at hl 0 rfl) ?_
    refine va_get (D := E.1) (ci := 8) (v := .int ((Model_s v) (21 : Int32).toNatClampNeg)) (C := RX8) (T := TX8) (N := 20) hx hb hts k1 hown hK hP 0 rfl rfl 5 (by decide) k2 (fun _ h9 => h9) rfl dX8_school_67 ?_
    refine lv_iadd hx hb dX8_school_70 ?_
    refine lv_iconst (v := 2) hx hb dX8_school_71 (by decide) ?_
    obtain ⟨h7, hF⟩ := m_chk hF
    refine va_iast (f := (upd (upd (Model_s v) (25 : Int32).toNatClampNeg 0) ((211 + ((Model_s v) (21 : Int32).toNatClampNeg))).toNatClampNeg 60)) hx hb hK hP hD hS 1 1 rfl rfl (mIn_ok h7) dX8_school_72 (fun H locs hP hD hS => ?_)
    have hP : va_P E.1 vwCl (Model_c E a (Model_end_s (Model_act_s (Model_s_s v (upd (upd (upd (Model_s v) (25 : Int32).toNatClampNeg 0) ((211 + ((Model_s v) (21 : Int32).toNatClampNeg))).toNatClampNeg 60) ((216 + ((Model_s v) (21 : Int32).toNatClampNeg))).toNatClampNeg 2)) ((Model_s v) (21 : Int32).toNatClampNeg)) ((Model_s v) (25 : Int32).toNatClampNeg))) H := hP
    have hD : va_D A (Model_c E a (Model_end_s (Model_act_s (Model_s_s v (upd (upd (upd (Model_s v) (25 : Int32).toNatClampNeg 0) ((211 + ((Model_s v) (21 : Int32).toNatClampNeg))).toNatClampNeg 60) ((216 + ((Model_s v) (21 : Int32).toNatClampNeg))).toNatClampNeg 2)) ((Model_s v) (21 : Int32).toNatClampNeg)) ((Model_s v) (25 : Int32).toNatClampNeg))) := hD
    refine lv_aload_n hx hb dX8_school_73 rfl (lv_at hl 0 rfl) ?_
    refine va_get (D := E.1) (ci := 8) (v := .ref (Modela_s a)) (C := RX8) (T := TX8) (N := 20) hx hb hts k1 hown hK hP 0 rfl rfl 1 (by decide) k0 (fun _ h9 => h9) rfl dX8_school_74 ?_
    refine lv_sipush (v := 221) hx hb dX8_school_77 (by decide) ?_
    refine lv_aload_n hx hb dX8_school_80 rfl (lv_at hl 0 rfl) ?_
    refine va_get (D := E.1) (ci := 8) (v := .int ((Model_s v) (21 : Int32).toNatClampNeg)) (C := RX8) (T := TX8) (N := 20) hx hb hts k1 hown hK hP 0 rfl rfl 5 (by decide) k2 (fun _ h9 => h9) rfl dX8_school_81 ?_
    refine lv_iadd hx hb dX8_school_84 ?_
    refine lv_iconst (v := 0) hx hb dX8_school_85 (by decide) ?_
    obtain ⟨h8, hF⟩ := m_chk hF
    refine va_iast (f := (upd (upd (upd (Model_s v) (25 : Int32).toNatClampNeg 0) ((211 + ((Model_s v) (21 : Int32).toNatClampNeg))).toNatClampNeg 60) ((216 + ((Model_s v) (21 : Int32).toNatClampNeg))).toNatClampNeg 2)) hx hb hK hP hD hS 1 1 rfl rfl (mIn_ok h8) dX8_school_86 (fun H locs hP hD hS => ?_)
    have hP : va_P E.1 vwCl (Model_c E a (Model_end_s (Model_act_s (Model_s_s v (upd (upd (upd (upd (Model_s v) (25 : Int32).toNatClampNeg 0) ((211 + ((Model_s v) (21 : Int32).toNatClampNeg))).toNatClampNeg 60) ((216 + ((Model_s v) (21 : Int32).toNatClampNeg))).toNatClampNeg 2) ((221 + ((Model_s v) (21 : Int32).toNatClampNeg))).toNatClampNeg 0)) ((Model_s v) (21 : Int32).toNatClampNeg)) ((Model_s v) (25 : Int32).toNatClampNeg))) H := hP
    have hD : va_D A (Model_c E a (Model_end_s (Model_act_s (Model_s_s v (upd (upd (upd (upd (Model_s v) (25 : Int32).toNatClampNeg 0) ((211 + ((Model_s v) (21 : Int32).toNatClampNeg))).toNatClampNeg 60) ((216 + ((Model_s v) (21 : Int32).toNatClampNeg))).toNatClampNeg 2) ((221 + ((Model_s v) (21 : Int32).toNatClampNeg))).toNatClampNeg 0)) ((Model_s v) (21 : Int32).toNatClampNeg)) ((Model_s v) (25 : Int32).toNatClampNeg))) := hD
    refine lv_aload_n hx hb dX8_school_87 rfl (lv_at hl 0 rfl) ?_
    refine lv_iconst (v := 0) hx hb dX8_school_88 (by decide) ?_
    refine va_put (D := E.1) (ci := 8) (v := .int 0) (ty := .int) (C := RX8) (T := TX8) (N := 20) hx hb hts k1 tyX8 tyX8_ok nmX8 hown hK hP hD hS 0 rfl rfl 6 (by decide) k4 (fun _ h9 => h9) rfl (by decide +kernel) rfl rfl (Nat.le_of_ble_eq_true rfl) dX8_school_89 (fun H locs hP hD hS => ?_)
    have hP : va_P E.1 vwCl (Model_c E a (Model_end_s (Model_spot_s (Model_act_s (Model_s_s v (upd (upd (upd (upd (Model_s v) (25 : Int32).toNatClampNeg 0) ((211 + ((Model_s v) (21 : Int32).toNatClampNeg))).toNatClampNeg 60) ((216 + ((Model_s v) (21 : Int32).toNatClampNeg))).toNatClampNeg 2) ((221 + ((Model_s v) (21 : Int32).toNatClampNeg))).toNatClampNeg 0)) ((Model_s v) (21 : Int32).toNatClampNeg)) 0) ((Model_s v) (25 : Int32).toNatClampNeg))) H := hP
    have hD : va_D A (Model_c E a (Model_end_s (Model_spot_s (Model_act_s (Model_s_s v (upd (upd (upd (upd (Model_s v) (25 : Int32).toNatClampNeg 0) ((211 + ((Model_s v) (21 : Int32).toNatClampNeg))).toNatClampNeg 60) ((216 + ((Model_s v) (21 : Int32).toNatClampNeg))).toNatClampNeg 2) ((221 + ((Model_s v) (21 : Int32).toNatClampNeg))).toNatClampNeg 0)) ((Model_s v) (21 : Int32).toNatClampNeg)) 0) ((Model_s v) (25 : Int32).toNatClampNeg))) := hD
    refine lv_aload_n hx hb dX8_school_92 rfl (lv_at hl 0 rfl) ?_
    refine lv_iconst (v := 0) hx hb dX8_school_93 (by decide) ?_
    refine va_put (D := E.1) (ci := 8) (v := .int 0) (ty := .boolean) (C := RX8) (T := TX8) (N := 20) hx hb hts k1 tyX8 tyX8_ok nmX8 hown hK hP hD hS 0 rfl rfl 8 (by decide) k5 (fun _ h9 => h9) rfl (by decide +kernel) rfl rfl (Nat.le_of_ble_eq_true rfl) dX8_school_94 (fun H locs hP hD hS => ?_)
    have hP : va_P E.1 vwCl (Model_c E a (Model_isWrong_s (Model_end_s (Model_spot_s (Model_act_s (Model_s_s v (upd (upd (upd (upd (Model_s v) (25 : Int32).toNatClampNeg 0) ((211 + ((Model_s v) (21 : Int32).toNatClampNeg))).toNatClampNeg 60) ((216 + ((Model_s v) (21 : Int32).toNatClampNeg))).toNatClampNeg 2) ((221 + ((Model_s v) (21 : Int32).toNatClampNeg))).toNatClampNeg 0)) ((Model_s v) (21 : Int32).toNatClampNeg)) 0) ((Model_s v) (25 : Int32).toNatClampNeg)) 0)) H := hP
    have hD : va_D A (Model_c E a (Model_isWrong_s (Model_end_s (Model_spot_s (Model_act_s (Model_s_s v (upd (upd (upd (upd (Model_s v) (25 : Int32).toNatClampNeg 0) ((211 + ((Model_s v) (21 : Int32).toNatClampNeg))).toNatClampNeg 60) ((216 + ((Model_s v) (21 : Int32).toNatClampNeg))).toNatClampNeg 2) ((221 + ((Model_s v) (21 : Int32).toNatClampNeg))).toNatClampNeg 0)) ((Model_s v) (21 : Int32).toNatClampNeg)) 0) ((Model_s v) (25 : Int32).toNatClampNeg)) 0)) := hD
    refine lv_aload_n hx hb dX8_school_97 rfl (lv_at hl 0 rfl) ?_
    refine lv_iconst (v := 0) hx hb dX8_school_98 (by decide) ?_
    refine va_put (D := E.1) (ci := 8) (v := .int 0) (ty := .int) (C := RX8) (T := TX8) (N := 20) hx hb hts k1 tyX8 tyX8_ok nmX8 hown hK hP hD hS 0 rfl rfl 9 (by decide) k6 (fun _ h9 => h9) rfl (by decide +kernel) rfl rfl (Nat.le_of_ble_eq_true rfl) dX8_school_99 (fun H locs hP hD hS => ?_)
    have hP : va_P E.1 vwCl (Model_c E a (Model_open_s (Model_isWrong_s (Model_end_s (Model_spot_s (Model_act_s (Model_s_s v (upd (upd (upd (upd (Model_s v) (25 : Int32).toNatClampNeg 0) ((211 + ((Model_s v) (21 : Int32).toNatClampNeg))).toNatClampNeg 60) ((216 + ((Model_s v) (21 : Int32).toNatClampNeg))).toNatClampNeg 2) ((221 + ((Model_s v) (21 : Int32).toNatClampNeg))).toNatClampNeg 0)) ((Model_s v) (21 : Int32).toNatClampNeg)) 0) ((Model_s v) (25 : Int32).toNatClampNeg)) 0) 0)) H := hP
    have hD : va_D A (Model_c E a (Model_open_s (Model_isWrong_s (Model_end_s (Model_spot_s (Model_act_s (Model_s_s v (upd (upd (upd (upd (Model_s v) (25 : Int32).toNatClampNeg 0) ((211 + ((Model_s v) (21 : Int32).toNatClampNeg))).toNatClampNeg 60) ((216 + ((Model_s v) (21 : Int32).toNatClampNeg))).toNatClampNeg 2) ((221 + ((Model_s v) (21 : Int32).toNatClampNeg))).toNatClampNeg 0)) ((Model_s v) (21 : Int32).toNatClampNeg)) 0) ((Model_s v) (25 : Int32).toNatClampNeg)) 0) 0)) := hD
    refine lv_iconst (v := 1) hx hb dX8_school_102 (by decide) ?_
    refine lv_istore_n (lv' := [(1, .int 1), (0, .ref (Modela_self a))]) hx hb dX8_school_103 rfl hl (by decide) rfl (fun ls hl => ?_)
    refine lv_aload_n hx hb dX8_school_104 rfl (lv_at hl 1 rfl) ?_
    obtain ⟨t9, ht9, hF⟩ := m_bnd hF
    have hPc := hP
    have hDc := hD
    have hFc := va_free (wc := (Model_c E a (Model_open_s (Model_isWrong_s (Model_end_s (Model_spot_s (Model_act_s (Model_s_s v (upd (upd (upd (upd (Model_s v) (25 : Int32).toNatClampNeg 0) ((211 + ((Model_s v) (21 : Int32).toNatClampNeg))).toNatClampNeg 60) ((216 + ((Model_s v) (21 : Int32).toNatClampNeg))).toNatClampNeg 2) ((221 + ((Model_s v) (21 : Int32).toNatClampNeg))).toNatClampNeg 0)) ((Model_s v) (21 : Int32).toNatClampNeg)) 0) ((Model_s v) (25 : Int32).toNatClampNeg)) 0) 0))) hD hS hA [0, 1, 2, 3, 4, 5, 6, 7] rfl
    refine mVM (ci := 8) (n := 0) (rest := []) (As := []) CC hKN hGl (c_X8_clauseHere l E a (Model_open_s (Model_isWrong_s (Model_end_s (Model_spot_s (Model_act_s (Model_s_s v (upd (upd (upd (upd (Model_s v) (25 : Int32).toNatClampNeg 0) ((211 + ((Model_s v) (21 : Int32).toNatClampNeg))).toNatClampNeg 60) ((216 + ((Model_s v) (21 : Int32).toNatClampNeg))).toNatClampNeg 2) ((221 + ((Model_s v) (21 : Int32).toNatClampNeg))).toNatClampNeg 0)) ((Model_s v) (21 : Int32).toNatClampNeg)) 0) ((Model_s v) (25 : Int32).toNatClampNeg)) 0) 0) t9 ht9 _) gX8_school_X8_clauseHere rfl ⟨rfl, rfl⟩ (by decide +kernel) ⟨Nat.le_of_ble_eq_true rfl, Nat.le_of_ble_eq_true rfl⟩ hPc hDc m_nil m_nilA hS hFc rfl rfl rfl rfl hl.1 rfl (Nat.le_of_ble_eq_true rfl) ⟨Nat.zero_le _, Nat.zero_le _⟩ dX8_school_105 (fun H1 locs hP1 hD1 hz1 hk1 hS => ?_)
    have hP : va_P E.1 vwCl (Model_c E a t9) H1 := hP1
    have hD : va_D A (Model_c E a t9) := m_back hD1 hFc
    generalize H1 = H at hP hS ⊢
    refine W.eq (g2 := F0 m 108 ls []) rfl ?_
    obtain ⟨j150, hjd150, hF⟩ := m_jp hF
    have hj150 : ∀ (wx_150 : ModelV) (H : Heap) (locs : List Loc) (ls : Array Slot), j150 wx_150 = some t → va_P E.1 vwCl (Model_c E a wx_150) H → va_D A (Model_c E a wx_150) → va_S A s.heap H locs → lv_has ls 2 [(0, .ref (Modela_self a))] → W p l e_ rmX8_school s m args below meth c H locs 0 0 Q (F0 m 150 ls []) := by
      intro wx_150 H locs ls hF hP hD hS hl
      rw [hjd150] at hF
      refine lv_aload_n hx hb dX8_school_150 rfl (lv_at hl 0 rfl) ?_
      refine va_get (D := E.1) (ci := 8) (v := .int (Model_isWrong wx_150)) (C := RX8) (T := TX8) (N := 20) hx hb hts k1 hown hK hP 0 rfl rfl 8 (by decide) k5 (fun _ h9 => h9) rfl dX8_school_151 ?_
      obtain ⟨j168, hjd168, hF⟩ := m_jp hF
      have hj168 : ∀ (H : Heap) (locs : List Loc) (ls : Array Slot), j168 () = some t → va_P E.1 vwCl (Model_c E a wx_150) H → va_D A (Model_c E a wx_150) → va_S A s.heap H locs → lv_has ls 2 [(0, .ref (Modela_self a))] → W p l e_ rmX8_school s m args below meth c H locs 0 0 Q (F0 m 168 ls []) := by
        intro H locs ls hF hP hD hS hl
        rw [hjd168] at hF
        refine lv_bipush (v := (-10)) hx hb dX8_school_168 (by decide) ?_
        refine lv_aload_n hx hb dX8_school_170 rfl (lv_at hl 0 rfl) ?_
        refine va_get (D := E.1) (ci := 8) (v := .int (Model_spot wx_150)) (C := RX8) (T := TX8) (N := 20) hx hb hts k1 hown hK hP 0 rfl rfl 6 (by decide) k4 (fun _ h9 => h9) rfl dX8_school_171 ?_
        refine lv_isub hx hb dX8_school_174 ?_
        have hF := Option.some.inj hF
        subst hF
        rw [hQ]
        exact W.iret hx hb hr (fun t ht _ => ⟨⟨rfl, by rw [ht]; exact hP, hD⟩, hS.F ht⟩) hS.2.2 dX8_school_175
      clear hjd168
      refine lv_if_ne (tgt := 168) hx hb dX8_school_154 (by decide) (fun c10 => ?_) (fun c10 => ?_)
      · have hF := m_pos c10 hF
        exact hj168 H locs ls hF hP hD hS (lv_sub hl [0] rfl)
      · have hF := m_neg (fun n9 => n9 c10) hF
        refine lv_aload_n hx hb dX8_school_157 rfl (lv_at hl 0 rfl) ?_
        refine va_get (D := E.1) (ci := 8) (v := .int (Model_spot wx_150)) (C := RX8) (T := TX8) (N := 20) hx hb hts k1 hown hK hP 0 rfl rfl 6 (by decide) k4 (fun _ h9 => h9) rfl dX8_school_158 ?_
        refine lv_aload_n hx hb dX8_school_161 rfl (lv_at hl 0 rfl) ?_
        refine va_get (D := E.1) (ci := 8) (v := .int (Model_end wx_150)) (C := RX8) (T := TX8) (N := 20) hx hb hts k1 hown hK hP 0 rfl rfl 7 (by decide) k3 (fun _ h9 => h9) rfl dX8_school_162 ?_
        refine lv_icmp_eq (tgt := 176) hx hb dX8_school_165 (by decide) (fun c11 => ?_) (fun c11 => ?_)
        · have hF := m_pos c11 hF
          refine lv_aload_n hx hb dX8_school_176 rfl (lv_at hl 0 rfl) ?_
          refine va_get (D := E.1) (ci := 8) (v := .ref (Modela_s a)) (C := RX8) (T := TX8) (N := 20) hx hb hts k1 hown hK hP 0 rfl rfl 1 (by decide) k0 (fun _ h9 => h9) rfl dX8_school_177 ?_
          refine lv_bipush (v := 21) hx hb dX8_school_180 (by decide) ?_
          refine lv_dup2_11 hx hb dX8_school_182 rfl rfl ?_
          obtain ⟨h12, hF⟩ := m_chk hF
          refine va_iald (f := (Model_s wx_150)) hx hb hK hP 1 1 rfl rfl (mIn_ok h12) dX8_school_183 ?_
          refine W.eq (g2 := F0 m 184 ls [.int ((Model_s wx_150) (21 : Int32).toNatClampNeg), .int 21, .ref (Modela_s a)]) rfl ?_
          refine lv_iconst (v := 1) hx hb dX8_school_184 (by decide) ?_
          refine lv_iadd hx hb dX8_school_185 ?_
          obtain ⟨h13, hF⟩ := m_chk hF
          refine va_iast (f := (Model_s wx_150)) hx hb hK hP hD hS 1 1 rfl rfl (mIn_ok h13) dX8_school_186 (fun H locs hP hD hS => ?_)
          have hP : va_P E.1 vwCl (Model_c E a (Model_s_s wx_150 (upd (Model_s wx_150) (21 : Int32).toNatClampNeg (((Model_s wx_150) (21 : Int32).toNatClampNeg) + 1)))) H := hP
          have hD : va_D A (Model_c E a (Model_s_s wx_150 (upd (Model_s wx_150) (21 : Int32).toNatClampNeg (((Model_s wx_150) (21 : Int32).toNatClampNeg) + 1)))) := hD
          refine lv_aload_n hx hb dX8_school_187 rfl (lv_at hl 0 rfl) ?_
          refine va_get (D := E.1) (ci := 8) (v := .ref (Modela_s a)) (C := RX8) (T := TX8) (N := 20) hx hb hts k1 hown hK hP 0 rfl rfl 1 (by decide) k0 (fun _ h9 => h9) rfl dX8_school_188 ?_
          refine lv_bipush (v := 26) hx hb dX8_school_191 (by decide) ?_
          refine lv_aload_n hx hb dX8_school_193 rfl (lv_at hl 0 rfl) ?_
          refine va_get (D := E.1) (ci := 8) (v := .int (Model_act wx_150)) (C := RX8) (T := TX8) (N := 20) hx hb hts k1 hown hK hP 0 rfl rfl 5 (by decide) k2 (fun _ h9 => h9) rfl dX8_school_194 ?_
          obtain ⟨h14, hF⟩ := m_chk hF
          refine va_iast (f := (upd (Model_s wx_150) (21 : Int32).toNatClampNeg (((Model_s wx_150) (21 : Int32).toNatClampNeg) + 1))) hx hb hK hP hD hS 1 1 rfl rfl (mIn_ok h14) dX8_school_197 (fun H locs hP hD hS => ?_)
          have hP : va_P E.1 vwCl (Model_c E a (Model_s_s wx_150 (upd (upd (Model_s wx_150) (21 : Int32).toNatClampNeg (((Model_s wx_150) (21 : Int32).toNatClampNeg) + 1)) (26 : Int32).toNatClampNeg (Model_act wx_150)))) H := hP
          have hD : va_D A (Model_c E a (Model_s_s wx_150 (upd (upd (Model_s wx_150) (21 : Int32).toNatClampNeg (((Model_s wx_150) (21 : Int32).toNatClampNeg) + 1)) (26 : Int32).toNatClampNeg (Model_act wx_150)))) := hD
          refine lv_aload_n hx hb dX8_school_198 rfl (lv_at hl 0 rfl) ?_
          refine va_get (D := E.1) (ci := 8) (v := .int (Model_act wx_150)) (C := RX8) (T := TX8) (N := 20) hx hb hts k1 hown hK hP 0 rfl rfl 5 (by decide) k2 (fun _ h9 => h9) rfl dX8_school_199 ?_
          have hF := Option.some.inj hF
          subst hF
          rw [hQ]
          exact W.iret hx hb hr (fun t ht _ => ⟨⟨rfl, by rw [ht]; exact hP, hD⟩, hS.F ht⟩) hS.2.2 dX8_school_202
        · have hF := m_neg c11 hF
          exact hj168 H locs ls hF hP hD hS (lv_sub hl [0] rfl)
    clear hjd150
    have hL108 : ∀ (n : Nat) (y1_108 : Int32) (wy_108 : ModelV) (H : Heap) (locs : List Loc) (ls : Array Slot), lp_X8_school_108 j150 n y1_108 wy_108 = some t → va_P E.1 vwCl (Model_c E a wy_108) H → va_D A (Model_c E a wy_108) → va_S A s.heap H locs → lv_has ls 2 [(0, .ref (Modela_self a)), (1, .int y1_108)] → W p l e_ rmX8_school s m args below meth c H locs 0 0 Q (F0 m 108 ls []) := by
      intro n
      induction n with
      | zero =>
        intro y1_108 wy_108 H locs ls hF
        exact nomatch (show (none : Option (Int32 × ModelV)) = some t from hF)
      | succ n ih108 =>
        intro y1_108 wy_108 H locs ls hF hP hD hS hl
        have hF : st_X8_school_108 j150 (lp_X8_school_108 j150 n) y1_108 wy_108 = some t := hF
        unfold st_X8_school_108 at hF
        refine lv_aload_n hx hb dX8_school_108 rfl (lv_at hl 0 rfl) ?_
        refine va_get (D := E.1) (ci := 8) (v := .int (Model_isWrong wy_108)) (C := RX8) (T := TX8) (N := 20) hx hb hts k1 hown hK hP 0 rfl rfl 8 (by decide) k5 (fun _ h9 => h9) rfl dX8_school_109 ?_
        refine lv_if_ne (tgt := 150) hx hb dX8_school_112 (by decide) (fun c15 => ?_) (fun c15 => ?_)
        · have hF := m_pos c15 hF
          exact hj150 wy_108 H locs ls hF hP hD hS (lv_sub hl [0] rfl)
        · have hF := m_neg (fun n9 => n9 c15) hF
          refine lv_iload_n hx hb dX8_school_115 rfl (lv_at hl 1 rfl) ?_
          refine lv_bipush (v := 10) hx hb dX8_school_116 (by decide) ?_
          refine lv_icmp_ge (tgt := 150) hx hb dX8_school_118 (by decide) (fun c16 => ?_) (fun c16 => ?_)
          · have hF := m_pos c16 hF
            exact hj150 wy_108 H locs ls hF hP hD hS (lv_sub hl [0] rfl)
          · have hF := m_neg c16 hF
            refine lv_aload_n hx hb dX8_school_121 rfl (lv_at hl 0 rfl) ?_
            obtain ⟨t17, ht17, hF⟩ := m_bnd hF
            refine mVP (ci := 8) (n := 0) (rest := []) (As := []) CC hKN hGl hS (c_X8_here l E a wy_108 t17 ht17) gX8_school_X8_here rfl ⟨rfl, rfl⟩ (by decide +kernel) ⟨Nat.le_of_ble_eq_true rfl, Nat.le_of_ble_eq_true rfl⟩ hP rfl rfl rfl rfl hl.1 rfl (Nat.le_of_ble_eq_true rfl) ⟨Nat.zero_le _, Nat.zero_le _⟩ dX8_school_122 ?_
            refine W.eq (g2 := F0 m 125 ls [.int t17]) rfl ?_
            refine lv_bipush (v := 59) hx hb dX8_school_125 (by decide) ?_
            refine lv_icmp_ne (tgt := 150) hx hb dX8_school_127 (by decide) (fun c18 => ?_) (fun c18 => ?_)
            · have hF := m_pos c18 hF
              exact hj150 wy_108 H locs ls hF hP hD hS (lv_sub hl [0] rfl)
            · have hF := m_neg (fun n9 => n9 c18) hF
              refine lv_aload_n hx hb dX8_school_130 rfl (lv_at hl 0 rfl) ?_
              refine lv_dup hx hb dX8_school_131 rfl ?_
              refine va_get (D := E.1) (ci := 8) (v := .int (Model_spot wy_108)) (C := RX8) (T := TX8) (N := 20) hx hb hts k1 hown hK hP 0 rfl rfl 6 (by decide) k4 (fun _ h9 => h9) rfl dX8_school_132 ?_
              refine lv_iconst (v := 1) hx hb dX8_school_135 (by decide) ?_
              refine lv_iadd hx hb dX8_school_136 ?_
              refine va_put (D := E.1) (ci := 8) (v := .int ((Model_spot wy_108) + 1)) (ty := .int) (C := RX8) (T := TX8) (N := 20) hx hb hts k1 tyX8 tyX8_ok nmX8 hown hK hP hD hS 0 rfl rfl 6 (by decide) k4 (fun _ h9 => h9) rfl (by decide +kernel) rfl rfl (Nat.le_of_ble_eq_true rfl) dX8_school_137 (fun H locs hP hD hS => ?_)
              have hP : va_P E.1 vwCl (Model_c E a (Model_spot_s wy_108 ((Model_spot wy_108) + 1))) H := hP
              have hD : va_D A (Model_c E a (Model_spot_s wy_108 ((Model_spot wy_108) + 1))) := hD
              refine lv_aload_n hx hb dX8_school_140 rfl (lv_at hl 0 rfl) ?_
              obtain ⟨t19, ht19, hF⟩ := m_bnd hF
              have hPc := hP
              have hDc := hD
              have hFc := va_free (wc := (Model_c E a (Model_spot_s wy_108 ((Model_spot wy_108) + 1)))) hD hS hA [0, 1, 2, 3, 4, 5, 6, 7] rfl
              refine mVM (ci := 8) (n := 0) (rest := []) (As := []) CC hKN hGl (c_X8_clauseHere l E a (Model_spot_s wy_108 ((Model_spot wy_108) + 1)) t19 ht19 _) gX8_school_X8_clauseHere rfl ⟨rfl, rfl⟩ (by decide +kernel) ⟨Nat.le_of_ble_eq_true rfl, Nat.le_of_ble_eq_true rfl⟩ hPc hDc m_nil m_nilA hS hFc rfl rfl rfl rfl hl.1 rfl (Nat.le_of_ble_eq_true rfl) ⟨Nat.zero_le _, Nat.zero_le _⟩ dX8_school_141 (fun H1 locs hP1 hD1 hz1 hk1 hS => ?_)
              have hP : va_P E.1 vwCl (Model_c E a t19) H1 := hP1
              have hD : va_D A (Model_c E a t19) := m_back hD1 hFc
              generalize H1 = H at hP hS ⊢
              refine W.eq (g2 := F0 m 144 ls []) rfl ?_
              refine lv_iinc (v := (y1_108 + 1)) (lv' := [(1, .int (y1_108 + 1)), (0, .ref (Modela_self a))]) hx hb dX8_school_144 hl (k := 1) rfl rfl (by decide) rfl (fun ls hl => ?_)
              refine lv_goto (tgt := 108) hx hb dX8_school_147 (by decide) ?_
              exact ih108 (y1_108 + 1) t19 H locs ls hF hP hD hS (lv_sub hl [1, 0] rfl)
    exact hL108 m_N 1 t9 H locs ls hF hP hD hS (lv_sub hl [1, 0] rfl)
  · have hF := m_neg (fun n9 => n9 c2) hF
    refine lv_bipush (v := (-4)) hx hb dX8_school_11 (by decide) ?_
    have hF := Option.some.inj hF
    subst hF
    rw [hQ]
    exact W.iret hx hb hr (fun t ht _ => ⟨⟨rfl, by rw [ht]; exact hP, hD⟩, hS.F ht⟩) hS.2.2 dX8_school_13

abbrev rmX8_part : Room := { frames := 7, cells := 0, slots := 0, locals := 165 }
set_option maxRecDepth 100000 in
set_option maxHeartbeats 400000 in
theorem c_X8_part (l : Launch) (E : mE) (a : ModelA) (v : ModelV) (x0 : Int32) (x1 : Int32) (t : (Int64 × ModelV)) (hF : fn_X8_part v x0 x1 = some t) (sz : Nat) : Met l yX8_part wsX8_part rmX8_part (mPm E [.ref (Modela_self a), .int x0, .int x1] sz ((Model_c E a v)) (([] : va_W))) (mSm E (some (.long t.1)) ((Model_c E a t.2)) (va_A ((Model_c E a v)) sz)) 0 0 (va_A ((Model_c E a v)) sz) := by
  refine mOfM (cc := cX8_part) (maxL := 9) (ret := (some .long)) (by decide) rfl (Nat.le_of_ble_eq_true rfl) ?_
  intro p e_ s m args below meth c Q A hQ CC hr hlocks hin hA hP hD hKN hGl hR0 hRA ls hl
  have hS : va_S A s.heap s.heap [] := va_S.rf
  have hK := hKN.1
  have hx := CC.1
  have hb := CC.2.1
  have hml := CC.2.2.1
  have hown : s.vm.findClass RX8 = some m.cls := CC.2.2.2.1
  have hts := CC.2.2.2.2
  have hl : lv_has ls 9 [(0, .ref (Modela_self a)), (1, .int x0), (2, .int x1)] := hl
  have k0 := hts (.constantLong RX8 222 (-9223372036854775808)) (by decide +kernel)
  have k1 := hts (.fieldLink RX8 9 "OneDidAllModel" "s" "[I") (by decide +kernel)
  have k2 := (show ∀ w ∈ u_ws RX8 TX8 20, w ∈ wsX8_part by decide +kernel)
  have hP : va_P E.1 vwCl (Model_c E a v) s.heap := hP
  obtain ⟨H, hH⟩ : ∃ H, H = s.heap := ⟨_, rfl⟩
  obtain ⟨locs, hlc⟩ : ∃ z : List Loc, z = [] := ⟨_, rfl⟩
  rw [← hH] at hP
  rw [← hlc] at hS
  have hS : va_S A s.heap H locs := by rw [hH]; exact hS
  rw [← hH, ← hlc]
  unfold fn_X8_part at hF
  refine lv_aload_n hx hb dX8_part_0 rfl (lv_at hl 0 rfl) ?_
  refine lv_iload_n hx hb dX8_part_1 rfl (lv_at hl 1 rfl) ?_
  obtain ⟨t1, ht1, hF⟩ := m_bnd hF
  refine mVP (ci := 8) (n := 1) (rest := []) (As := [.int x0]) CC hKN hGl hS (c_X8_isPupil l E a v x0 t1 ht1) gX8_part_X8_isPupil rfl ⟨rfl, rfl⟩ (by decide +kernel) ⟨Nat.le_of_ble_eq_true rfl, Nat.le_of_ble_eq_true rfl⟩ hP rfl rfl rfl rfl hl.1 rfl (Nat.le_of_ble_eq_true rfl) ⟨Nat.zero_le _, Nat.zero_le _⟩ dX8_part_2 ?_
  refine W.eq (g2 := F0 m 5 ls [.int t1]) rfl ?_
  obtain ⟨j17, hjd17, hF⟩ := m_jp hF
  have hj17 : ∀ (H : Heap) (locs : List Loc) (ls : Array Slot), j17 () = some t → va_P E.1 vwCl (Model_c E a v) H → va_D A (Model_c E a v) → va_S A s.heap H locs → lv_has ls 9 [] → W p l e_ rmX8_part s m args below meth c H locs 0 0 Q (F0 m 17 ls []) := by
    intro H locs ls hF hP hD hS hl
    rw [hjd17] at hF
    refine lv_ldc2 (v := (-9223372036854775808 : Int64)) hx hb hown k0 dX8_part_17 ?_
    have hF := Option.some.inj hF
    subst hF
    rw [hQ]
    exact W.lret hx hb hr (fun t ht _ => ⟨⟨rfl, by rw [ht]; exact hP, hD⟩, hS.F ht⟩) hS.2.2 dX8_part_20
  clear hjd17
  refine lv_if_eq (tgt := 17) hx hb dX8_part_5 (by decide) (fun c2 => ?_) (fun c2 => ?_)
  · have hF := m_pos c2 hF
    exact hj17 H locs ls hF hP hD hS (lv_sub hl [] rfl)
  · have hF := m_neg c2 hF
    refine lv_iload_n hx hb dX8_part_8 rfl (lv_at hl 2 rfl) ?_
    refine lv_iconst (v := 0) hx hb dX8_part_9 (by decide) ?_
    refine lv_iconst (v := 1) hx hb dX8_part_10 (by decide) ?_
    obtain ⟨t3, ht3, hF⟩ := m_bnd hF
    refine mSP (n := 3) (rest := []) (As := [.int x1, .int 0, .int 1]) CC hKN hGl hS (c_X8_in l E x1 0 1 t3 ht3) gX8_part_X8_in rfl ⟨rfl, rfl⟩ (by decide +kernel) ⟨Nat.le_of_ble_eq_true rfl, Nat.le_of_ble_eq_true rfl⟩ m_nil rfl hl.1 rfl (Nat.le_of_ble_eq_true rfl) ⟨Nat.zero_le _, Nat.zero_le _⟩ dX8_part_11 ?_
    refine W.eq (g2 := F0 m 14 ls [.int t3]) rfl ?_
    refine lv_if_ne (tgt := 21) hx hb dX8_part_14 (by decide) (fun c4 => ?_) (fun c4 => ?_)
    · have hF := m_pos c4 hF
      refine lv_aload_n hx hb dX8_part_21 rfl (lv_at hl 0 rfl) ?_
      refine va_get (D := E.1) (ci := 8) (v := .ref (Modela_s a)) (C := RX8) (T := TX8) (N := 20) hx hb hts k2 hown hK hP 0 rfl rfl 1 (by decide) k1 (fun _ h9 => h9) rfl dX8_part_22 ?_
      refine lv_bipush (v := 20) hx hb dX8_part_25 (by decide) ?_
      obtain ⟨h5, hF⟩ := m_chk hF
      refine va_iald (f := (Model_s v)) hx hb hK hP 1 1 rfl rfl (mIn_ok h5) dX8_part_27 ?_
      refine W.eq (g2 := F0 m 28 ls [.int ((Model_s v) (20 : Int32).toNatClampNeg)]) rfl ?_
      refine lv_istore_n (lv' := [(3, .int ((Model_s v) (20 : Int32).toNatClampNeg)), (0, .ref (Modela_self a)), (1, .int x0), (2, .int x1)]) hx hb dX8_part_28 rfl hl (by decide) rfl (fun ls hl => ?_)
      refine lv_lconst (v := 0) hx hb dX8_part_29 (by decide) ?_
      refine lv_lstore (lv' := [(4, .long (0 : Int64)), (3, .int ((Model_s v) (20 : Int32).toNatClampNeg)), (0, .ref (Modela_self a)), (1, .int x0), (2, .int x1)]) hx hb dX8_part_30 hl (by decide) rfl (fun ls hl => ?_)
      refine lv_iconst (v := 0) hx hb dX8_part_32 (by decide) ?_
      refine lv_istore (lv' := [(6, .int 0), (4, .long (0 : Int64)), (3, .int ((Model_s v) (20 : Int32).toNatClampNeg)), (0, .ref (Modela_self a)), (1, .int x0), (2, .int x1)]) hx hb dX8_part_33 hl (by decide) rfl (fun ls hl => ?_)
      obtain ⟨j123, hjd123, hF⟩ := m_jp hF
      have hj123 : ∀ (x4_123 : Int64) (wx_123 : ModelV) (H : Heap) (locs : List Loc) (ls : Array Slot), j123 x4_123 wx_123 = some t → va_P E.1 vwCl (Model_c E a wx_123) H → va_D A (Model_c E a wx_123) → va_S A s.heap H locs → lv_has ls 9 [(2, .int x1), (3, .int ((Model_s v) (20 : Int32).toNatClampNeg)), (4, .long x4_123)] → W p l e_ rmX8_part s m args below meth c H locs 0 0 Q (F0 m 123 ls []) := by
        intro x4_123 wx_123 H locs ls hF hP hD hS hl
        rw [hjd123] at hF
        refine lv_lload hx hb dX8_part_123 (lv_at hl 2 rfl) ?_
        refine lv_iload_n hx hb dX8_part_125 rfl (lv_at hl 1 rfl) ?_
        obtain ⟨t6, ht6, hF⟩ := m_bnd hF
        refine mSP (n := 1) (rest := [.long x4_123]) (As := [.int ((Model_s v) (20 : Int32).toNatClampNeg)]) CC hKN hGl hS (c_X8_factorial l E ((Model_s v) (20 : Int32).toNatClampNeg) t6 ht6) gX8_part_X8_factorial rfl ⟨rfl, rfl⟩ (by decide +kernel) ⟨Nat.le_of_ble_eq_true rfl, Nat.le_of_ble_eq_true rfl⟩ m_nil rfl hl.1 rfl (Nat.le_of_ble_eq_true rfl) ⟨Nat.zero_le _, Nat.zero_le _⟩ dX8_part_126 ?_
        refine W.eq (g2 := F0 m 129 ls [.long t6, .long x4_123]) rfl ?_
        refine lv_iload_n hx hb dX8_part_129 rfl (lv_at hl 0 rfl) ?_
        obtain ⟨t7, ht7, hF⟩ := m_bnd hF
        refine mSP (n := 3) (rest := []) (As := [.long x4_123, .long t6, .int x1]) CC hKN hGl hS (c_X8_lowest l E x4_123 t6 x1 t7 ht7) gX8_part_X8_lowest rfl ⟨rfl, rfl⟩ (by decide +kernel) ⟨Nat.le_of_ble_eq_true rfl, Nat.le_of_ble_eq_true rfl⟩ m_nil rfl hl.1 rfl (Nat.le_of_ble_eq_true rfl) ⟨Nat.zero_le _, Nat.zero_le _⟩ dX8_part_130 ?_
        refine W.eq (g2 := F0 m 133 ls [.long t7]) rfl ?_
        have hF := Option.some.inj hF
        subst hF
        rw [hQ]
        exact W.lret hx hb hr (fun t ht _ => ⟨⟨rfl, by rw [ht]; exact hP, hD⟩, hS.F ht⟩) hS.2.2 dX8_part_133
      clear hjd123
      have hL35 : ∀ (n : Nat) (y4_35 : Int64) (y6_35 : Int32) (wy_35 : ModelV) (H : Heap) (locs : List Loc) (ls : Array Slot), lp_X8_part_35 v x0 j123 n y4_35 y6_35 wy_35 = some t → va_P E.1 vwCl (Model_c E a wy_35) H → va_D A (Model_c E a wy_35) → va_S A s.heap H locs → lv_has ls 9 [(0, .ref (Modela_self a)), (1, .int x0), (2, .int x1), (3, .int ((Model_s v) (20 : Int32).toNatClampNeg)), (4, .long y4_35), (6, .int y6_35)] → W p l e_ rmX8_part s m args below meth c H locs 0 0 Q (F0 m 35 ls []) := by
        intro n
        induction n with
        | zero =>
          intro y4_35 y6_35 wy_35 H locs ls hF
          exact nomatch (show (none : Option (Int64 × ModelV)) = some t from hF)
        | succ n ih35 =>
          intro y4_35 y6_35 wy_35 H locs ls hF hP hD hS hl
          have hF : st_X8_part_35 v x0 j123 (lp_X8_part_35 v x0 j123 n) y4_35 y6_35 wy_35 = some t := hF
          unfold st_X8_part_35 at hF
          refine lv_iload hx hb dX8_part_35 (lv_at hl 5 rfl) ?_
          refine lv_aload_n hx hb dX8_part_37 rfl (lv_at hl 0 rfl) ?_
          obtain ⟨t8, ht8, hF⟩ := m_bnd hF
          refine mVP (ci := 8) (n := 0) (rest := [.int y6_35]) (As := []) CC hKN hGl hS (c_X8_everybody l E a wy_35 t8 ht8) gX8_part_X8_everybody rfl ⟨rfl, rfl⟩ (by decide +kernel) ⟨Nat.le_of_ble_eq_true rfl, Nat.le_of_ble_eq_true rfl⟩ hP rfl rfl rfl rfl hl.1 rfl (Nat.le_of_ble_eq_true rfl) ⟨Nat.zero_le _, Nat.zero_le _⟩ dX8_part_38 ?_
          refine W.eq (g2 := F0 m 41 ls [.int t8, .int y6_35]) rfl ?_
          refine lv_icmp_gt (tgt := 123) hx hb dX8_part_41 (by decide) (fun c9 => ?_) (fun c9 => ?_)
          · have hF := m_pos c9 hF
            exact hj123 y4_35 wy_35 H locs ls hF hP hD hS (lv_sub hl [2, 3, 4] rfl)
          · have hF := m_neg c9 hF
            refine lv_iload hx hb dX8_part_44 (lv_at hl 5 rfl) ?_
            refine lv_iload_n hx hb dX8_part_46 rfl (lv_at hl 1 rfl) ?_
            refine lv_ishr hx hb dX8_part_47 ?_
            refine lv_iconst (v := 1) hx hb dX8_part_48 (by decide) ?_
            refine lv_iand hx hb dX8_part_49 ?_
            obtain ⟨j117, hjd117, hF⟩ := m_jp hF
            have hj117 : ∀ (x4_117 : Int64) (wx_117 : ModelV) (H : Heap) (locs : List Loc) (ls : Array Slot), j117 x4_117 wx_117 = some t → va_P E.1 vwCl (Model_c E a wx_117) H → va_D A (Model_c E a wx_117) → va_S A s.heap H locs → lv_has ls 9 [(0, .ref (Modela_self a)), (1, .int x0), (2, .int x1), (3, .int ((Model_s v) (20 : Int32).toNatClampNeg)), (4, .long x4_117), (6, .int y6_35)] → W p l e_ rmX8_part s m args below meth c H locs 0 0 Q (F0 m 117 ls []) := by
              intro x4_117 wx_117 H locs ls hF hP hD hS hl
              rw [hjd117] at hF
              refine lv_iinc (v := (y6_35 + 1)) (lv' := [(6, .int (y6_35 + 1)), (0, .ref (Modela_self a)), (1, .int x0), (2, .int x1), (3, .int ((Model_s v) (20 : Int32).toNatClampNeg)), (4, .long x4_117)]) hx hb dX8_part_117 hl (k := 5) rfl rfl (by decide) rfl (fun ls hl => ?_)
              refine lv_goto (tgt := 35) hx hb dX8_part_120 (by decide) ?_
              exact ih35 x4_117 (y6_35 + 1) wx_117 H locs ls hF hP hD hS (lv_sub hl [1, 2, 3, 4, 5, 0] rfl)
            clear hjd117
            refine lv_if_ne (tgt := 117) hx hb dX8_part_50 (by decide) (fun c10 => ?_) (fun c10 => ?_)
            · have hF := m_pos c10 hF
              exact hj117 y4_35 wy_35 H locs ls hF hP hD hS (lv_sub hl [0, 1, 2, 3, 4, 5] rfl)
            · have hF := m_neg (fun n9 => n9 c10) hF
              refine lv_aload_n hx hb dX8_part_53 rfl (lv_at hl 0 rfl) ?_
              refine lv_iload hx hb dX8_part_54 (lv_at hl 5 rfl) ?_
              refine lv_iconst (v := 1) hx hb dX8_part_56 (by decide) ?_
              refine lv_iload_n hx hb dX8_part_57 rfl (lv_at hl 1 rfl) ?_
              refine lv_ishl hx hb dX8_part_58 ?_
              refine lv_ior hx hb dX8_part_59 ?_
              refine lv_iconst (v := 5) hx hb dX8_part_60 (by decide) ?_
              obtain ⟨t11, ht11, hF⟩ := m_bnd hF
              have hPc := hP
              have hDc := hD
              have hFc := va_free (wc := (Model_c E a wy_35)) hD hS hA [0, 1, 2, 3, 4, 5, 6, 7] rfl
              refine mVM (ci := 8) (n := 2) (rest := []) (As := [.int (y6_35 ||| ((1 : Int32) <<< (x0 &&& 31))), .int 5]) CC hKN hGl (c_X8_workBy l E a wy_35 (y6_35 ||| ((1 : Int32) <<< (x0 &&& 31))) 5 t11 ht11 _) gX8_part_X8_workBy rfl ⟨rfl, rfl⟩ (by decide +kernel) ⟨Nat.le_of_ble_eq_true rfl, Nat.le_of_ble_eq_true rfl⟩ hPc hDc m_nil m_nilA hS hFc rfl rfl rfl rfl hl.1 rfl (Nat.le_of_ble_eq_true rfl) ⟨Nat.zero_le _, Nat.zero_le _⟩ dX8_part_61 (fun H1 locs hP1 hD1 hz1 hk1 hS => ?_)
              have hP : va_P E.1 vwCl (Model_c E a t11.2) H1 := hP1
              have hD : va_D A (Model_c E a t11.2) := m_back hD1 hFc
              generalize H1 = H at hP hS ⊢
              refine W.eq (g2 := F0 m 64 ls [.int t11.1]) rfl ?_
              refine lv_istore (lv' := [(7, .int t11.1), (0, .ref (Modela_self a)), (1, .int x0), (2, .int x1), (3, .int ((Model_s v) (20 : Int32).toNatClampNeg)), (4, .long y4_35), (6, .int y6_35)]) hx hb dX8_part_64 hl (by decide) rfl (fun ls hl => ?_)
              refine lv_iload hx hb dX8_part_66 (lv_at hl 6 rfl) ?_
              obtain ⟨j82, hjd82, hF⟩ := m_jp hF
              have hj82 : ∀ (z0_82 : Int32) (wx_82 : ModelV) (H : Heap) (locs : List Loc) (ls : Array Slot), j82 z0_82 wx_82 = some t → va_P E.1 vwCl (Model_c E a wx_82) H → va_D A (Model_c E a wx_82) → va_S A s.heap H locs → lv_has ls 9 [(0, .ref (Modela_self a)), (1, .int x0), (2, .int x1), (3, .int ((Model_s v) (20 : Int32).toNatClampNeg)), (4, .long y4_35), (6, .int y6_35), (7, .int t11.1)] → W p l e_ rmX8_part s m args below meth c H locs 0 0 Q (F0 m 82 ls [.int z0_82]) := by
                intro z0_82 wx_82 H locs ls hF hP hD hS hl
                rw [hjd82] at hF
                refine lv_istore (lv' := [(8, .int z0_82), (0, .ref (Modela_self a)), (1, .int x0), (2, .int x1), (3, .int ((Model_s v) (20 : Int32).toNatClampNeg)), (4, .long y4_35), (6, .int y6_35), (7, .int t11.1)]) hx hb dX8_part_82 hl (by decide) rfl (fun ls hl => ?_)
                refine lv_lload hx hb dX8_part_84 (lv_at hl 5 rfl) ?_
                refine lv_iload hx hb dX8_part_86 (lv_at hl 6 rfl) ?_
                obtain ⟨t12, ht12, hF⟩ := m_bnd hF
                refine mSP (n := 1) (rest := [.long y4_35]) (As := [.int y6_35]) CC hKN hGl hS (c_X8_countOf l E y6_35 t12 ht12) gX8_part_X8_countOf rfl ⟨rfl, rfl⟩ (by decide +kernel) ⟨Nat.le_of_ble_eq_true rfl, Nat.le_of_ble_eq_true rfl⟩ m_nil rfl hl.1 rfl (Nat.le_of_ble_eq_true rfl) ⟨Nat.zero_le _, Nat.zero_le _⟩ dX8_part_88 ?_
                refine W.eq (g2 := F0 m 91 ls [.int t12, .long y4_35]) rfl ?_
                obtain ⟨t13, ht13, hF⟩ := m_bnd hF
                refine mSP (n := 1) (rest := [.long y4_35]) (As := [.int t12]) CC hKN hGl hS (c_X8_factorial l E t12 t13 ht13) gX8_part_X8_factorial rfl ⟨rfl, rfl⟩ (by decide +kernel) ⟨Nat.le_of_ble_eq_true rfl, Nat.le_of_ble_eq_true rfl⟩ m_nil rfl hl.1 rfl (Nat.le_of_ble_eq_true rfl) ⟨Nat.zero_le _, Nat.zero_le _⟩ dX8_part_91 ?_
                refine W.eq (g2 := F0 m 94 ls [.long t13, .long y4_35]) rfl ?_
                refine lv_iload_n hx hb dX8_part_94 rfl (lv_at hl 4 rfl) ?_
                refine lv_iconst (v := 1) hx hb dX8_part_95 (by decide) ?_
                refine lv_isub hx hb dX8_part_96 ?_
                refine lv_iload hx hb dX8_part_97 (lv_at hl 6 rfl) ?_
                obtain ⟨t14, ht14, hF⟩ := m_bnd hF
                refine mSP (n := 1) (rest := [.int (((Model_s v) (20 : Int32).toNatClampNeg) - 1), .long t13, .long y4_35]) (As := [.int y6_35]) CC hKN hGl hS (c_X8_countOf l E y6_35 t14 ht14) gX8_part_X8_countOf rfl ⟨rfl, rfl⟩ (by decide +kernel) ⟨Nat.le_of_ble_eq_true rfl, Nat.le_of_ble_eq_true rfl⟩ m_nil rfl hl.1 rfl (Nat.le_of_ble_eq_true rfl) ⟨Nat.zero_le _, Nat.zero_le _⟩ dX8_part_99 ?_
                refine W.eq (g2 := F0 m 102 ls [.int t14, .int (((Model_s v) (20 : Int32).toNatClampNeg) - 1), .long t13, .long y4_35]) rfl ?_
                refine lv_isub hx hb dX8_part_102 ?_
                obtain ⟨t15, ht15, hF⟩ := m_bnd hF
                refine mSP (n := 1) (rest := [.long t13, .long y4_35]) (As := [.int ((((Model_s v) (20 : Int32).toNatClampNeg) - 1) - t14)]) CC hKN hGl hS (c_X8_factorial l E ((((Model_s v) (20 : Int32).toNatClampNeg) - 1) - t14) t15 ht15) gX8_part_X8_factorial rfl ⟨rfl, rfl⟩ (by decide +kernel) ⟨Nat.le_of_ble_eq_true rfl, Nat.le_of_ble_eq_true rfl⟩ m_nil rfl hl.1 rfl (Nat.le_of_ble_eq_true rfl) ⟨Nat.zero_le _, Nat.zero_le _⟩ dX8_part_103 ?_
                refine W.eq (g2 := F0 m 106 ls [.long t15, .long t13, .long y4_35]) rfl ?_
                refine lv_lmul hx hb dX8_part_106 ?_
                refine lv_iload hx hb dX8_part_107 (lv_at hl 7 rfl) ?_
                refine lv_iload hx hb dX8_part_109 (lv_at hl 0 rfl) ?_
                refine lv_isub hx hb dX8_part_111 ?_
                refine lv_i2l (v := ((t11.1 - z0_82)).toInt64) hx hb dX8_part_112 rfl ?_
                refine lv_lmul hx hb dX8_part_113 ?_
                refine lv_ladd hx hb dX8_part_114 ?_
                refine lv_lstore (lv' := [(4, .long (y4_35 + ((t13 * t15) * ((t11.1 - z0_82)).toInt64))), (8, .int z0_82), (0, .ref (Modela_self a)), (1, .int x0), (2, .int x1), (3, .int ((Model_s v) (20 : Int32).toNatClampNeg)), (6, .int y6_35), (7, .int t11.1)]) hx hb dX8_part_115 hl (by decide) rfl (fun ls hl => ?_)
                exact hj117 (y4_35 + ((t13 * t15) * ((t11.1 - z0_82)).toInt64)) wx_82 H locs ls hF hP hD hS (lv_sub hl [2, 3, 4, 5, 0, 6] rfl)
              clear hjd82
              refine lv_if_ne (tgt := 75) hx hb dX8_part_68 (by decide) (fun c16 => ?_) (fun c16 => ?_)
              · have hF := m_pos c16 hF
                refine lv_aload_n hx hb dX8_part_75 rfl (lv_at hl 1 rfl) ?_
                refine lv_iload hx hb dX8_part_76 (lv_at hl 6 rfl) ?_
                refine lv_iconst (v := 5) hx hb dX8_part_78 (by decide) ?_
                obtain ⟨t17, ht17, hF⟩ := m_bnd hF
                have hPc := hP
                have hDc := hD
                have hFc := va_free (wc := (Model_c E a t11.2)) hD hS hA [0, 1, 2, 3, 4, 5, 6, 7] rfl
                refine mVM (ci := 8) (n := 2) (rest := []) (As := [.int y6_35, .int 5]) CC hKN hGl (c_X8_workBy l E a t11.2 y6_35 5 t17 ht17 _) gX8_part_X8_workBy rfl ⟨rfl, rfl⟩ (by decide +kernel) ⟨Nat.le_of_ble_eq_true rfl, Nat.le_of_ble_eq_true rfl⟩ hPc hDc m_nil m_nilA hS hFc rfl rfl rfl rfl hl.1 rfl (Nat.le_of_ble_eq_true rfl) ⟨Nat.zero_le _, Nat.zero_le _⟩ dX8_part_79 (fun H1 locs hP1 hD1 hz1 hk1 hS => ?_)
                have hP : va_P E.1 vwCl (Model_c E a t17.2) H1 := hP1
                have hD : va_D A (Model_c E a t17.2) := m_back hD1 hFc
                generalize H1 = H at hP hS ⊢
                refine W.eq (g2 := F0 m 82 ls [.int t17.1]) rfl ?_
                exact hj82 t17.1 t17.2 H locs ls hF hP hD hS (lv_sub hl [1, 2, 3, 4, 5, 6, 0] rfl)
              · have hF := m_neg (fun n9 => n9 c16) hF
                refine lv_iconst (v := 0) hx hb dX8_part_71 (by decide) ?_
                refine lv_goto (tgt := 82) hx hb dX8_part_72 (by decide) ?_
                exact hj82 0 t11.2 H locs ls hF hP hD hS (lv_sub hl [1, 2, 3, 4, 5, 6, 0] rfl)
      exact hL35 m_N (0 : Int64) 0 v H locs ls hF hP hD hS (lv_sub hl [3, 4, 5, 2, 1, 0] rfl)
    · have hF := m_neg (fun n9 => n9 c4) hF
      exact hj17 H locs ls hF hP hD hS (lv_sub hl [] rfl)

abbrev rm_Rd (d : Nat) : Room := { frames := d + 6, cells := 0, slots := 0, locals := d * 23 + 134 }
set_option maxRecDepth 100000 in
set_option maxHeartbeats 400000 in
theorem cg_Rd (l : Launch) (E : mE) : ∀ d : Nat, (∀ (a : ReaderA) (v : ReaderV) (x0 : Int32) (t : (Int32 × ReaderV)) (_ : fn_X4_readEither d v x0 = some t) (sz : Nat), Met l yX4_readEither wsX4_readEither (rm_Rd d) (mPm E [.ref (Readera_self a), .int x0] sz ((Reader_c E a v)) (([] : va_W))) (mSm E (some (.int t.1)) ((Reader_c E a t.2)) (va_A ((Reader_c E a v)) sz)) 0 0 (va_A ((Reader_c E a v)) sz)) ∧ (∀ (a : ReaderA) (v : ReaderV) (x0 : Int32) (t : (Int32 × ReaderV)) (_ : fn_X4_readPart d v x0 = some t) (sz : Nat), Met l yX4_readPart wsX4_readPart (rm_Rd d) (mPm E [.ref (Readera_self a), .int x0] sz ((Reader_c E a v)) (([] : va_W))) (mSm E (some (.int t.1)) ((Reader_c E a t.2)) (va_A ((Reader_c E a v)) sz)) 0 0 (va_A ((Reader_c E a v)) sz)) := by
  intro d
  induction d with
  | zero =>
    refine ⟨?_, ?_⟩
    · intro a v x0 t hF
      exact nomatch (show (none : Option (Int32 × ReaderV)) = some t from hF)
    · intro a v x0 t hF
      exact nomatch (show (none : Option (Int32 × ReaderV)) = some t from hF)
  | succ d ihd =>
    refine ⟨?_, ?_⟩
    · intro a v x0 t hF sz
      refine mOfM (cc := cX4_readEither) (maxL := 4) (ret := (some .boolean)) (by decide) rfl (Nat.le_of_ble_eq_true rfl) ?_
      intro p e_ s m args below meth c Q A hQ CC hr hlocks hin hA hP hD hKN hGl hR0 hRA ls hl
      have hS : va_S A s.heap s.heap [] := va_S.rf
      have hK := hKN.1
      have hx := CC.1
      have hb := CC.2.1
      have hml := CC.2.2.1
      have hown : s.vm.findClass RX4 = some m.cls := CC.2.2.2.1
      have hts := CC.2.2.2.2
      have hl : lv_has ls 4 [(0, .ref (Readera_self a)), (1, .int x0)] := hl
      have k0 := hts (.fieldLink RX4 35 "OneDidAll$Reader" "size" "I") (by decide +kernel)
      have k1 := (show ∀ w ∈ u_ws RX4 TX4 5, w ∈ wsX4_readEither by decide +kernel)
      have k2 := hts (.fieldLink RX4 21 "OneDidAll$Reader" "lesson" "LOneDidAll$Lesson;") (by decide +kernel)
      have hP : va_P E.1 vwCl (Reader_c E a v) s.heap := hP
      obtain ⟨H, hH⟩ : ∃ H, H = s.heap := ⟨_, rfl⟩
      obtain ⟨locs, hlc⟩ : ∃ z : List Loc, z = [] := ⟨_, rfl⟩
      rw [← hH] at hP
      rw [← hlc] at hS
      have hS : va_S A s.heap H locs := by rw [hH]; exact hS
      rw [← hH, ← hlc]
      have hF : bd_X4_readEither (gr_Rd d).1 (gr_Rd d).2 v x0 = some t := hF
      unfold bd_X4_readEither at hF
      refine lv_iconst (v := 0) hx hb dX4_readEither_0 (by decide) ?_
      refine lv_istore_n (lv' := [(2, .int 0), (0, .ref (Readera_self a)), (1, .int x0)]) hx hb dX4_readEither_1 rfl hl (by decide) rfl (fun ls hl => ?_)
      obtain ⟨j23, hjd23, hF⟩ := m_jp hF
      have hj23 : ∀ (wx_23 : ReaderV) (H : Heap) (locs : List Loc) (ls : Array Slot), j23 wx_23 = some t → va_P E.1 vwCl (Reader_c E a wx_23) H → va_D A (Reader_c E a wx_23) → va_S A s.heap H locs → lv_has ls 4 [] → W p l e_ (rm_Rd (d + 1)) s m args below meth c H locs 0 0 Q (F0 m 23 ls []) := by
        intro wx_23 H locs ls hF hP hD hS hl
        rw [hjd23] at hF
        refine lv_goto (tgt := 100) hx hb dX4_readEither_23 (by decide) ?_
        refine lv_iconst (v := 1) hx hb dX4_readEither_100 (by decide) ?_
        have hF := Option.some.inj hF
        subst hF
        rw [hQ]
        exact W.zret hx hb hr rfl (fun t ht _ => ⟨⟨rfl, by rw [ht]; exact hP, hD⟩, hS.F ht⟩) hS.2.2 dX4_readEither_101
      clear hjd23
      have hL2 : ∀ (n : Nat) (y2_2 : Int32) (wy_2 : ReaderV) (H : Heap) (locs : List Loc) (ls : Array Slot), lp_X4_readEither_2 (gr_Rd d).2 x0 j23 n y2_2 wy_2 = some t → va_P E.1 vwCl (Reader_c E a wy_2) H → va_D A (Reader_c E a wy_2) → va_S A s.heap H locs → lv_has ls 4 [(0, .ref (Readera_self a)), (1, .int x0), (2, .int y2_2)] → W p l e_ (rm_Rd (d + 1)) s m args below meth c H locs 0 0 Q (F0 m 2 ls []) := by
        intro n
        induction n with
        | zero =>
          intro y2_2 wy_2 H locs ls hF
          exact nomatch (show (none : Option (Int32 × ReaderV)) = some t from hF)
        | succ n ih2 =>
          intro y2_2 wy_2 H locs ls hF hP hD hS hl
          have hF : st_X4_readEither_2 (gr_Rd d).2 x0 j23 (lp_X4_readEither_2 (gr_Rd d).2 x0 j23 n) y2_2 wy_2 = some t := hF
          unfold st_X4_readEither_2 at hF
          refine lv_iload_n hx hb dX4_readEither_2 rfl (lv_at hl 2 rfl) ?_
          refine lv_aload_n hx hb dX4_readEither_3 rfl (lv_at hl 0 rfl) ?_
          refine va_get (D := E.1) (ci := 4) (v := .int (Reader_size wy_2)) (C := RX4) (T := TX4) (N := 5) hx hb hts k1 hown hK hP 0 rfl rfl 1 (by decide) k0 (fun _ h9 => h9) rfl dX4_readEither_4 ?_
          refine lv_icmp_gt (tgt := 100) hx hb dX4_readEither_7 (by decide) (fun c1 => ?_) (fun c1 => ?_)
          · have hF := m_pos c1 hF
            refine lv_iconst (v := 1) hx hb dX4_readEither_100 (by decide) ?_
            have hF := Option.some.inj hF
            subst hF
            rw [hQ]
            exact W.zret hx hb hr rfl (fun t ht _ => ⟨⟨rfl, by rw [ht]; exact hP, hD⟩, hS.F ht⟩) hS.2.2 dX4_readEither_101
          · have hF := m_neg c1 hF
            refine lv_iload_n hx hb dX4_readEither_10 rfl (lv_at hl 2 rfl) ?_
            obtain ⟨j26, hjd26, hF⟩ := m_jp hF
            have hj26 : ∀ (wx_26 : ReaderV) (H : Heap) (locs : List Loc) (ls : Array Slot), j26 wx_26 = some t → va_P E.1 vwCl (Reader_c E a wx_26) H → va_D A (Reader_c E a wx_26) → va_S A s.heap H locs → lv_has ls 4 [(0, .ref (Readera_self a)), (1, .int x0), (2, .int y2_2)] → W p l e_ (rm_Rd (d + 1)) s m args below meth c H locs 0 0 Q (F0 m 26 ls []) := by
              intro wx_26 H locs ls hF hP hD hS hl
              rw [hjd26] at hF
              refine lv_iconst (v := 0) hx hb dX4_readEither_26 (by decide) ?_
              refine lv_istore_n (lv' := [(3, .int 0), (0, .ref (Readera_self a)), (1, .int x0), (2, .int y2_2)]) hx hb dX4_readEither_27 rfl hl (by decide) rfl (fun ls hl => ?_)
              obtain ⟨j81, hjd81, hF⟩ := m_jp hF
              have hj81 : ∀ (wx_81 : ReaderV) (H : Heap) (locs : List Loc) (ls : Array Slot), j81 wx_81 = some t → va_P E.1 vwCl (Reader_c E a wx_81) H → va_D A (Reader_c E a wx_81) → va_S A s.heap H locs → lv_has ls 4 [(0, .ref (Readera_self a)), (1, .int x0), (2, .int y2_2)] → W p l e_ (rm_Rd (d + 1)) s m args below meth c H locs 0 0 Q (F0 m 81 ls []) := by
                intro wx_81 H locs ls hF hP hD hS hl
                rw [hjd81] at hF
                refine lv_iload_n hx hb dX4_readEither_81 rfl (lv_at hl 2 rfl) ?_
                obtain ⟨j94, hjd94, hF⟩ := m_jp hF
                have hj94 : ∀ (wx_94 : ReaderV) (H : Heap) (locs : List Loc) (ls : Array Slot), j94 wx_94 = some t → va_P E.1 vwCl (Reader_c E a wx_94) H → va_D A (Reader_c E a wx_94) → va_S A s.heap H locs → lv_has ls 4 [(0, .ref (Readera_self a)), (1, .int x0), (2, .int y2_2)] → W p l e_ (rm_Rd (d + 1)) s m args below meth c H locs 0 0 Q (F0 m 94 ls []) := by
                  intro wx_94 H locs ls hF hP hD hS hl
                  rw [hjd94] at hF
                  refine lv_iinc (v := (y2_2 + 1)) (lv' := [(2, .int (y2_2 + 1)), (0, .ref (Readera_self a)), (1, .int x0)]) hx hb dX4_readEither_94 hl (k := 2) rfl rfl (by decide) rfl (fun ls hl => ?_)
                  refine lv_goto (tgt := 2) hx hb dX4_readEither_97 (by decide) ?_
                  exact ih2 (y2_2 + 1) wx_94 H locs ls hF hP hD hS (lv_sub hl [1, 2, 0] rfl)
                clear hjd94
                refine lv_if_le (tgt := 94) hx hb dX4_readEither_82 (by decide) (fun c2 => ?_) (fun c2 => ?_)
                · have hF := m_pos c2 hF
                  exact hj94 wx_81 H locs ls hF hP hD hS (lv_sub hl [0, 1, 2] rfl)
                · have hF := m_neg c2 hF
                  refine lv_aload_n hx hb dX4_readEither_85 rfl (lv_at hl 0 rfl) ?_
                  refine va_get (D := E.1) (ci := 4) (v := .ref (Lessona_self (Readera_lesson a))) (C := RX4) (T := TX4) (N := 5) hx hb hts k1 hown hK hP 0 rfl rfl 4 (by decide) k2 (fun _ h9 => h9) rfl dX4_readEither_86 ?_
                  refine lv_bipush (v := (-3)) hx hb dX4_readEither_89 (by decide) ?_
                  obtain ⟨t3, ht3, hF⟩ := m_bnd hF
                  have hpm : List.Perm (Reader_c E a wx_81) ((Lesson_c E (Readera_lesson a) (Reader_lesson wx_81)) ++ ((List.take 2 (Reader_c E a wx_81)) ++ (List.drop 6 (Reader_c E a wx_81)))) := m_p1 (A := (List.take 2 (Reader_c E a wx_81))) (m := (Lesson_c E (Readera_lesson a) (Reader_lesson wx_81))) (C := (List.drop 6 (Reader_c E a wx_81)))
                  obtain ⟨hPc, hDc, hFc⟩ := m_pre hpm hP hD hS hA
                  refine mVM (ci := 3) (n := 1) (rest := []) (As := [.int (-3)]) CC hKN hGl (c_X3_addCode l E (Readera_lesson a) (Reader_lesson wx_81) (-3) t3 ht3 _) gX4_readEither_X3_addCode rfl ⟨rfl, rfl⟩ (by decide +kernel) ⟨by show 0 + 1 ≤ d + 1 + 6; omega, by show 8 + (2 + 11) + 0 ≤ (d + 1) * 23 + 134; omega⟩ hPc hDc m_nil m_nilA hS hFc rfl rfl rfl rfl hl.1 rfl (Nat.le_of_ble_eq_true rfl) ⟨Nat.zero_le _, Nat.zero_le _⟩ dX4_readEither_91 (fun H1 locs hP1 hD1 hz1 hk1 hS => ?_)
                  have hpn : List.Perm (Reader_c E a (Reader_lesson_s wx_81 t3)) ((Lesson_c E (Readera_lesson a) t3) ++ ((List.take 2 (Reader_c E a wx_81)) ++ (List.drop 6 (Reader_c E a wx_81)))) := m_p1 (A := (List.take 2 (Reader_c E a wx_81))) (m := (Lesson_c E (Readera_lesson a) t3)) (C := (List.drop 6 (Reader_c E a wx_81)))
                  obtain ⟨hP, hD⟩ := m_spl hpm hpn hP hD hk1 hFc hP1 hD1
                  generalize H1 = H at hP hS ⊢
                  refine W.eq (g2 := F0 m 94 ls []) rfl ?_
                  exact hj94 (Reader_lesson_s wx_81 t3) H locs ls hF hP hD hS (lv_sub hl [0, 1, 2] rfl)
              clear hjd81
              obtain ⟨j49, hjd49, hF⟩ := m_jp hF
              have hj49 : ∀ (wx_49 : ReaderV) (H : Heap) (locs : List Loc) (ls : Array Slot), j49 wx_49 = some t → va_P E.1 vwCl (Reader_c E a wx_49) H → va_D A (Reader_c E a wx_49) → va_S A s.heap H locs → lv_has ls 4 [(0, .ref (Readera_self a)), (1, .int x0), (2, .int y2_2)] → W p l e_ (rm_Rd (d + 1)) s m args below meth c H locs 0 0 Q (F0 m 49 ls []) := by
                intro wx_49 H locs ls hF hP hD hS hl
                rw [hjd49] at hF
                refine lv_goto (tgt := 81) hx hb dX4_readEither_49 (by decide) ?_
                exact hj81 wx_49 H locs ls hF hP hD hS (lv_sub hl [0, 1, 2] rfl)
              clear hjd49
              have hL28 : ∀ (n : Nat) (y3_28 : Int32) (wy_28 : ReaderV) (H : Heap) (locs : List Loc) (ls : Array Slot), lp_X4_readEither_28 (gr_Rd d).2 x0 j81 j49 n y3_28 wy_28 = some t → va_P E.1 vwCl (Reader_c E a wy_28) H → va_D A (Reader_c E a wy_28) → va_S A s.heap H locs → lv_has ls 4 [(0, .ref (Readera_self a)), (1, .int x0), (2, .int y2_2), (3, .int y3_28)] → W p l e_ (rm_Rd (d + 1)) s m args below meth c H locs 0 0 Q (F0 m 28 ls []) := by
                intro n
                induction n with
                | zero =>
                  intro y3_28 wy_28 H locs ls hF
                  exact nomatch (show (none : Option (Int32 × ReaderV)) = some t from hF)
                | succ n ih28 =>
                  intro y3_28 wy_28 H locs ls hF hP hD hS hl
                  have hF : st_X4_readEither_28 (gr_Rd d).2 x0 j81 j49 (lp_X4_readEither_28 (gr_Rd d).2 x0 j81 j49 n) y3_28 wy_28 = some t := hF
                  unfold st_X4_readEither_28 at hF
                  refine lv_iload_n hx hb dX4_readEither_28 rfl (lv_at hl 3 rfl) ?_
                  refine lv_aload_n hx hb dX4_readEither_29 rfl (lv_at hl 0 rfl) ?_
                  refine va_get (D := E.1) (ci := 4) (v := .int (Reader_size wy_28)) (C := RX4) (T := TX4) (N := 5) hx hb hts k1 hown hK hP 0 rfl rfl 1 (by decide) k0 (fun _ h9 => h9) rfl dX4_readEither_30 ?_
                  refine lv_icmp_gt (tgt := 81) hx hb dX4_readEither_33 (by decide) (fun c4 => ?_) (fun c4 => ?_)
                  · have hF := m_pos c4 hF
                    exact hj81 wy_28 H locs ls hF hP hD hS (lv_sub hl [0, 1, 2] rfl)
                  · have hF := m_neg c4 hF
                    refine lv_iload_n hx hb dX4_readEither_36 rfl (lv_at hl 3 rfl) ?_
                    obtain ⟨j52, hjd52, hF⟩ := m_jp hF
                    have hj52 : ∀ (wx_52 : ReaderV) (H : Heap) (locs : List Loc) (ls : Array Slot), j52 wx_52 = some t → va_P E.1 vwCl (Reader_c E a wx_52) H → va_D A (Reader_c E a wx_52) → va_S A s.heap H locs → lv_has ls 4 [(0, .ref (Readera_self a)), (1, .int x0), (2, .int y2_2), (3, .int y3_28)] → W p l e_ (rm_Rd (d + 1)) s m args below meth c H locs 0 0 Q (F0 m 52 ls []) := by
                      intro wx_52 H locs ls hF hP hD hS hl
                      rw [hjd52] at hF
                      refine lv_aload_n hx hb dX4_readEither_52 rfl (lv_at hl 0 rfl) ?_
                      refine lv_iload_n hx hb dX4_readEither_53 rfl (lv_at hl 1 rfl) ?_
                      obtain ⟨t5, ht5, hF⟩ := m_bnd hF
                      have hPc := hP
                      have hDc := hD
                      have hFc := va_free (wc := (Reader_c E a wx_52)) hD hS hA [0, 1, 2, 3, 4, 5] rfl
                      refine mVM (ci := 4) (n := 1) (rest := []) (As := [.int x0]) CC hKN hGl (ihd.2 a wx_52 x0 t5 ht5 _) gX4_readEither_X4_readPart rfl ⟨rfl, rfl⟩ (by decide +kernel) ⟨by show d + 6 + 1 ≤ d + 1 + 6; omega, by show 8 + (4 + 11) + (d * 23 + 134) ≤ (d + 1) * 23 + 134; omega⟩ hPc hDc m_nil m_nilA hS hFc rfl rfl rfl rfl hl.1 rfl (Nat.le_of_ble_eq_true rfl) ⟨Nat.zero_le _, Nat.zero_le _⟩ dX4_readEither_54 (fun H1 locs hP1 hD1 hz1 hk1 hS => ?_)
                      have hP : va_P E.1 vwCl (Reader_c E a t5.2) H1 := hP1
                      have hD : va_D A (Reader_c E a t5.2) := m_back hD1 hFc
                      generalize H1 = H at hP hS ⊢
                      refine W.eq (g2 := F0 m 57 ls [.int t5.1]) rfl ?_
                      refine lv_if_ne (tgt := 62) hx hb dX4_readEither_57 (by decide) (fun c6 => ?_) (fun c6 => ?_)
                      · have hF := m_pos c6 hF
                        refine lv_iload_n hx hb dX4_readEither_62 rfl (lv_at hl 3 rfl) ?_
                        obtain ⟨j75, hjd75, hF⟩ := m_jp hF
                        have hj75 : ∀ (wx_75 : ReaderV) (H : Heap) (locs : List Loc) (ls : Array Slot), j75 wx_75 = some t → va_P E.1 vwCl (Reader_c E a wx_75) H → va_D A (Reader_c E a wx_75) → va_S A s.heap H locs → lv_has ls 4 [(0, .ref (Readera_self a)), (1, .int x0), (2, .int y2_2), (3, .int y3_28)] → W p l e_ (rm_Rd (d + 1)) s m args below meth c H locs 0 0 Q (F0 m 75 ls []) := by
                          intro wx_75 H locs ls hF hP hD hS hl
                          rw [hjd75] at hF
                          refine lv_iinc (v := (y3_28 + 1)) (lv' := [(3, .int (y3_28 + 1)), (0, .ref (Readera_self a)), (1, .int x0), (2, .int y2_2)]) hx hb dX4_readEither_75 hl (k := 3) rfl rfl (by decide) rfl (fun ls hl => ?_)
                          refine lv_goto (tgt := 28) hx hb dX4_readEither_78 (by decide) ?_
                          exact ih28 (y3_28 + 1) wx_75 H locs ls hF hP hD hS (lv_sub hl [1, 2, 3, 0] rfl)
                        clear hjd75
                        refine lv_if_le (tgt := 75) hx hb dX4_readEither_63 (by decide) (fun c7 => ?_) (fun c7 => ?_)
                        · have hF := m_pos c7 hF
                          exact hj75 t5.2 H locs ls hF hP hD hS (lv_sub hl [0, 1, 2, 3] rfl)
                        · have hF := m_neg c7 hF
                          refine lv_aload_n hx hb dX4_readEither_66 rfl (lv_at hl 0 rfl) ?_
                          refine va_get (D := E.1) (ci := 4) (v := .ref (Lessona_self (Readera_lesson a))) (C := RX4) (T := TX4) (N := 5) hx hb hts k1 hown hK hP 0 rfl rfl 4 (by decide) k2 (fun _ h9 => h9) rfl dX4_readEither_67 ?_
                          refine lv_bipush (v := (-2)) hx hb dX4_readEither_70 (by decide) ?_
                          obtain ⟨t8, ht8, hF⟩ := m_bnd hF
                          have hpm : List.Perm (Reader_c E a t5.2) ((Lesson_c E (Readera_lesson a) (Reader_lesson t5.2)) ++ ((List.take 2 (Reader_c E a t5.2)) ++ (List.drop 6 (Reader_c E a t5.2)))) := m_p1 (A := (List.take 2 (Reader_c E a t5.2))) (m := (Lesson_c E (Readera_lesson a) (Reader_lesson t5.2))) (C := (List.drop 6 (Reader_c E a t5.2)))
                          obtain ⟨hPc, hDc, hFc⟩ := m_pre hpm hP hD hS hA
                          refine mVM (ci := 3) (n := 1) (rest := []) (As := [.int (-2)]) CC hKN hGl (c_X3_addCode l E (Readera_lesson a) (Reader_lesson t5.2) (-2) t8 ht8 _) gX4_readEither_X3_addCode rfl ⟨rfl, rfl⟩ (by decide +kernel) ⟨by show 0 + 1 ≤ d + 1 + 6; omega, by show 8 + (2 + 11) + 0 ≤ (d + 1) * 23 + 134; omega⟩ hPc hDc m_nil m_nilA hS hFc rfl rfl rfl rfl hl.1 rfl (Nat.le_of_ble_eq_true rfl) ⟨Nat.zero_le _, Nat.zero_le _⟩ dX4_readEither_72 (fun H1 locs hP1 hD1 hz1 hk1 hS => ?_)
                          have hpn : List.Perm (Reader_c E a (Reader_lesson_s t5.2 t8)) ((Lesson_c E (Readera_lesson a) t8) ++ ((List.take 2 (Reader_c E a t5.2)) ++ (List.drop 6 (Reader_c E a t5.2)))) := m_p1 (A := (List.take 2 (Reader_c E a t5.2))) (m := (Lesson_c E (Readera_lesson a) t8)) (C := (List.drop 6 (Reader_c E a t5.2)))
                          obtain ⟨hP, hD⟩ := m_spl hpm hpn hP hD hk1 hFc hP1 hD1
                          generalize H1 = H at hP hS ⊢
                          refine W.eq (g2 := F0 m 75 ls []) rfl ?_
                          exact hj75 (Reader_lesson_s t5.2 t8) H locs ls hF hP hD hS (lv_sub hl [0, 1, 2, 3] rfl)
                      · have hF := m_neg (fun n9 => n9 c6) hF
                        refine lv_iconst (v := 0) hx hb dX4_readEither_60 (by decide) ?_
                        have hF := Option.some.inj hF
                        subst hF
                        rw [hQ]
                        exact W.zret hx hb hr rfl (fun t ht _ => ⟨⟨rfl, by rw [ht]; exact hP, hD⟩, hS.F ht⟩) hS.2.2 dX4_readEither_61
                    clear hjd52
                    refine lv_if_le (tgt := 52) hx hb dX4_readEither_37 (by decide) (fun c9 => ?_) (fun c9 => ?_)
                    · have hF := m_pos c9 hF
                      exact hj52 wy_28 H locs ls hF hP hD hS (lv_sub hl [0, 1, 2, 3] rfl)
                    · have hF := m_neg c9 hF
                      refine lv_aload_n hx hb dX4_readEither_40 rfl (lv_at hl 0 rfl) ?_
                      refine lv_bipush (v := 38) hx hb dX4_readEither_41 (by decide) ?_
                      obtain ⟨t10, ht10, hF⟩ := m_bnd hF
                      have hPc := hP
                      have hDc := hD
                      have hFc := va_free (wc := (Reader_c E a wy_28)) hD hS hA [0, 1, 2, 3, 4, 5] rfl
                      refine mVM (ci := 4) (n := 1) (rest := []) (As := [.int 38]) CC hKN hGl (c_X4_take l E a wy_28 38 t10 ht10 _) gX4_readEither_X4_take rfl ⟨rfl, rfl⟩ (by decide +kernel) ⟨by show 0 + 1 ≤ d + 1 + 6; omega, by show 8 + (2 + 11) + 0 ≤ (d + 1) * 23 + 134; omega⟩ hPc hDc m_nil m_nilA hS hFc rfl rfl rfl rfl hl.1 rfl (Nat.le_of_ble_eq_true rfl) ⟨Nat.zero_le _, Nat.zero_le _⟩ dX4_readEither_43 (fun H1 locs hP1 hD1 hz1 hk1 hS => ?_)
                      have hP : va_P E.1 vwCl (Reader_c E a t10.2) H1 := hP1
                      have hD : va_D A (Reader_c E a t10.2) := m_back hD1 hFc
                      generalize H1 = H at hP hS ⊢
                      refine W.eq (g2 := F0 m 46 ls [.int t10.1]) rfl ?_
                      refine lv_if_ne (tgt := 52) hx hb dX4_readEither_46 (by decide) (fun c11 => ?_) (fun c11 => ?_)
                      · have hF := m_pos c11 hF
                        exact hj52 t10.2 H locs ls hF hP hD hS (lv_sub hl [0, 1, 2, 3] rfl)
                      · have hF := m_neg (fun n9 => n9 c11) hF
                        exact hj49 t10.2 H locs ls hF hP hD hS (lv_sub hl [0, 1, 2] rfl)
              exact hL28 m_N 0 wx_26 H locs ls hF hP hD hS (lv_sub hl [1, 2, 3, 0] rfl)
            clear hjd26
            refine lv_if_le (tgt := 26) hx hb dX4_readEither_11 (by decide) (fun c12 => ?_) (fun c12 => ?_)
            · have hF := m_pos c12 hF
              exact hj26 wy_2 H locs ls hF hP hD hS (lv_sub hl [0, 1, 2] rfl)
            · have hF := m_neg c12 hF
              refine lv_aload_n hx hb dX4_readEither_14 rfl (lv_at hl 0 rfl) ?_
              refine lv_bipush (v := 124) hx hb dX4_readEither_15 (by decide) ?_
              obtain ⟨t13, ht13, hF⟩ := m_bnd hF
              have hPc := hP
              have hDc := hD
              have hFc := va_free (wc := (Reader_c E a wy_2)) hD hS hA [0, 1, 2, 3, 4, 5] rfl
              refine mVM (ci := 4) (n := 1) (rest := []) (As := [.int 124]) CC hKN hGl (c_X4_take l E a wy_2 124 t13 ht13 _) gX4_readEither_X4_take rfl ⟨rfl, rfl⟩ (by decide +kernel) ⟨by show 0 + 1 ≤ d + 1 + 6; omega, by show 8 + (2 + 11) + 0 ≤ (d + 1) * 23 + 134; omega⟩ hPc hDc m_nil m_nilA hS hFc rfl rfl rfl rfl hl.1 rfl (Nat.le_of_ble_eq_true rfl) ⟨Nat.zero_le _, Nat.zero_le _⟩ dX4_readEither_17 (fun H1 locs hP1 hD1 hz1 hk1 hS => ?_)
              have hP : va_P E.1 vwCl (Reader_c E a t13.2) H1 := hP1
              have hD : va_D A (Reader_c E a t13.2) := m_back hD1 hFc
              generalize H1 = H at hP hS ⊢
              refine W.eq (g2 := F0 m 20 ls [.int t13.1]) rfl ?_
              refine lv_if_ne (tgt := 26) hx hb dX4_readEither_20 (by decide) (fun c14 => ?_) (fun c14 => ?_)
              · have hF := m_pos c14 hF
                exact hj26 t13.2 H locs ls hF hP hD hS (lv_sub hl [0, 1, 2] rfl)
              · have hF := m_neg (fun n9 => n9 c14) hF
                exact hj23 t13.2 H locs ls hF hP hD hS (lv_sub hl [] rfl)
      exact hL2 m_N 0 v H locs ls hF hP hD hS (lv_sub hl [1, 2, 0] rfl)
    · intro a v x0 t hF sz
      refine mOfM (cc := cX4_readPart) (maxL := 4) (ret := (some .boolean)) (by decide) rfl (Nat.le_of_ble_eq_true rfl) ?_
      intro p e_ s m args below meth c Q A hQ CC hr hlocks hin hA hP hD hKN hGl hR0 hRA ls hl
      have hS : va_S A s.heap s.heap [] := va_S.rf
      have hK := hKN.1
      have hx := CC.1
      have hb := CC.2.1
      have hml := CC.2.2.1
      have hown : s.vm.findClass RX4 = some m.cls := CC.2.2.2.1
      have hts := CC.2.2.2.2
      have hl : lv_has ls 4 [(0, .ref (Readera_self a)), (1, .int x0)] := hl
      have k0 := (hKN.2.2.2.1 ("OneDidAll$Reader", 81, "pkvshw", 0) (by decide +kernel))
      have k1 := (hKN.2.2.2.1 ("OneDidAll$Reader", 87, "<=>", 1) (by decide +kernel))
      have k2 := hts (.fieldLink RX4 21 "OneDidAll$Reader" "lesson" "LOneDidAll$Lesson;") (by decide +kernel)
      have k3 := (show ∀ w ∈ u_ws RX4 TX4 5, w ∈ wsX4_readPart by decide +kernel)
      have k4 := hts (.fieldLink RX4 15 "OneDidAll$Reader" "number" "I") (by decide +kernel)
      have hP : va_P E.1 vwCl (Reader_c E a v) s.heap := hP
      obtain ⟨H, hH⟩ : ∃ H, H = s.heap := ⟨_, rfl⟩
      obtain ⟨locs, hlc⟩ : ∃ z : List Loc, z = [] := ⟨_, rfl⟩
      rw [← hH] at hP
      rw [← hlc] at hS
      have hS : va_S A s.heap H locs := by rw [hH]; exact hS
      rw [← hH, ← hlc]
      have hF : bd_X4_readPart (gr_Rd d).1 (gr_Rd d).2 v x0 = some t := hF
      unfold bd_X4_readPart at hF
      refine lv_iload_n hx hb dX4_readPart_0 rfl (lv_at hl 1 rfl) ?_
      refine lv_iconst (v := 5) hx hb dX4_readPart_1 (by decide) ?_
      obtain ⟨j36, hjd36, hF⟩ := m_jp hF
      have hj36 : ∀ (wx_36 : ReaderV) (H : Heap) (locs : List Loc) (ls : Array Slot), j36 wx_36 = some t → va_P E.1 vwCl (Reader_c E a wx_36) H → va_D A (Reader_c E a wx_36) → va_S A s.heap H locs → lv_has ls 4 [(0, .ref (Readera_self a)), (1, .int x0)] → W p l e_ (rm_Rd (d + 1)) s m args below meth c H locs 0 0 Q (F0 m 36 ls []) := by
        intro wx_36 H locs ls hF hP hD hS hl
        rw [hjd36] at hF
        refine lv_iload_n hx hb dX4_readPart_36 rfl (lv_at hl 1 rfl) ?_
        refine lv_iconst (v := 5) hx hb dX4_readPart_37 (by decide) ?_
        obtain ⟨j75, hjd75, hF⟩ := m_jp hF
        have hj75 : ∀ (wx_75 : ReaderV) (H : Heap) (locs : List Loc) (ls : Array Slot), j75 wx_75 = some t → va_P E.1 vwCl (Reader_c E a wx_75) H → va_D A (Reader_c E a wx_75) → va_S A s.heap H locs → lv_has ls 4 [(0, .ref (Readera_self a))] → W p l e_ (rm_Rd (d + 1)) s m args below meth c H locs 0 0 Q (F0 m 75 ls []) := by
          intro wx_75 H locs ls hF hP hD hS hl
          rw [hjd75] at hF
          refine lv_aload_n hx hb dX4_readPart_75 rfl (lv_at hl 0 rfl) ?_
          refine va_ldcS hx hb hown k0 dX4_readPart_76 ?_
          obtain ⟨t1, ht1, hF⟩ := m_bnd hF
          have hPc := hP
          have hDc := hD
          have hFc := va_free (wc := (Reader_c E a wx_75)) hD hS hA [0, 1, 2, 3, 4, 5] rfl
          refine mVM (ci := 4) (n := 1) (rest := []) (As := [.ref (m_adK E 0)]) CC hKN hGl (c_X4_takeOneOf l E a wx_75 0 t1 ht1 _) gX4_readPart_X4_takeOneOf rfl ⟨rfl, rfl⟩ (by decide +kernel) ⟨by show 4 + 1 ≤ d + 1 + 6; omega, by show 8 + (3 + 11) + 91 ≤ (d + 1) * 23 + 134; omega⟩ hPc hDc m_nil m_nilA hS hFc rfl rfl rfl rfl hl.1 rfl (Nat.le_of_ble_eq_true rfl) ⟨Nat.zero_le _, Nat.zero_le _⟩ dX4_readPart_78 (fun H1 locs hP1 hD1 hz1 hk1 hS => ?_)
          have hP : va_P E.1 vwCl (Reader_c E a t1.2) H1 := hP1
          have hD : va_D A (Reader_c E a t1.2) := m_back hD1 hFc
          generalize H1 = H at hP hS ⊢
          refine W.eq (g2 := F0 m 81 ls [.int t1.1]) rfl ?_
          refine lv_istore_n (lv' := [(2, .int t1.1), (0, .ref (Readera_self a))]) hx hb dX4_readPart_81 rfl hl (by decide) rfl (fun ls hl => ?_)
          refine lv_iload_n hx hb dX4_readPart_82 rfl (lv_at hl 0 rfl) ?_
          refine lv_if_ge (tgt := 88) hx hb dX4_readPart_83 (by decide) (fun c2 => ?_) (fun c2 => ?_)
          · have hF := m_pos c2 hF
            refine lv_aload_n hx hb dX4_readPart_88 rfl (lv_at hl 1 rfl) ?_
            refine va_ldcS hx hb hown k1 dX4_readPart_89 ?_
            obtain ⟨t3, ht3, hF⟩ := m_bnd hF
            have hPc := hP
            have hDc := hD
            have hFc := va_free (wc := (Reader_c E a t1.2)) hD hS hA [0, 1, 2, 3, 4, 5] rfl
            refine mVM (ci := 4) (n := 1) (rest := []) (As := [.ref (m_adK E 1)]) CC hKN hGl (c_X4_takeOneOf l E a t1.2 1 t3 ht3 _) gX4_readPart_X4_takeOneOf rfl ⟨rfl, rfl⟩ (by decide +kernel) ⟨by show 4 + 1 ≤ d + 1 + 6; omega, by show 8 + (3 + 11) + 91 ≤ (d + 1) * 23 + 134; omega⟩ hPc hDc m_nil m_nilA hS hFc rfl rfl rfl rfl hl.1 rfl (Nat.le_of_ble_eq_true rfl) ⟨Nat.zero_le _, Nat.zero_le _⟩ dX4_readPart_91 (fun H1 locs hP1 hD1 hz1 hk1 hS => ?_)
            have hP : va_P E.1 vwCl (Reader_c E a t3.2) H1 := hP1
            have hD : va_D A (Reader_c E a t3.2) := m_back hD1 hFc
            generalize H1 = H at hP hS ⊢
            refine W.eq (g2 := F0 m 94 ls [.int t3.1]) rfl ?_
            refine lv_istore_n (lv' := [(3, .int t3.1), (2, .int t1.1), (0, .ref (Readera_self a))]) hx hb dX4_readPart_94 rfl hl (by decide) rfl (fun ls hl => ?_)
            refine lv_iload_n hx hb dX4_readPart_95 rfl (lv_at hl 0 rfl) ?_
            refine lv_if_lt (tgt := 106) hx hb dX4_readPart_96 (by decide) (fun c4 => ?_) (fun c4 => ?_)
            · have hF := m_pos c4 hF
              refine lv_iconst (v := 0) hx hb dX4_readPart_106 (by decide) ?_
              have hF := Option.some.inj hF
              subst hF
              rw [hQ]
              exact W.zret hx hb hr rfl (fun t ht _ => ⟨⟨rfl, by rw [ht]; exact hP, hD⟩, hS.F ht⟩) hS.2.2 dX4_readPart_107
            · have hF := m_neg c4 hF
              refine lv_aload_n hx hb dX4_readPart_99 rfl (lv_at hl 2 rfl) ?_
              obtain ⟨t5, ht5, hF⟩ := m_bnd hF
              have hPc := hP
              have hDc := hD
              have hFc := va_free (wc := (Reader_c E a t3.2)) hD hS hA [0, 1, 2, 3, 4, 5] rfl
              refine mVM (ci := 4) (n := 0) (rest := []) (As := []) CC hKN hGl (c_X4_readNumber l E a t3.2 t5 ht5 _) gX4_readPart_X4_readNumber rfl ⟨rfl, rfl⟩ (by decide +kernel) ⟨by show 5 + 1 ≤ d + 1 + 6; omega, by show 8 + (2 + 11) + 113 ≤ (d + 1) * 23 + 134; omega⟩ hPc hDc m_nil m_nilA hS hFc rfl rfl rfl rfl hl.1 rfl (Nat.le_of_ble_eq_true rfl) ⟨Nat.zero_le _, Nat.zero_le _⟩ dX4_readPart_100 (fun H1 locs hP1 hD1 hz1 hk1 hS => ?_)
              have hP : va_P E.1 vwCl (Reader_c E a t5.2) H1 := hP1
              have hD : va_D A (Reader_c E a t5.2) := m_back hD1 hFc
              generalize H1 = H at hP hS ⊢
              refine W.eq (g2 := F0 m 103 ls [.int t5.1]) rfl ?_
              refine lv_if_ne (tgt := 108) hx hb dX4_readPart_103 (by decide) (fun c6 => ?_) (fun c6 => ?_)
              · have hF := m_pos c6 hF
                refine lv_aload_n hx hb dX4_readPart_108 rfl (lv_at hl 2 rfl) ?_
                refine va_get (D := E.1) (ci := 4) (v := .ref (Lessona_self (Readera_lesson a))) (C := RX4) (T := TX4) (N := 5) hx hb hts k3 hown hK hP 0 rfl rfl 4 (by decide) k2 (fun _ h9 => h9) rfl dX4_readPart_109 ?_
                refine lv_iload_n hx hb dX4_readPart_112 rfl (lv_at hl 1 rfl) ?_
                refine lv_iload_n hx hb dX4_readPart_113 rfl (lv_at hl 0 rfl) ?_
                refine lv_aload_n hx hb dX4_readPart_114 rfl (lv_at hl 2 rfl) ?_
                refine va_get (D := E.1) (ci := 4) (v := .int (Reader_number t5.2)) (C := RX4) (T := TX4) (N := 5) hx hb hts k3 hown hK hP 0 rfl rfl 3 (by decide) k4 (fun _ h9 => h9) rfl dX4_readPart_115 ?_
                obtain ⟨t7, ht7, hF⟩ := m_bnd hF
                have hpm : List.Perm (Reader_c E a t5.2) ((Lesson_c E (Readera_lesson a) (Reader_lesson t5.2)) ++ ((List.take 2 (Reader_c E a t5.2)) ++ (List.drop 6 (Reader_c E a t5.2)))) := m_p1 (A := (List.take 2 (Reader_c E a t5.2))) (m := (Lesson_c E (Readera_lesson a) (Reader_lesson t5.2))) (C := (List.drop 6 (Reader_c E a t5.2)))
                obtain ⟨hPc, hDc, hFc⟩ := m_pre hpm hP hD hS hA
                refine mVM (ci := 3) (n := 3) (rest := []) (As := [.int t1.1, .int t3.1, .int (Reader_number t5.2)]) CC hKN hGl (c_X3_addTest l E (Readera_lesson a) (Reader_lesson t5.2) t1.1 t3.1 (Reader_number t5.2) t7 ht7 _) gX4_readPart_X3_addTest rfl ⟨rfl, rfl⟩ (by decide +kernel) ⟨by show 1 + 1 ≤ d + 1 + 6; omega, by show 8 + (4 + 11) + 21 ≤ (d + 1) * 23 + 134; omega⟩ hPc hDc m_nil m_nilA hS hFc rfl rfl rfl rfl hl.1 rfl (Nat.le_of_ble_eq_true rfl) ⟨Nat.zero_le _, Nat.zero_le _⟩ dX4_readPart_118 (fun H1 locs hP1 hD1 hz1 hk1 hS => ?_)
                have hpn : List.Perm (Reader_c E a (Reader_lesson_s t5.2 t7)) ((Lesson_c E (Readera_lesson a) t7) ++ ((List.take 2 (Reader_c E a t5.2)) ++ (List.drop 6 (Reader_c E a t5.2)))) := m_p1 (A := (List.take 2 (Reader_c E a t5.2))) (m := (Lesson_c E (Readera_lesson a) t7)) (C := (List.drop 6 (Reader_c E a t5.2)))
                obtain ⟨hP, hD⟩ := m_spl hpm hpn hP hD hk1 hFc hP1 hD1
                generalize H1 = H at hP hS ⊢
                refine W.eq (g2 := F0 m 121 ls []) rfl ?_
                refine lv_iconst (v := 1) hx hb dX4_readPart_121 (by decide) ?_
                have hF := Option.some.inj hF
                subst hF
                rw [hQ]
                exact W.zret hx hb hr rfl (fun t ht _ => ⟨⟨rfl, by rw [ht]; exact hP, hD⟩, hS.F ht⟩) hS.2.2 dX4_readPart_122
              · have hF := m_neg (fun n9 => n9 c6) hF
                refine lv_iconst (v := 0) hx hb dX4_readPart_106 (by decide) ?_
                have hF := Option.some.inj hF
                subst hF
                rw [hQ]
                exact W.zret hx hb hr rfl (fun t ht _ => ⟨⟨rfl, by rw [ht]; exact hP, hD⟩, hS.F ht⟩) hS.2.2 dX4_readPart_107
          · have hF := m_neg c2 hF
            refine lv_iconst (v := 0) hx hb dX4_readPart_86 (by decide) ?_
            have hF := Option.some.inj hF
            subst hF
            rw [hQ]
            exact W.zret hx hb hr rfl (fun t ht _ => ⟨⟨rfl, by rw [ht]; exact hP, hD⟩, hS.F ht⟩) hS.2.2 dX4_readPart_87
        clear hjd75
        refine lv_icmp_ge (tgt := 75) hx hb dX4_readPart_38 (by decide) (fun c8 => ?_) (fun c8 => ?_)
        · have hF := m_pos c8 hF
          exact hj75 wx_36 H locs ls hF hP hD hS (lv_sub hl [0] rfl)
        · have hF := m_neg c8 hF
          refine lv_aload_n hx hb dX4_readPart_41 rfl (lv_at hl 0 rfl) ?_
          refine lv_bipush (v := 40) hx hb dX4_readPart_42 (by decide) ?_
          obtain ⟨t9, ht9, hF⟩ := m_bnd hF
          have hPc := hP
          have hDc := hD
          have hFc := va_free (wc := (Reader_c E a wx_36)) hD hS hA [0, 1, 2, 3, 4, 5] rfl
          refine mVM (ci := 4) (n := 1) (rest := []) (As := [.int 40]) CC hKN hGl (c_X4_take l E a wx_36 40 t9 ht9 _) gX4_readPart_X4_take rfl ⟨rfl, rfl⟩ (by decide +kernel) ⟨by show 0 + 1 ≤ d + 1 + 6; omega, by show 8 + (2 + 11) + 0 ≤ (d + 1) * 23 + 134; omega⟩ hPc hDc m_nil m_nilA hS hFc rfl rfl rfl rfl hl.1 rfl (Nat.le_of_ble_eq_true rfl) ⟨Nat.zero_le _, Nat.zero_le _⟩ dX4_readPart_44 (fun H1 locs hP1 hD1 hz1 hk1 hS => ?_)
          have hP : va_P E.1 vwCl (Reader_c E a t9.2) H1 := hP1
          have hD : va_D A (Reader_c E a t9.2) := m_back hD1 hFc
          generalize H1 = H at hP hS ⊢
          refine W.eq (g2 := F0 m 47 ls [.int t9.1]) rfl ?_
          refine lv_if_eq (tgt := 75) hx hb dX4_readPart_47 (by decide) (fun c10 => ?_) (fun c10 => ?_)
          · have hF := m_pos c10 hF
            exact hj75 t9.2 H locs ls hF hP hD hS (lv_sub hl [0] rfl)
          · have hF := m_neg c10 hF
            refine lv_aload_n hx hb dX4_readPart_50 rfl (lv_at hl 0 rfl) ?_
            refine lv_iload_n hx hb dX4_readPart_51 rfl (lv_at hl 1 rfl) ?_
            refine lv_iconst (v := 1) hx hb dX4_readPart_52 (by decide) ?_
            refine lv_iadd hx hb dX4_readPart_53 ?_
            obtain ⟨t11, ht11, hF⟩ := m_bnd hF
            have hPc := hP
            have hDc := hD
            have hFc := va_free (wc := (Reader_c E a t9.2)) hD hS hA [0, 1, 2, 3, 4, 5] rfl
            refine mVM (ci := 4) (n := 1) (rest := []) (As := [.int (x0 + 1)]) CC hKN hGl (ihd.1 a t9.2 (x0 + 1) t11 ht11 _) gX4_readPart_X4_readEither rfl ⟨rfl, rfl⟩ (by decide +kernel) ⟨by show d + 6 + 1 ≤ d + 1 + 6; omega, by show 8 + (4 + 11) + (d * 23 + 134) ≤ (d + 1) * 23 + 134; omega⟩ hPc hDc m_nil m_nilA hS hFc rfl rfl rfl rfl hl.1 rfl (Nat.le_of_ble_eq_true rfl) ⟨Nat.zero_le _, Nat.zero_le _⟩ dX4_readPart_54 (fun H1 locs hP1 hD1 hz1 hk1 hS => ?_)
            have hP : va_P E.1 vwCl (Reader_c E a t11.2) H1 := hP1
            have hD : va_D A (Reader_c E a t11.2) := m_back hD1 hFc
            generalize H1 = H at hP hS ⊢
            refine W.eq (g2 := F0 m 57 ls [.int t11.1]) rfl ?_
            refine lv_if_eq (tgt := 73) hx hb dX4_readPart_57 (by decide) (fun c12 => ?_) (fun c12 => ?_)
            · have hF := m_pos c12 hF
              refine lv_iconst (v := 0) hx hb dX4_readPart_73 (by decide) ?_
              have hF := Option.some.inj hF
              subst hF
              rw [hQ]
              exact W.zret hx hb hr rfl (fun t ht _ => ⟨⟨rfl, by rw [ht]; exact hP, hD⟩, hS.F ht⟩) hS.2.2 dX4_readPart_74
            · have hF := m_neg c12 hF
              refine lv_aload_n hx hb dX4_readPart_60 rfl (lv_at hl 0 rfl) ?_
              refine lv_bipush (v := 41) hx hb dX4_readPart_61 (by decide) ?_
              obtain ⟨t13, ht13, hF⟩ := m_bnd hF
              have hPc := hP
              have hDc := hD
              have hFc := va_free (wc := (Reader_c E a t11.2)) hD hS hA [0, 1, 2, 3, 4, 5] rfl
              refine mVM (ci := 4) (n := 1) (rest := []) (As := [.int 41]) CC hKN hGl (c_X4_take l E a t11.2 41 t13 ht13 _) gX4_readPart_X4_take rfl ⟨rfl, rfl⟩ (by decide +kernel) ⟨by show 0 + 1 ≤ d + 1 + 6; omega, by show 8 + (2 + 11) + 0 ≤ (d + 1) * 23 + 134; omega⟩ hPc hDc m_nil m_nilA hS hFc rfl rfl rfl rfl hl.1 rfl (Nat.le_of_ble_eq_true rfl) ⟨Nat.zero_le _, Nat.zero_le _⟩ dX4_readPart_63 (fun H1 locs hP1 hD1 hz1 hk1 hS => ?_)
              have hP : va_P E.1 vwCl (Reader_c E a t13.2) H1 := hP1
              have hD : va_D A (Reader_c E a t13.2) := m_back hD1 hFc
              generalize H1 = H at hP hS ⊢
              refine W.eq (g2 := F0 m 66 ls [.int t13.1]) rfl ?_
              refine lv_if_eq (tgt := 73) hx hb dX4_readPart_66 (by decide) (fun c14 => ?_) (fun c14 => ?_)
              · have hF := m_pos c14 hF
                refine lv_iconst (v := 0) hx hb dX4_readPart_73 (by decide) ?_
                have hF := Option.some.inj hF
                subst hF
                rw [hQ]
                exact W.zret hx hb hr rfl (fun t ht _ => ⟨⟨rfl, by rw [ht]; exact hP, hD⟩, hS.F ht⟩) hS.2.2 dX4_readPart_74
              · have hF := m_neg c14 hF
                refine lv_iconst (v := 1) hx hb dX4_readPart_69 (by decide) ?_
                refine lv_goto (tgt := 74) hx hb dX4_readPart_70 (by decide) ?_
                have hF := Option.some.inj hF
                subst hF
                rw [hQ]
                exact W.zret hx hb hr rfl (fun t ht _ => ⟨⟨rfl, by rw [ht]; exact hP, hD⟩, hS.F ht⟩) hS.2.2 dX4_readPart_74
      clear hjd36
      refine lv_icmp_ge (tgt := 36) hx hb dX4_readPart_2 (by decide) (fun c15 => ?_) (fun c15 => ?_)
      · have hF := m_pos c15 hF
        exact hj36 v H locs ls hF hP hD hS (lv_sub hl [0, 1] rfl)
      · have hF := m_neg c15 hF
        refine lv_aload_n hx hb dX4_readPart_5 rfl (lv_at hl 0 rfl) ?_
        refine lv_bipush (v := 33) hx hb dX4_readPart_6 (by decide) ?_
        obtain ⟨t16, ht16, hF⟩ := m_bnd hF
        have hPc := hP
        have hDc := hD
        have hFc := va_free (wc := (Reader_c E a v)) hD hS hA [0, 1, 2, 3, 4, 5] rfl
        refine mVM (ci := 4) (n := 1) (rest := []) (As := [.int 33]) CC hKN hGl (c_X4_take l E a v 33 t16 ht16 _) gX4_readPart_X4_take rfl ⟨rfl, rfl⟩ (by decide +kernel) ⟨by show 0 + 1 ≤ d + 1 + 6; omega, by show 8 + (2 + 11) + 0 ≤ (d + 1) * 23 + 134; omega⟩ hPc hDc m_nil m_nilA hS hFc rfl rfl rfl rfl hl.1 rfl (Nat.le_of_ble_eq_true rfl) ⟨Nat.zero_le _, Nat.zero_le _⟩ dX4_readPart_8 (fun H1 locs hP1 hD1 hz1 hk1 hS => ?_)
        have hP : va_P E.1 vwCl (Reader_c E a t16.2) H1 := hP1
        have hD : va_D A (Reader_c E a t16.2) := m_back hD1 hFc
        generalize H1 = H at hP hS ⊢
        refine W.eq (g2 := F0 m 11 ls [.int t16.1]) rfl ?_
        refine lv_if_eq (tgt := 36) hx hb dX4_readPart_11 (by decide) (fun c17 => ?_) (fun c17 => ?_)
        · have hF := m_pos c17 hF
          exact hj36 t16.2 H locs ls hF hP hD hS (lv_sub hl [0, 1] rfl)
        · have hF := m_neg c17 hF
          refine lv_aload_n hx hb dX4_readPart_14 rfl (lv_at hl 0 rfl) ?_
          refine lv_iload_n hx hb dX4_readPart_15 rfl (lv_at hl 1 rfl) ?_
          refine lv_iconst (v := 1) hx hb dX4_readPart_16 (by decide) ?_
          refine lv_iadd hx hb dX4_readPart_17 ?_
          obtain ⟨t18, ht18, hF⟩ := m_bnd hF
          have hPc := hP
          have hDc := hD
          have hFc := va_free (wc := (Reader_c E a t16.2)) hD hS hA [0, 1, 2, 3, 4, 5] rfl
          refine mVM (ci := 4) (n := 1) (rest := []) (As := [.int (x0 + 1)]) CC hKN hGl (ihd.2 a t16.2 (x0 + 1) t18 ht18 _) gX4_readPart_X4_readPart rfl ⟨rfl, rfl⟩ (by decide +kernel) ⟨by show d + 6 + 1 ≤ d + 1 + 6; omega, by show 8 + (4 + 11) + (d * 23 + 134) ≤ (d + 1) * 23 + 134; omega⟩ hPc hDc m_nil m_nilA hS hFc rfl rfl rfl rfl hl.1 rfl (Nat.le_of_ble_eq_true rfl) ⟨Nat.zero_le _, Nat.zero_le _⟩ dX4_readPart_18 (fun H1 locs hP1 hD1 hz1 hk1 hS => ?_)
          have hP : va_P E.1 vwCl (Reader_c E a t18.2) H1 := hP1
          have hD : va_D A (Reader_c E a t18.2) := m_back hD1 hFc
          generalize H1 = H at hP hS ⊢
          refine W.eq (g2 := F0 m 21 ls [.int t18.1]) rfl ?_
          refine lv_if_ne (tgt := 26) hx hb dX4_readPart_21 (by decide) (fun c19 => ?_) (fun c19 => ?_)
          · have hF := m_pos c19 hF
            refine lv_aload_n hx hb dX4_readPart_26 rfl (lv_at hl 0 rfl) ?_
            refine va_get (D := E.1) (ci := 4) (v := .ref (Lessona_self (Readera_lesson a))) (C := RX4) (T := TX4) (N := 5) hx hb hts k3 hown hK hP 0 rfl rfl 4 (by decide) k2 (fun _ h9 => h9) rfl dX4_readPart_27 ?_
            refine lv_iconst (v := (-1)) hx hb dX4_readPart_30 (by decide) ?_
            obtain ⟨t20, ht20, hF⟩ := m_bnd hF
            have hpm : List.Perm (Reader_c E a t18.2) ((Lesson_c E (Readera_lesson a) (Reader_lesson t18.2)) ++ ((List.take 2 (Reader_c E a t18.2)) ++ (List.drop 6 (Reader_c E a t18.2)))) := m_p1 (A := (List.take 2 (Reader_c E a t18.2))) (m := (Lesson_c E (Readera_lesson a) (Reader_lesson t18.2))) (C := (List.drop 6 (Reader_c E a t18.2)))
            obtain ⟨hPc, hDc, hFc⟩ := m_pre hpm hP hD hS hA
            refine mVM (ci := 3) (n := 1) (rest := []) (As := [.int (-1)]) CC hKN hGl (c_X3_addCode l E (Readera_lesson a) (Reader_lesson t18.2) (-1) t20 ht20 _) gX4_readPart_X3_addCode rfl ⟨rfl, rfl⟩ (by decide +kernel) ⟨by show 0 + 1 ≤ d + 1 + 6; omega, by show 8 + (2 + 11) + 0 ≤ (d + 1) * 23 + 134; omega⟩ hPc hDc m_nil m_nilA hS hFc rfl rfl rfl rfl hl.1 rfl (Nat.le_of_ble_eq_true rfl) ⟨Nat.zero_le _, Nat.zero_le _⟩ dX4_readPart_31 (fun H1 locs hP1 hD1 hz1 hk1 hS => ?_)
            have hpn : List.Perm (Reader_c E a (Reader_lesson_s t18.2 t20)) ((Lesson_c E (Readera_lesson a) t20) ++ ((List.take 2 (Reader_c E a t18.2)) ++ (List.drop 6 (Reader_c E a t18.2)))) := m_p1 (A := (List.take 2 (Reader_c E a t18.2))) (m := (Lesson_c E (Readera_lesson a) t20)) (C := (List.drop 6 (Reader_c E a t18.2)))
            obtain ⟨hP, hD⟩ := m_spl hpm hpn hP hD hk1 hFc hP1 hD1
            generalize H1 = H at hP hS ⊢
            refine W.eq (g2 := F0 m 34 ls []) rfl ?_
            refine lv_iconst (v := 1) hx hb dX4_readPart_34 (by decide) ?_
            have hF := Option.some.inj hF
            subst hF
            rw [hQ]
            exact W.zret hx hb hr rfl (fun t ht _ => ⟨⟨rfl, by rw [ht]; exact hP, hD⟩, hS.F ht⟩) hS.2.2 dX4_readPart_35
          · have hF := m_neg (fun n9 => n9 c19) hF
            refine lv_iconst (v := 0) hx hb dX4_readPart_24 (by decide) ?_
            have hF := Option.some.inj hF
            subst hF
            rw [hQ]
            exact W.zret hx hb hr rfl (fun t ht _ => ⟨⟨rfl, by rw [ht]; exact hP, hD⟩, hS.F ht⟩) hS.2.2 dX4_readPart_25


abbrev rmX2_doesOf : Room := { frames := 3, cells := 0, slots := 0, locals := 77 }
set_option maxRecDepth 100000 in
set_option maxHeartbeats 400000 in
theorem c_X2_doesOf (l : Launch) (E : mE) (a : GroupA) (v : GroupV) (a1 : LessonA) (v1 : LessonV) (x0 : Int32) (t : Int32) (hF : fn_X2_doesOf v v1 x0 = some t) : Met l yX2_doesOf wsX2_doesOf rmX2_doesOf (mPp E [.ref (Groupa_self a), .int x0, .ref (Lessona_self a1)] ((Group_c E a v) ++ (Lesson_c E a1 v1))) (mSp (some (.int t))) 0 0 (fun _ => False) := by
  refine mOfP (cc := cX2_doesOf) (maxL := 5) (ret := (some .int)) (by decide) rfl (Nat.le_of_ble_eq_true rfl) ?_
  intro p e_ s m args below meth c Q hQ CC hr hlocks hP hKN hGl ls hl
  have hS : va_S (fun _ => False) s.heap s.heap [] := va_S.rf
  have hK := hKN.1
  have hx := CC.1
  have hb := CC.2.1
  have hml := CC.2.2.1
  have hown : s.vm.findClass RX2 = some m.cls := CC.2.2.2.1
  have hts := CC.2.2.2.2
  have hl : lv_has ls 5 [(0, .ref (Groupa_self a)), (1, .int x0), (2, .ref (Lessona_self a1))] := hl
  have k0 := hts (.fieldLink RX2 37 "OneDidAll$Group" "outs" "[Z") (by decide +kernel)
  have k1 := (show ∀ w ∈ u_ws RX2 TX2 11, w ∈ wsX2_doesOf by decide +kernel)
  have k2 := hts (.fieldLink RX2 21 "OneDidAll$Group" "kinds" "[I") (by decide +kernel)
  have k3 := hts (.fieldLink RX2 31 "OneDidAll$Group" "wills" "[I") (by decide +kernel)
  have k4 := hts (.methodLink RX2 70 Lib.Math.min.name) (by decide +kernel)
  have k5 := hts (.static Lib.Math.min.name) (by decide +kernel)
  have k6 := hts (.initialized "java/lang/Math") (by decide +kernel)
  have k7 := hts (.code Lib.Math.min.name Lib.Math.min.code 2 (some .int)) (by decide +kernel)
  have k8 := hts (.methodLink RX2 76 Lib.Math.max.name) (by decide +kernel)
  have k9 := hts (.static Lib.Math.max.name) (by decide +kernel)
  have k10 := hts (.code Lib.Math.max.name Lib.Math.max.code 2 (some .int)) (by decide +kernel)
  have k11 := hts (.fieldLink RX2 25 "OneDidAll$Group" "vs" "[I") (by decide +kernel)
  have k12 := hts (.fieldLink RX2 9 "OneDidAll$Group" "size" "I") (by decide +kernel)
  unfold fn_X2_doesOf at hF
  refine lv_aload_n hx hb dX2_doesOf_0 rfl (lv_at hl 0 rfl) ?_
  refine va_get (D := E.1) (ci := 2) (v := .ref (Groupa_outs a)) (C := RX2) (T := TX2) (N := 11) hx hb hts k1 hown hK hP 0 rfl rfl 8 (by decide) k0 (fun _ h9 => h9) rfl dX2_doesOf_1 ?_
  refine lv_iload_n hx hb dX2_doesOf_4 rfl (lv_at hl 1 rfl) ?_
  obtain ⟨h1, hF⟩ := m_chk hF
  refine va_zald (f := (Group_outs v)) hx hb hK hP 6 2 rfl rfl (mIn_ok h1) dX2_doesOf_5 ?_
  refine W.eq (g2 := F0 m 6 ls [.int ((Group_outs v) (x0).toNatClampNeg)]) rfl ?_
  refine lv_if_eq (tgt := 11) hx hb dX2_doesOf_6 (by decide) (fun c2 => ?_) (fun c2 => ?_)
  · have hF := m_pos c2 hF
    refine lv_aload_n hx hb dX2_doesOf_11 rfl (lv_at hl 2 rfl) ?_
    refine lv_aload_n hx hb dX2_doesOf_12 rfl (lv_at hl 0 rfl) ?_
    refine lv_iload_n hx hb dX2_doesOf_13 rfl (lv_at hl 1 rfl) ?_
    obtain ⟨t3, ht3, hF⟩ := m_bnd hF
    have hPc := hP.sub (ws' := ((Lesson_c E a1 v1) ++ (Group_c E a v))) [9, 10, 11, 12, 0, 1, 2, 3, 4, 5, 6, 7, 8] rfl
    refine mVP (ci := 3) (n := 2) (rest := []) (As := [.ref (Groupa_self a), .int x0]) CC hKN hGl hS (c_X3_zealOf l E a1 v1 a v x0 t3 ht3) gX2_doesOf_X3_zealOf rfl ⟨rfl, rfl⟩ (by decide +kernel) ⟨Nat.le_of_ble_eq_true rfl, Nat.le_of_ble_eq_true rfl⟩ hPc rfl rfl rfl rfl hl.1 rfl (Nat.le_of_ble_eq_true rfl) ⟨Nat.zero_le _, Nat.zero_le _⟩ dX2_doesOf_14 ?_
    refine W.eq (g2 := F0 m 17 ls [.int t3]) rfl ?_
    refine lv_istore_n (lv' := [(3, .int t3), (0, .ref (Groupa_self a)), (1, .int x0), (2, .ref (Lessona_self a1))]) hx hb dX2_doesOf_17 rfl hl (by decide) rfl (fun ls hl => ?_)
    refine lv_iload_n hx hb dX2_doesOf_18 rfl (lv_at hl 0 rfl) ?_
    refine lv_istore (lv' := [(4, .int t3), (3, .int t3), (0, .ref (Groupa_self a)), (1, .int x0), (2, .ref (Lessona_self a1))]) hx hb dX2_doesOf_19 hl (by decide) rfl (fun ls hl => ?_)
    refine lv_aload_n hx hb dX2_doesOf_21 rfl (lv_at hl 2 rfl) ?_
    refine va_get (D := E.1) (ci := 2) (v := .ref (Groupa_kinds a)) (C := RX2) (T := TX2) (N := 11) hx hb hts k1 hown hK hP 0 rfl rfl 3 (by decide) k2 (fun _ h9 => h9) rfl dX2_doesOf_22 ?_
    refine lv_iload_n hx hb dX2_doesOf_25 rfl (lv_at hl 3 rfl) ?_
    obtain ⟨h4, hF⟩ := m_chk hF
    refine va_iald (f := (Group_kinds v)) hx hb hK hP 1 1 rfl rfl (mIn_ok h4) dX2_doesOf_26 ?_
    refine W.eq (g2 := F0 m 27 ls [.int ((Group_kinds v) (x0).toNatClampNeg)]) rfl ?_
    obtain ⟨j138, hjd138, hF⟩ := m_jp hF
    have hj138 : ∀ (x4_138 : Int32) (ls : Array Slot), j138 x4_138 = some t → lv_has ls 5 [(0, .ref (Groupa_self a)), (1, .int x0), (4, .int x4_138)] → W p l e_ rmX2_doesOf s m args below meth c s.heap [] 0 0 Q (F0 m 138 ls []) := by
      intro x4_138 ls hF hl
      rw [hjd138] at hF
      refine lv_iconst (v := 0) hx hb dX2_doesOf_138 (by decide) ?_
      refine lv_iload hx hb dX2_doesOf_139 (lv_at hl 2 rfl) ?_
      refine lv_aload_n hx hb dX2_doesOf_141 rfl (lv_at hl 0 rfl) ?_
      refine va_get (D := E.1) (ci := 2) (v := .ref (Groupa_wills a)) (C := RX2) (T := TX2) (N := 11) hx hb hts k1 hown hK hP 0 rfl rfl 6 (by decide) k3 (fun _ h9 => h9) rfl dX2_doesOf_142 ?_
      refine lv_iload_n hx hb dX2_doesOf_145 rfl (lv_at hl 1 rfl) ?_
      obtain ⟨h5, hF⟩ := m_chk hF
      refine va_iald (f := (Group_wills v)) hx hb hK hP 4 1 rfl rfl (mIn_ok h5) dX2_doesOf_146 ?_
      refine W.eq (g2 := F0 m 147 ls [.int ((Group_wills v) (x0).toNatClampNeg), .int x4_138, .int 0]) rfl ?_
      refine va_mmin hx hb (hml.trans hl.1.symm) hown k4 k5 k6 k7 (Nat.le_of_ble_eq_true rfl) (Nat.le_of_ble_eq_true rfl) (Nat.zero_le _) (Nat.zero_le _) dX2_doesOf_147 ?_
      refine W.eq (g2 := F0 m 150 ls [.int (mMin x4_138 ((Group_wills v) (x0).toNatClampNeg)), .int 0]) rfl ?_
      refine va_mmax hx hb (hml.trans hl.1.symm) hown k8 k9 k6 k10 (Nat.le_of_ble_eq_true rfl) (Nat.le_of_ble_eq_true rfl) (Nat.zero_le _) (Nat.zero_le _) dX2_doesOf_150 ?_
      refine W.eq (g2 := F0 m 153 ls [.int (mMax 0 (mMin x4_138 ((Group_wills v) (x0).toNatClampNeg)))]) rfl ?_
      have hF := Option.some.inj hF
      subst hF
      rw [hQ]
      exact W.iret hx hb hr (fun t ht _ => ⟨rfl, ht⟩) (fun _ h => by cases h) dX2_doesOf_153
    clear hjd138
    by_cases c6 : ((Group_kinds v) (x0).toNatClampNeg) = 1
    · have hF := m_pos c6 hF
      refine lv_tableIn (off := 37) (tgt := 64) hx hb dX2_doesOf_27 (by rw [c6]; decide) (by rw [c6]; decide) (by rw [c6]; rfl) (by decide) ?_
      refine lv_iload_n hx hb dX2_doesOf_64 rfl (lv_at hl 1 rfl) ?_
      refine lv_aload_n hx hb dX2_doesOf_65 rfl (lv_at hl 2 rfl) ?_
      refine va_get (D := E.1) (ci := 2) (v := .ref (Groupa_vs a)) (C := RX2) (T := TX2) (N := 11) hx hb hts k1 hown hK hP 0 rfl rfl 4 (by decide) k11 (fun _ h9 => h9) rfl dX2_doesOf_66 ?_
      refine lv_iload_n hx hb dX2_doesOf_69 rfl (lv_at hl 3 rfl) ?_
      obtain ⟨h7, hF⟩ := m_chk hF
      refine va_iald (f := (Group_vs v)) hx hb hK hP 2 1 rfl rfl (mIn_ok h7) dX2_doesOf_70 ?_
      refine W.eq (g2 := F0 m 71 ls [.int ((Group_vs v) (x0).toNatClampNeg), .int t3]) rfl ?_
      refine lv_iconst (v := 2) hx hb dX2_doesOf_71 (by decide) ?_
      refine lv_idiv hx hb dX2_doesOf_72 (by decide) ?_
      refine lv_iadd hx hb dX2_doesOf_73 ?_
      refine lv_istore (lv' := [(4, .int (t3 + (((Group_vs v) (x0).toNatClampNeg) / 2))), (3, .int t3), (0, .ref (Groupa_self a)), (1, .int x0), (2, .ref (Lessona_self a1))]) hx hb dX2_doesOf_74 hl (by decide) rfl (fun ls hl => ?_)
      refine lv_goto (tgt := 138) hx hb dX2_doesOf_76 (by decide) ?_
      exact hj138 (t3 + (((Group_vs v) (x0).toNatClampNeg) / 2)) ls hF (lv_sub hl [2, 3, 0] rfl)
    · have hF := m_neg c6 hF
      by_cases c8 : ((Group_kinds v) (x0).toNatClampNeg) = 2
      · have hF := m_pos c8 hF
        refine lv_tableIn (off := 52) (tgt := 79) hx hb dX2_doesOf_27 (by rw [c8]; decide) (by rw [c8]; decide) (by rw [c8]; rfl) (by decide) ?_
        refine lv_iload_n hx hb dX2_doesOf_79 rfl (lv_at hl 1 rfl) ?_
        refine lv_iconst (v := 2) hx hb dX2_doesOf_80 (by decide) ?_
        refine lv_idiv hx hb dX2_doesOf_81 (by decide) ?_
        refine lv_istore (lv' := [(4, .int (t3 / 2)), (3, .int t3), (0, .ref (Groupa_self a)), (1, .int x0), (2, .ref (Lessona_self a1))]) hx hb dX2_doesOf_82 hl (by decide) rfl (fun ls hl => ?_)
        refine lv_goto (tgt := 138) hx hb dX2_doesOf_84 (by decide) ?_
        exact hj138 (t3 / 2) ls hF (lv_sub hl [2, 3, 0] rfl)
      · have hF := m_neg c8 hF
        by_cases c9 : ((Group_kinds v) (x0).toNatClampNeg) = 3
        · have hF := m_pos c9 hF
          refine lv_tableIn (off := 111) (tgt := 138) hx hb dX2_doesOf_27 (by rw [c9]; decide) (by rw [c9]; decide) (by rw [c9]; rfl) (by decide) ?_
          exact hj138 t3 ls hF (lv_sub hl [2, 3, 0] rfl)
        · have hF := m_neg c9 hF
          by_cases c10 : ((Group_kinds v) (x0).toNatClampNeg) = 4
          · have hF := m_pos c10 hF
            refine lv_tableIn (off := 60) (tgt := 87) hx hb dX2_doesOf_27 (by rw [c10]; decide) (by rw [c10]; decide) (by rw [c10]; rfl) (by decide) ?_
            refine lv_iload_n hx hb dX2_doesOf_87 rfl (lv_at hl 1 rfl) ?_
            refine lv_aload_n hx hb dX2_doesOf_88 rfl (lv_at hl 2 rfl) ?_
            refine va_get (D := E.1) (ci := 2) (v := .ref (Groupa_vs a)) (C := RX2) (T := TX2) (N := 11) hx hb hts k1 hown hK hP 0 rfl rfl 4 (by decide) k11 (fun _ h9 => h9) rfl dX2_doesOf_89 ?_
            refine lv_iload_n hx hb dX2_doesOf_92 rfl (lv_at hl 3 rfl) ?_
            obtain ⟨h11, hF⟩ := m_chk hF
            refine va_iald (f := (Group_vs v)) hx hb hK hP 2 1 rfl rfl (mIn_ok h11) dX2_doesOf_93 ?_
            refine W.eq (g2 := F0 m 94 ls [.int ((Group_vs v) (x0).toNatClampNeg), .int t3]) rfl ?_
            refine lv_iconst (v := 2) hx hb dX2_doesOf_94 (by decide) ?_
            refine lv_idiv hx hb dX2_doesOf_95 (by decide) ?_
            refine lv_iadd hx hb dX2_doesOf_96 ?_
            refine lv_aload_n hx hb dX2_doesOf_97 rfl (lv_at hl 2 rfl) ?_
            refine va_get (D := E.1) (ci := 2) (v := .int (Group_size v)) (C := RX2) (T := TX2) (N := 11) hx hb hts k1 hown hK hP 0 rfl rfl 0 (by decide) k12 (fun _ h9 => h9) rfl dX2_doesOf_98 ?_
            refine lv_iadd hx hb dX2_doesOf_101 ?_
            refine lv_aload_n hx hb dX2_doesOf_102 rfl (lv_at hl 2 rfl) ?_
            obtain ⟨t12, ht12, hF⟩ := m_bnd hF
            have hPc := m_cutP (mid := (Group_c E a v)) hP 0 9 rfl
            refine mVP (ci := 2) (n := 0) (rest := [.int ((t3 + (((Group_vs v) (x0).toNatClampNeg) / 2)) + (Group_size v))]) (As := []) CC hKN hGl hS (c_X2_countIn l E a v t12 ht12) gX2_doesOf_X2_countIn rfl ⟨rfl, rfl⟩ (by decide +kernel) ⟨Nat.le_of_ble_eq_true rfl, Nat.le_of_ble_eq_true rfl⟩ hPc rfl rfl rfl rfl hl.1 rfl (Nat.le_of_ble_eq_true rfl) ⟨Nat.zero_le _, Nat.zero_le _⟩ dX2_doesOf_103 ?_
            refine W.eq (g2 := F0 m 106 ls [.int t12, .int ((t3 + (((Group_vs v) (x0).toNatClampNeg) / 2)) + (Group_size v))]) rfl ?_
            refine lv_isub hx hb dX2_doesOf_106 ?_
            refine lv_istore (lv' := [(4, .int (((t3 + (((Group_vs v) (x0).toNatClampNeg) / 2)) + (Group_size v)) - t12)), (3, .int t3), (0, .ref (Groupa_self a)), (1, .int x0), (2, .ref (Lessona_self a1))]) hx hb dX2_doesOf_107 hl (by decide) rfl (fun ls hl => ?_)
            refine lv_goto (tgt := 138) hx hb dX2_doesOf_109 (by decide) ?_
            exact hj138 (((t3 + (((Group_vs v) (x0).toNatClampNeg) / 2)) + (Group_size v)) - t12) ls hF (lv_sub hl [2, 3, 0] rfl)
          · have hF := m_neg c10 hF
            by_cases c13 : ((Group_kinds v) (x0).toNatClampNeg) = 5
            · have hF := m_pos c13 hF
              refine lv_tableIn (off := 85) (tgt := 112) hx hb dX2_doesOf_27 (by rw [c13]; decide) (by rw [c13]; decide) (by rw [c13]; rfl) (by decide) ?_
              refine lv_iload_n hx hb dX2_doesOf_112 rfl (lv_at hl 1 rfl) ?_
              refine lv_iconst (v := 2) hx hb dX2_doesOf_113 (by decide) ?_
              refine lv_idiv hx hb dX2_doesOf_114 (by decide) ?_
              refine lv_aload_n hx hb dX2_doesOf_115 rfl (lv_at hl 2 rfl) ?_
              refine lv_iload_n hx hb dX2_doesOf_116 rfl (lv_at hl 3 rfl) ?_
              obtain ⟨t14, ht14, hF⟩ := m_bnd hF
              have hPc := m_cutP (mid := (Group_c E a v)) hP 0 9 rfl
              refine mVP (ci := 2) (n := 1) (rest := [.int (t3 / 2)]) (As := [.int x0]) CC hKN hGl hS (c_X2_countBetter l E a v x0 t14 ht14) gX2_doesOf_X2_countBetter rfl ⟨rfl, rfl⟩ (by decide +kernel) ⟨Nat.le_of_ble_eq_true rfl, Nat.le_of_ble_eq_true rfl⟩ hPc rfl rfl rfl rfl hl.1 rfl (Nat.le_of_ble_eq_true rfl) ⟨Nat.zero_le _, Nat.zero_le _⟩ dX2_doesOf_117 ?_
              refine W.eq (g2 := F0 m 120 ls [.int t14, .int (t3 / 2)]) rfl ?_
              refine lv_isub hx hb dX2_doesOf_120 ?_
              refine lv_istore (lv' := [(4, .int ((t3 / 2) - t14)), (3, .int t3), (0, .ref (Groupa_self a)), (1, .int x0), (2, .ref (Lessona_self a1))]) hx hb dX2_doesOf_121 hl (by decide) rfl (fun ls hl => ?_)
              refine lv_goto (tgt := 138) hx hb dX2_doesOf_123 (by decide) ?_
              exact hj138 ((t3 / 2) - t14) ls hF (lv_sub hl [2, 3, 0] rfl)
            · have hF := m_neg c13 hF
              by_cases c15 : ((Group_kinds v) (x0).toNatClampNeg) = 6
              · have hF := m_pos c15 hF
                refine lv_tableIn (off := 99) (tgt := 126) hx hb dX2_doesOf_27 (by rw [c15]; decide) (by rw [c15]; decide) (by rw [c15]; rfl) (by decide) ?_
                refine lv_iload_n hx hb dX2_doesOf_126 rfl (lv_at hl 1 rfl) ?_
                refine lv_aload_n hx hb dX2_doesOf_127 rfl (lv_at hl 2 rfl) ?_
                refine lv_iload_n hx hb dX2_doesOf_128 rfl (lv_at hl 3 rfl) ?_
                obtain ⟨t16, ht16, hF⟩ := m_bnd hF
                have hPc := m_cutP (mid := (Group_c E a v)) hP 0 9 rfl
                refine mVP (ci := 2) (n := 1) (rest := [.int t3]) (As := [.int x0]) CC hKN hGl hS (c_X2_rowNow l E a v x0 t16 ht16) gX2_doesOf_X2_rowNow rfl ⟨rfl, rfl⟩ (by decide +kernel) ⟨Nat.le_of_ble_eq_true rfl, Nat.le_of_ble_eq_true rfl⟩ hPc rfl rfl rfl rfl hl.1 rfl (Nat.le_of_ble_eq_true rfl) ⟨Nat.zero_le _, Nat.zero_le _⟩ dX2_doesOf_129 ?_
                refine W.eq (g2 := F0 m 132 ls [.int t16, .int t3]) rfl ?_
                refine lv_iadd hx hb dX2_doesOf_132 ?_
                refine lv_istore (lv' := [(4, .int (t3 + t16)), (3, .int t3), (0, .ref (Groupa_self a)), (1, .int x0), (2, .ref (Lessona_self a1))]) hx hb dX2_doesOf_133 hl (by decide) rfl (fun ls hl => ?_)
                refine lv_goto (tgt := 138) hx hb dX2_doesOf_135 (by decide) ?_
                exact hj138 (t3 + t16) ls hF (lv_sub hl [2, 3, 0] rfl)
              · have hF := m_neg c15 hF
                have qc6 := lv_neT (a := 1) c6 rfl
                have qc8 := lv_neT (a := 2) c8 rfl
                have qc9 := lv_neT (a := 3) c9 rfl
                have qc10 := lv_neT (a := 4) c10 rfl
                have qc13 := lv_neT (a := 5) c13 rfl
                have qc15 := lv_neT (a := 6) c15 rfl
                refine lv_tableOut (tgt := 138) hx hb dX2_doesOf_27 (by omega) (by decide) ?_
                exact hj138 t3 ls hF (lv_sub hl [2, 3, 0] rfl)
  · have hF := m_neg c2 hF
    refine lv_iconst (v := 0) hx hb dX2_doesOf_9 (by decide) ?_
    have hF := Option.some.inj hF
    subst hF
    rw [hQ]
    exact W.iret hx hb hr (fun t ht _ => ⟨rfl, ht⟩) (fun _ h => by cases h) dX2_doesOf_10

abbrev rmX2_goWeeks : Room := { frames := 4, cells := 0, slots := 0, locals := 101 }
set_option maxRecDepth 100000 in
set_option maxHeartbeats 400000 in
theorem c_X2_goWeeks (l : Launch) (E : mE) (a : GroupA) (v : GroupV) (a0 : LessonA) (v0 : LessonV) (x1 : Int32) (x2 : Int32) (t : GroupV) (hF : fn_X2_goWeeks v v0 x1 x2 = some t) (sz : Nat) : Met l yX2_goWeeks wsX2_goWeeks rmX2_goWeeks (mPm E [.ref (Groupa_self a), .ref (Lessona_self a0), .int x1, .int x2] sz ((Group_c E a v)) ((Lesson_c E a0 v0))) (mSm E (none) ((Group_c E a t)) (va_A ((Group_c E a v)) sz)) 0 0 (va_A ((Group_c E a v)) sz) := by
  refine mOfM (cc := cX2_goWeeks) (maxL := 6) (ret := none) (by decide) rfl (Nat.le_of_ble_eq_true rfl) ?_
  intro p e_ s m args below meth c Q A hQ CC hr hlocks hin hA hP hD hKN hGl hR0 hRA ls hl
  have hS : va_S A s.heap s.heap [] := va_S.rf
  have hK := hKN.1
  have hx := CC.1
  have hb := CC.2.1
  have hml := CC.2.2.1
  have hown : s.vm.findClass RX2 = some m.cls := CC.2.2.2.1
  have hts := CC.2.2.2.2
  have hl : lv_has ls 6 [(0, .ref (Groupa_self a)), (1, .ref (Lessona_self a0)), (2, .int x1), (3, .int x2)] := hl
  have k0 := (va_Nw.use rfl (hKN.2.1 ("OneDidAll$Group", 84, "OneDidAll$Lesson", "fair", "I", "OneDidAll") (by decide +kernel)) : (Cond.fieldLinkNest "OneDidAll$Group" 84 "OneDidAll$Lesson" "fair" "I" "OneDidAll").before args s = true)
  have k1 := (show ∀ w ∈ u_ws RX3 TX3 7, w ∈ wsX2_goWeeks by decide +kernel)
  have k2 := hts (.fieldLink RX2 15 "OneDidAll$Group" "week" "I") (by decide +kernel)
  have k3 := (show ∀ w ∈ u_ws RX2 TX2 11, w ∈ wsX2_goWeeks by decide +kernel)
  have k4 := hts (.fieldLink RX2 18 "OneDidAll$Group" "work" "I") (by decide +kernel)
  have k5 := hts (.constant RX2 83 (99999)) (by decide +kernel)
  have k6 := hts (.methodLink RX2 70 Lib.Math.min.name) (by decide +kernel)
  have k7 := hts (.static Lib.Math.min.name) (by decide +kernel)
  have k8 := hts (.initialized "java/lang/Math") (by decide +kernel)
  have k9 := hts (.code Lib.Math.min.name Lib.Math.min.code 2 (some .int)) (by decide +kernel)
  have k10 := hts (.fieldLink RX2 9 "OneDidAll$Group" "size" "I") (by decide +kernel)
  have k11 := hts (.fieldLink RX2 34 "OneDidAll$Group" "hours" "[I") (by decide +kernel)
  have k12 := hts (.fieldLink RX2 44 "OneDidAll$Group" "does" "[I") (by decide +kernel)
  have k13 := hts (.fieldLink RX2 28 "OneDidAll$Group" "skills" "[I") (by decide +kernel)
  have hP : va_P E.1 vwCl (Group_c E a v) s.heap := hP
  obtain ⟨H, hH⟩ : ∃ H, H = s.heap := ⟨_, rfl⟩
  obtain ⟨locs, hlc⟩ : ∃ z : List Loc, z = [] := ⟨_, rfl⟩
  rw [← hH] at hP
  rw [← hlc] at hS
  have hS : va_S A s.heap H locs := by rw [hH]; exact hS
  rw [← hH, ← hlc]
  unfold fn_X2_goWeeks at hF
  refine lv_iconst (v := 0) hx hb dX2_goWeeks_0 (by decide) ?_
  refine lv_istore (lv' := [(4, .int 0), (0, .ref (Groupa_self a)), (1, .ref (Lessona_self a0)), (2, .int x1), (3, .int x2)]) hx hb dX2_goWeeks_1 hl (by decide) rfl (fun ls hl => ?_)
  have hL3 : ∀ (n : Nat) (y4_3 : Int32) (wy_3 : GroupV) (H : Heap) (locs : List Loc) (ls : Array Slot), lp_X2_goWeeks_3 v0 x1 x2 n y4_3 wy_3 = some t → va_P E.1 vwCl (Group_c E a wy_3) H → va_D A (Group_c E a wy_3) → va_S A s.heap H locs → lv_has ls 6 [(0, .ref (Groupa_self a)), (1, .ref (Lessona_self a0)), (2, .int x1), (3, .int x2), (4, .int y4_3)] → W p l e_ rmX2_goWeeks s m args below meth c H locs 0 0 Q (F0 m 3 ls []) := by
    intro n
    induction n with
    | zero =>
      intro y4_3 wy_3 H locs ls hF
      exact nomatch (show (none : Option GroupV) = some t from hF)
    | succ n ih3 =>
      intro y4_3 wy_3 H locs ls hF hP hD hS hl
      have hF : st_X2_goWeeks_3 v0 x1 x2 (lp_X2_goWeeks_3 v0 x1 x2 n) y4_3 wy_3 = some t := hF
      unfold st_X2_goWeeks_3 at hF
      refine lv_iload hx hb dX2_goWeeks_3 (lv_at hl 4 rfl) ?_
      refine lv_iload_n hx hb dX2_goWeeks_5 rfl (lv_at hl 2 rfl) ?_
      refine lv_icmp_ge (tgt := 165) hx hb dX2_goWeeks_6 (by decide) (fun c1 => ?_) (fun c1 => ?_)
      · have hF := m_pos c1 hF
        have hF := Option.some.inj hF
        subst hF
        rw [hQ]
        exact W.vret hx hb hr (fun t ht _ => ⟨⟨rfl, by rw [ht]; exact hP, hD⟩, hS.F ht⟩) hS.2.2 dX2_goWeeks_165
      · have hF := m_neg c1 hF
        refine lv_iconst (v := 0) hx hb dX2_goWeeks_9 (by decide) ?_
        refine lv_istore (lv' := [(5, .int 0), (0, .ref (Groupa_self a)), (1, .ref (Lessona_self a0)), (2, .int x1), (3, .int x2), (4, .int y4_3)]) hx hb dX2_goWeeks_10 hl (by decide) rfl (fun ls hl => ?_)
        obtain ⟨j41, hjd41, hF⟩ := m_jp hF
        have hj41 : ∀ (wx_41 : GroupV) (H : Heap) (locs : List Loc) (ls : Array Slot), j41 wx_41 = some t → va_P E.1 vwCl (Group_c E a wx_41) H → va_D A (Group_c E a wx_41) → va_S A s.heap H locs → lv_has ls 6 [(0, .ref (Groupa_self a)), (1, .ref (Lessona_self a0)), (2, .int x1), (3, .int x2), (4, .int y4_3)] → W p l e_ rmX2_goWeeks s m args below meth c H locs 0 0 Q (F0 m 41 ls []) := by
          intro wx_41 H locs ls hF hP hD hS hl
          rw [hjd41] at hF
          refine lv_iconst (v := 0) hx hb dX2_goWeeks_41 (by decide) ?_
          refine lv_istore (lv' := [(5, .int 0), (0, .ref (Groupa_self a)), (1, .ref (Lessona_self a0)), (2, .int x1), (3, .int x2), (4, .int y4_3)]) hx hb dX2_goWeeks_42 hl (by decide) rfl (fun ls hl => ?_)
          obtain ⟨j124, hjd124, hF⟩ := m_jp hF
          have hj124 : ∀ (wx_124 : GroupV) (H : Heap) (locs : List Loc) (ls : Array Slot), j124 wx_124 = some t → va_P E.1 vwCl (Group_c E a wx_124) H → va_D A (Group_c E a wx_124) → va_S A s.heap H locs → lv_has ls 6 [(0, .ref (Groupa_self a)), (1, .ref (Lessona_self a0)), (2, .int x1), (3, .int x2), (4, .int y4_3)] → W p l e_ rmX2_goWeeks s m args below meth c H locs 0 0 Q (F0 m 124 ls []) := by
            intro wx_124 H locs ls hF hP hD hS hl
            rw [hjd124] at hF
            refine lv_iload_n hx hb dX2_goWeeks_124 rfl (lv_at hl 3 rfl) ?_
            obtain ⟨j141, hjd141, hF⟩ := m_jp hF
            have hj141 : ∀ (wx_141 : GroupV) (H : Heap) (locs : List Loc) (ls : Array Slot), j141 wx_141 = some t → va_P E.1 vwCl (Group_c E a wx_141) H → va_D A (Group_c E a wx_141) → va_S A s.heap H locs → lv_has ls 6 [(0, .ref (Groupa_self a)), (1, .ref (Lessona_self a0)), (2, .int x1), (3, .int x2), (4, .int y4_3)] → W p l e_ rmX2_goWeeks s m args below meth c H locs 0 0 Q (F0 m 141 ls []) := by
              intro wx_141 H locs ls hF hP hD hS hl
              rw [hjd141] at hF
              refine lv_aload_n hx hb dX2_goWeeks_141 rfl (lv_at hl 0 rfl) ?_
              refine lv_aload_n hx hb dX2_goWeeks_142 rfl (lv_at hl 1 rfl) ?_
              refine va_getN (D := E.1) (ci := 3) (v := .int (Lesson_fair v0)) (C := RX3) (T := TX3) (N := 7) hx hb hts k1 hown hK (m_ro hR0 hRA hS) 0 rfl rfl 6 (by decide) k0 (fun _ h9 => h9) rfl dX2_goWeeks_143 ?_
              obtain ⟨t2, ht2, hF⟩ := m_bnd hF
              have hPc := hP
              have hDc := hD
              have hFc := va_free (wc := (Group_c E a wx_141)) hD hS hA [0, 1, 2, 3, 4, 5, 6, 7, 8] rfl
              refine mVM (ci := 2) (n := 1) (rest := []) (As := [.int (Lesson_fair v0)]) CC hKN hGl (c_X2_changeWills l E a wx_141 (Lesson_fair v0) t2 ht2 _) gX2_goWeeks_X2_changeWills rfl ⟨rfl, rfl⟩ (by decide +kernel) ⟨Nat.le_of_ble_eq_true rfl, Nat.le_of_ble_eq_true rfl⟩ hPc hDc m_nil m_nilA hS hFc rfl rfl rfl rfl hl.1 rfl (Nat.le_of_ble_eq_true rfl) ⟨Nat.zero_le _, Nat.zero_le _⟩ dX2_goWeeks_146 (fun H1 locs hP1 hD1 hz1 hk1 hS => ?_)
              have hP : va_P E.1 vwCl (Group_c E a t2) H1 := hP1
              have hD : va_D A (Group_c E a t2) := m_back hD1 hFc
              generalize H1 = H at hP hS ⊢
              refine W.eq (g2 := F0 m 149 ls []) rfl ?_
              refine lv_aload_n hx hb dX2_goWeeks_149 rfl (lv_at hl 0 rfl) ?_
              refine lv_dup hx hb dX2_goWeeks_150 rfl ?_
              refine va_get (D := E.1) (ci := 2) (v := .int (Group_week t2)) (C := RX2) (T := TX2) (N := 11) hx hb hts k3 hown hK hP 0 rfl rfl 1 (by decide) k2 (fun _ h9 => h9) rfl dX2_goWeeks_151 ?_
              refine lv_iconst (v := 1) hx hb dX2_goWeeks_154 (by decide) ?_
              refine lv_iadd hx hb dX2_goWeeks_155 ?_
              refine va_put (D := E.1) (ci := 2) (v := .int ((Group_week t2) + 1)) (ty := .int) (C := RX2) (T := TX2) (N := 11) hx hb hts k3 tyX2 tyX2_ok nmX2 hown hK hP hD hS 0 rfl rfl 1 (by decide) k2 (fun _ h9 => h9) rfl (by decide +kernel) rfl rfl (Nat.le_of_ble_eq_true rfl) dX2_goWeeks_156 (fun H locs hP hD hS => ?_)
              have hP : va_P E.1 vwCl (Group_c E a (Group_week_s t2 ((Group_week t2) + 1))) H := hP
              have hD : va_D A (Group_c E a (Group_week_s t2 ((Group_week t2) + 1))) := hD
              refine lv_iinc (v := (y4_3 + 1)) (lv' := [(4, .int (y4_3 + 1)), (0, .ref (Groupa_self a)), (1, .ref (Lessona_self a0)), (2, .int x1), (3, .int x2)]) hx hb dX2_goWeeks_159 hl (k := 4) rfl rfl (by decide) rfl (fun ls hl => ?_)
              refine lv_goto (tgt := 3) hx hb dX2_goWeeks_162 (by decide) ?_
              exact ih3 (y4_3 + 1) (Group_week_s t2 ((Group_week t2) + 1)) H locs ls hF hP hD hS (lv_sub hl [1, 2, 3, 4, 0] rfl)
            clear hjd141
            refine lv_if_eq (tgt := 141) hx hb dX2_goWeeks_125 (by decide) (fun c3 => ?_) (fun c3 => ?_)
            · have hF := m_pos c3 hF
              exact hj141 wx_124 H locs ls hF hP hD hS (lv_sub hl [0, 1, 2, 3, 4] rfl)
            · have hF := m_neg c3 hF
              refine lv_aload_n hx hb dX2_goWeeks_128 rfl (lv_at hl 0 rfl) ?_
              refine lv_aload_n hx hb dX2_goWeeks_129 rfl (lv_at hl 0 rfl) ?_
              refine va_get (D := E.1) (ci := 2) (v := .int (Group_work wx_124)) (C := RX2) (T := TX2) (N := 11) hx hb hts k3 hown hK hP 0 rfl rfl 2 (by decide) k4 (fun _ h9 => h9) rfl dX2_goWeeks_130 ?_
              refine lv_ldc (v := 99999) hx hb hown k5 dX2_goWeeks_133 ?_
              refine va_mmin hx hb (hml.trans hl.1.symm) hown k6 k7 k8 k9 (Nat.le_of_ble_eq_true rfl) (Nat.le_of_ble_eq_true rfl) (Nat.zero_le _) (Nat.zero_le _) dX2_goWeeks_135 ?_
              refine W.eq (g2 := F0 m 138 ls [.int (mMin (Group_work wx_124) 99999), .ref (Groupa_self a)]) rfl ?_
              refine va_put (D := E.1) (ci := 2) (v := .int (mMin (Group_work wx_124) 99999)) (ty := .int) (C := RX2) (T := TX2) (N := 11) hx hb hts k3 tyX2 tyX2_ok nmX2 hown hK hP hD hS 0 rfl rfl 2 (by decide) k4 (fun _ h9 => h9) rfl (by decide +kernel) rfl rfl (Nat.le_of_ble_eq_true rfl) dX2_goWeeks_138 (fun H locs hP hD hS => ?_)
              have hP : va_P E.1 vwCl (Group_c E a (Group_work_s wx_124 (mMin (Group_work wx_124) 99999))) H := hP
              have hD : va_D A (Group_c E a (Group_work_s wx_124 (mMin (Group_work wx_124) 99999))) := hD
              exact hj141 (Group_work_s wx_124 (mMin (Group_work wx_124) 99999)) H locs ls hF hP hD hS (lv_sub hl [0, 1, 2, 3, 4] rfl)
          clear hjd124
          have hL44 : ∀ (n : Nat) (y5_44 : Int32) (wy_44 : GroupV) (H : Heap) (locs : List Loc) (ls : Array Slot), lp_X2_goWeeks_44 x2 j124 n y5_44 wy_44 = some t → va_P E.1 vwCl (Group_c E a wy_44) H → va_D A (Group_c E a wy_44) → va_S A s.heap H locs → lv_has ls 6 [(0, .ref (Groupa_self a)), (1, .ref (Lessona_self a0)), (2, .int x1), (3, .int x2), (4, .int y4_3), (5, .int y5_44)] → W p l e_ rmX2_goWeeks s m args below meth c H locs 0 0 Q (F0 m 44 ls []) := by
            intro n
            induction n with
            | zero =>
              intro y5_44 wy_44 H locs ls hF
              exact nomatch (show (none : Option GroupV) = some t from hF)
            | succ n ih44 =>
              intro y5_44 wy_44 H locs ls hF hP hD hS hl
              have hF : st_X2_goWeeks_44 x2 j124 (lp_X2_goWeeks_44 x2 j124 n) y5_44 wy_44 = some t := hF
              unfold st_X2_goWeeks_44 at hF
              refine lv_iload hx hb dX2_goWeeks_44 (lv_at hl 5 rfl) ?_
              refine lv_aload_n hx hb dX2_goWeeks_46 rfl (lv_at hl 0 rfl) ?_
              refine va_get (D := E.1) (ci := 2) (v := .int (Group_size wy_44)) (C := RX2) (T := TX2) (N := 11) hx hb hts k3 hown hK hP 0 rfl rfl 0 (by decide) k10 (fun _ h9 => h9) rfl dX2_goWeeks_47 ?_
              refine lv_icmp_ge (tgt := 124) hx hb dX2_goWeeks_50 (by decide) (fun c4 => ?_) (fun c4 => ?_)
              · have hF := m_pos c4 hF
                exact hj124 wy_44 H locs ls hF hP hD hS (lv_sub hl [0, 1, 2, 3, 4] rfl)
              · have hF := m_neg c4 hF
                refine lv_aload_n hx hb dX2_goWeeks_53 rfl (lv_at hl 0 rfl) ?_
                refine va_get (D := E.1) (ci := 2) (v := .ref (Groupa_hours a)) (C := RX2) (T := TX2) (N := 11) hx hb hts k3 hown hK hP 0 rfl rfl 7 (by decide) k11 (fun _ h9 => h9) rfl dX2_goWeeks_54 ?_
                refine lv_iload hx hb dX2_goWeeks_57 (lv_at hl 5 rfl) ?_
                refine lv_dup2_11 hx hb dX2_goWeeks_59 rfl rfl ?_
                obtain ⟨h5, hF⟩ := m_chk hF
                refine va_iald (f := (Group_hours wy_44)) hx hb hK hP 5 1 rfl rfl (mIn_ok h5) dX2_goWeeks_60 ?_
                refine W.eq (g2 := F0 m 61 ls [.int ((Group_hours wy_44) (y5_44).toNatClampNeg), .int y5_44, .ref (Groupa_hours a)]) rfl ?_
                refine lv_aload_n hx hb dX2_goWeeks_61 rfl (lv_at hl 0 rfl) ?_
                refine va_get (D := E.1) (ci := 2) (v := .ref (Groupa_does a)) (C := RX2) (T := TX2) (N := 11) hx hb hts k3 hown hK hP 0 rfl rfl 10 (by decide) k12 (fun _ h9 => h9) rfl dX2_goWeeks_62 ?_
                refine lv_iload hx hb dX2_goWeeks_65 (lv_at hl 5 rfl) ?_
                obtain ⟨h6, hF⟩ := m_chk hF
                refine va_iald (f := (Group_does wy_44)) hx hb hK hP 8 1 rfl rfl (mIn_ok h6) dX2_goWeeks_67 ?_
                refine W.eq (g2 := F0 m 68 ls [.int ((Group_does wy_44) (y5_44).toNatClampNeg), .int ((Group_hours wy_44) (y5_44).toNatClampNeg), .int y5_44, .ref (Groupa_hours a)]) rfl ?_
                refine lv_iadd hx hb dX2_goWeeks_68 ?_
                obtain ⟨h7, hF⟩ := m_chk hF
                refine va_iast (f := (Group_hours wy_44)) hx hb hK hP hD hS 5 1 rfl rfl (mIn_ok h7) dX2_goWeeks_69 (fun H locs hP hD hS => ?_)
                have hP : va_P E.1 vwCl (Group_c E a (Group_hours_s wy_44 (upd (Group_hours wy_44) (y5_44).toNatClampNeg (((Group_hours wy_44) (y5_44).toNatClampNeg) + ((Group_does wy_44) (y5_44).toNatClampNeg))))) H := hP
                have hD : va_D A (Group_c E a (Group_hours_s wy_44 (upd (Group_hours wy_44) (y5_44).toNatClampNeg (((Group_hours wy_44) (y5_44).toNatClampNeg) + ((Group_does wy_44) (y5_44).toNatClampNeg))))) := hD
                refine lv_aload_n hx hb dX2_goWeeks_70 rfl (lv_at hl 0 rfl) ?_
                refine lv_dup hx hb dX2_goWeeks_71 rfl ?_
                refine va_get (D := E.1) (ci := 2) (v := .int (Group_work wy_44)) (C := RX2) (T := TX2) (N := 11) hx hb hts k3 hown hK hP 0 rfl rfl 2 (by decide) k4 (fun _ h9 => h9) rfl dX2_goWeeks_72 ?_
                refine lv_aload_n hx hb dX2_goWeeks_75 rfl (lv_at hl 0 rfl) ?_
                refine va_get (D := E.1) (ci := 2) (v := .ref (Groupa_does a)) (C := RX2) (T := TX2) (N := 11) hx hb hts k3 hown hK hP 0 rfl rfl 10 (by decide) k12 (fun _ h9 => h9) rfl dX2_goWeeks_76 ?_
                refine lv_iload hx hb dX2_goWeeks_79 (lv_at hl 5 rfl) ?_
                obtain ⟨h8, hF⟩ := m_chk hF
                refine va_iald (f := (Group_does wy_44)) hx hb hK hP 8 1 rfl rfl (mIn_ok h8) dX2_goWeeks_81 ?_
                refine W.eq (g2 := F0 m 82 ls [.int ((Group_does wy_44) (y5_44).toNatClampNeg), .int (Group_work wy_44), .ref (Groupa_self a)]) rfl ?_
                refine lv_aload_n hx hb dX2_goWeeks_82 rfl (lv_at hl 0 rfl) ?_
                refine va_get (D := E.1) (ci := 2) (v := .ref (Groupa_skills a)) (C := RX2) (T := TX2) (N := 11) hx hb hts k3 hown hK hP 0 rfl rfl 5 (by decide) k13 (fun _ h9 => h9) rfl dX2_goWeeks_83 ?_
                refine lv_iload hx hb dX2_goWeeks_86 (lv_at hl 5 rfl) ?_
                obtain ⟨h9, hF⟩ := m_chk hF
                refine va_iald (f := (Group_skills wy_44)) hx hb hK hP 3 1 rfl rfl (mIn_ok h9) dX2_goWeeks_88 ?_
                refine W.eq (g2 := F0 m 89 ls [.int ((Group_skills wy_44) (y5_44).toNatClampNeg), .int ((Group_does wy_44) (y5_44).toNatClampNeg), .int (Group_work wy_44), .ref (Groupa_self a)]) rfl ?_
                refine lv_imul hx hb dX2_goWeeks_89 ?_
                refine lv_iadd hx hb dX2_goWeeks_90 ?_
                refine va_put (D := E.1) (ci := 2) (v := .int ((Group_work wy_44) + (((Group_does wy_44) (y5_44).toNatClampNeg) * ((Group_skills wy_44) (y5_44).toNatClampNeg)))) (ty := .int) (C := RX2) (T := TX2) (N := 11) hx hb hts k3 tyX2 tyX2_ok nmX2 hown hK hP hD hS 0 rfl rfl 2 (by decide) k4 (fun _ h9 => h9) rfl (by decide +kernel) rfl rfl (Nat.le_of_ble_eq_true rfl) dX2_goWeeks_91 (fun H locs hP hD hS => ?_)
                have hP : va_P E.1 vwCl (Group_c E a (Group_hours_s (Group_work_s wy_44 ((Group_work wy_44) + (((Group_does wy_44) (y5_44).toNatClampNeg) * ((Group_skills wy_44) (y5_44).toNatClampNeg)))) (upd (Group_hours wy_44) (y5_44).toNatClampNeg (((Group_hours wy_44) (y5_44).toNatClampNeg) + ((Group_does wy_44) (y5_44).toNatClampNeg))))) H := hP
                have hD : va_D A (Group_c E a (Group_hours_s (Group_work_s wy_44 ((Group_work wy_44) + (((Group_does wy_44) (y5_44).toNatClampNeg) * ((Group_skills wy_44) (y5_44).toNatClampNeg)))) (upd (Group_hours wy_44) (y5_44).toNatClampNeg (((Group_hours wy_44) (y5_44).toNatClampNeg) + ((Group_does wy_44) (y5_44).toNatClampNeg))))) := hD
                refine lv_iload_n hx hb dX2_goWeeks_94 rfl (lv_at hl 3 rfl) ?_
                obtain ⟨j118, hjd118, hF⟩ := m_jp hF
                have hj118 : ∀ (wx_118 : GroupV) (H : Heap) (locs : List Loc) (ls : Array Slot), j118 wx_118 = some t → va_P E.1 vwCl (Group_c E a wx_118) H → va_D A (Group_c E a wx_118) → va_S A s.heap H locs → lv_has ls 6 [(0, .ref (Groupa_self a)), (1, .ref (Lessona_self a0)), (2, .int x1), (3, .int x2), (4, .int y4_3), (5, .int y5_44)] → W p l e_ rmX2_goWeeks s m args below meth c H locs 0 0 Q (F0 m 118 ls []) := by
                  intro wx_118 H locs ls hF hP hD hS hl
                  rw [hjd118] at hF
                  refine lv_iinc (v := (y5_44 + 1)) (lv' := [(5, .int (y5_44 + 1)), (0, .ref (Groupa_self a)), (1, .ref (Lessona_self a0)), (2, .int x1), (3, .int x2), (4, .int y4_3)]) hx hb dX2_goWeeks_118 hl (k := 5) rfl rfl (by decide) rfl (fun ls hl => ?_)
                  refine lv_goto (tgt := 44) hx hb dX2_goWeeks_121 (by decide) ?_
                  exact ih44 (y5_44 + 1) wx_118 H locs ls hF hP hD hS (lv_sub hl [1, 2, 3, 4, 5, 0] rfl)
                clear hjd118
                refine lv_if_eq (tgt := 118) hx hb dX2_goWeeks_95 (by decide) (fun c10 => ?_) (fun c10 => ?_)
                · have hF := m_pos c10 hF
                  exact hj118 (Group_hours_s (Group_work_s wy_44 ((Group_work wy_44) + (((Group_does wy_44) (y5_44).toNatClampNeg) * ((Group_skills wy_44) (y5_44).toNatClampNeg)))) (upd (Group_hours wy_44) (y5_44).toNatClampNeg (((Group_hours wy_44) (y5_44).toNatClampNeg) + ((Group_does wy_44) (y5_44).toNatClampNeg)))) H locs ls hF hP hD hS (lv_sub hl [0, 1, 2, 3, 4, 5] rfl)
                · have hF := m_neg c10 hF
                  refine lv_aload_n hx hb dX2_goWeeks_98 rfl (lv_at hl 0 rfl) ?_
                  refine va_get (D := E.1) (ci := 2) (v := .ref (Groupa_hours a)) (C := RX2) (T := TX2) (N := 11) hx hb hts k3 hown hK hP 0 rfl rfl 7 (by decide) k11 (fun _ h9 => h9) rfl dX2_goWeeks_99 ?_
                  refine lv_iload hx hb dX2_goWeeks_102 (lv_at hl 5 rfl) ?_
                  refine lv_aload_n hx hb dX2_goWeeks_104 rfl (lv_at hl 0 rfl) ?_
                  refine va_get (D := E.1) (ci := 2) (v := .ref (Groupa_hours a)) (C := RX2) (T := TX2) (N := 11) hx hb hts k3 hown hK hP 0 rfl rfl 7 (by decide) k11 (fun _ h9 => h9) rfl dX2_goWeeks_105 ?_
                  refine lv_iload hx hb dX2_goWeeks_108 (lv_at hl 5 rfl) ?_
                  obtain ⟨h11, hF⟩ := m_chk hF
                  refine va_iald (f := (upd (Group_hours wy_44) (y5_44).toNatClampNeg (((Group_hours wy_44) (y5_44).toNatClampNeg) + ((Group_does wy_44) (y5_44).toNatClampNeg)))) hx hb hK hP 5 1 rfl rfl (mIn_ok h11) dX2_goWeeks_110 ?_
                  refine W.eq (g2 := F0 m 111 ls [.int ((upd (Group_hours wy_44) (y5_44).toNatClampNeg (((Group_hours wy_44) (y5_44).toNatClampNeg) + ((Group_does wy_44) (y5_44).toNatClampNeg))) (y5_44).toNatClampNeg), .int y5_44, .ref (Groupa_hours a)]) rfl ?_
                  refine lv_sipush (v := 9999) hx hb dX2_goWeeks_111 (by decide) ?_
                  refine va_mmin hx hb (hml.trans hl.1.symm) hown k6 k7 k8 k9 (Nat.le_of_ble_eq_true rfl) (Nat.le_of_ble_eq_true rfl) (Nat.zero_le _) (Nat.zero_le _) dX2_goWeeks_114 ?_
                  refine W.eq (g2 := F0 m 117 ls [.int (mMin ((upd (Group_hours wy_44) (y5_44).toNatClampNeg (((Group_hours wy_44) (y5_44).toNatClampNeg) + ((Group_does wy_44) (y5_44).toNatClampNeg))) (y5_44).toNatClampNeg) 9999), .int y5_44, .ref (Groupa_hours a)]) rfl ?_
                  obtain ⟨h12, hF⟩ := m_chk hF
                  refine va_iast (f := (upd (Group_hours wy_44) (y5_44).toNatClampNeg (((Group_hours wy_44) (y5_44).toNatClampNeg) + ((Group_does wy_44) (y5_44).toNatClampNeg)))) hx hb hK hP hD hS 5 1 rfl rfl (mIn_ok h12) dX2_goWeeks_117 (fun H locs hP hD hS => ?_)
                  have hP : va_P E.1 vwCl (Group_c E a (Group_hours_s (Group_work_s wy_44 ((Group_work wy_44) + (((Group_does wy_44) (y5_44).toNatClampNeg) * ((Group_skills wy_44) (y5_44).toNatClampNeg)))) (upd (upd (Group_hours wy_44) (y5_44).toNatClampNeg (((Group_hours wy_44) (y5_44).toNatClampNeg) + ((Group_does wy_44) (y5_44).toNatClampNeg))) (y5_44).toNatClampNeg (mMin ((upd (Group_hours wy_44) (y5_44).toNatClampNeg (((Group_hours wy_44) (y5_44).toNatClampNeg) + ((Group_does wy_44) (y5_44).toNatClampNeg))) (y5_44).toNatClampNeg) 9999)))) H := hP
                  have hD : va_D A (Group_c E a (Group_hours_s (Group_work_s wy_44 ((Group_work wy_44) + (((Group_does wy_44) (y5_44).toNatClampNeg) * ((Group_skills wy_44) (y5_44).toNatClampNeg)))) (upd (upd (Group_hours wy_44) (y5_44).toNatClampNeg (((Group_hours wy_44) (y5_44).toNatClampNeg) + ((Group_does wy_44) (y5_44).toNatClampNeg))) (y5_44).toNatClampNeg (mMin ((upd (Group_hours wy_44) (y5_44).toNatClampNeg (((Group_hours wy_44) (y5_44).toNatClampNeg) + ((Group_does wy_44) (y5_44).toNatClampNeg))) (y5_44).toNatClampNeg) 9999)))) := hD
                  exact hj118 (Group_hours_s (Group_work_s wy_44 ((Group_work wy_44) + (((Group_does wy_44) (y5_44).toNatClampNeg) * ((Group_skills wy_44) (y5_44).toNatClampNeg)))) (upd (upd (Group_hours wy_44) (y5_44).toNatClampNeg (((Group_hours wy_44) (y5_44).toNatClampNeg) + ((Group_does wy_44) (y5_44).toNatClampNeg))) (y5_44).toNatClampNeg (mMin ((upd (Group_hours wy_44) (y5_44).toNatClampNeg (((Group_hours wy_44) (y5_44).toNatClampNeg) + ((Group_does wy_44) (y5_44).toNatClampNeg))) (y5_44).toNatClampNeg) 9999))) H locs ls hF hP hD hS (lv_sub hl [0, 1, 2, 3, 4, 5] rfl)
          exact hL44 m_N 0 wx_41 H locs ls hF hP hD hS (lv_sub hl [1, 2, 3, 4, 5, 0] rfl)
        clear hjd41
        have hL12 : ∀ (n : Nat) (y5_12 : Int32) (wy_12 : GroupV) (H : Heap) (locs : List Loc) (ls : Array Slot), lp_X2_goWeeks_12 v0 j41 n y5_12 wy_12 = some t → va_P E.1 vwCl (Group_c E a wy_12) H → va_D A (Group_c E a wy_12) → va_S A s.heap H locs → lv_has ls 6 [(0, .ref (Groupa_self a)), (1, .ref (Lessona_self a0)), (2, .int x1), (3, .int x2), (4, .int y4_3), (5, .int y5_12)] → W p l e_ rmX2_goWeeks s m args below meth c H locs 0 0 Q (F0 m 12 ls []) := by
          intro n
          induction n with
          | zero =>
            intro y5_12 wy_12 H locs ls hF
            exact nomatch (show (none : Option GroupV) = some t from hF)
          | succ n ih12 =>
            intro y5_12 wy_12 H locs ls hF hP hD hS hl
            have hF : st_X2_goWeeks_12 v0 j41 (lp_X2_goWeeks_12 v0 j41 n) y5_12 wy_12 = some t := hF
            unfold st_X2_goWeeks_12 at hF
            refine lv_iload hx hb dX2_goWeeks_12 (lv_at hl 5 rfl) ?_
            refine lv_aload_n hx hb dX2_goWeeks_14 rfl (lv_at hl 0 rfl) ?_
            refine va_get (D := E.1) (ci := 2) (v := .int (Group_size wy_12)) (C := RX2) (T := TX2) (N := 11) hx hb hts k3 hown hK hP 0 rfl rfl 0 (by decide) k10 (fun _ h9 => h9) rfl dX2_goWeeks_15 ?_
            refine lv_icmp_ge (tgt := 41) hx hb dX2_goWeeks_18 (by decide) (fun c13 => ?_) (fun c13 => ?_)
            · have hF := m_pos c13 hF
              exact hj41 wy_12 H locs ls hF hP hD hS (lv_sub hl [0, 1, 2, 3, 4] rfl)
            · have hF := m_neg c13 hF
              refine lv_aload_n hx hb dX2_goWeeks_21 rfl (lv_at hl 0 rfl) ?_
              refine va_get (D := E.1) (ci := 2) (v := .ref (Groupa_does a)) (C := RX2) (T := TX2) (N := 11) hx hb hts k3 hown hK hP 0 rfl rfl 10 (by decide) k12 (fun _ h9 => h9) rfl dX2_goWeeks_22 ?_
              refine lv_iload hx hb dX2_goWeeks_25 (lv_at hl 5 rfl) ?_
              refine lv_aload_n hx hb dX2_goWeeks_27 rfl (lv_at hl 0 rfl) ?_
              refine lv_iload hx hb dX2_goWeeks_28 (lv_at hl 5 rfl) ?_
              refine lv_aload_n hx hb dX2_goWeeks_30 rfl (lv_at hl 1 rfl) ?_
              obtain ⟨t14, ht14, hF⟩ := m_bnd hF
              have hp15 := m_cutP (mid := Group_c E a wy_12) hP 0 9 rfl
              have hp16 := m_cutP (mid := Lesson_c E a0 v0) (m_ro hR0 hRA hS) 0 4 rfl
              refine mVP (ci := 2) (n := 2) (rest := [.int y5_12, .ref (Groupa_does a)]) (As := [.int y5_12, .ref (Lessona_self a0)]) CC hKN hGl hS (c_X2_doesOf l E a wy_12 a0 v0 y5_12 t14 ht14) gX2_goWeeks_X2_doesOf rfl ⟨rfl, rfl⟩ (by decide +kernel) ⟨Nat.le_of_ble_eq_true rfl, Nat.le_of_ble_eq_true rfl⟩ (va_P.app hp15 hp16) rfl rfl rfl rfl hl.1 rfl (Nat.le_of_ble_eq_true rfl) ⟨Nat.zero_le _, Nat.zero_le _⟩ dX2_goWeeks_31 ?_
              refine W.eq (g2 := F0 m 34 ls [.int t14, .int y5_12, .ref (Groupa_does a)]) rfl ?_
              obtain ⟨h17, hF⟩ := m_chk hF
              refine va_iast (f := (Group_does wy_12)) hx hb hK hP hD hS 8 1 rfl rfl (mIn_ok h17) dX2_goWeeks_34 (fun H locs hP hD hS => ?_)
              have hP : va_P E.1 vwCl (Group_c E a (Group_does_s wy_12 (upd (Group_does wy_12) (y5_12).toNatClampNeg t14))) H := hP
              have hD : va_D A (Group_c E a (Group_does_s wy_12 (upd (Group_does wy_12) (y5_12).toNatClampNeg t14))) := hD
              refine lv_iinc (v := (y5_12 + 1)) (lv' := [(5, .int (y5_12 + 1)), (0, .ref (Groupa_self a)), (1, .ref (Lessona_self a0)), (2, .int x1), (3, .int x2), (4, .int y4_3)]) hx hb dX2_goWeeks_35 hl (k := 5) rfl rfl (by decide) rfl (fun ls hl => ?_)
              refine lv_goto (tgt := 12) hx hb dX2_goWeeks_38 (by decide) ?_
              exact ih12 (y5_12 + 1) (Group_does_s wy_12 (upd (Group_does wy_12) (y5_12).toNatClampNeg t14)) H locs ls hF hP hD hS (lv_sub hl [1, 2, 3, 4, 5, 0] rfl)
        exact hL12 m_N 0 wy_3 H locs ls hF hP hD hS (lv_sub hl [1, 2, 3, 4, 5, 0] rfl)
  exact hL3 m_N 0 v H locs ls hF hP hD hS (lv_sub hl [1, 2, 3, 4, 0] rfl)

abbrev rmX2_claimsOfAll : Room := { frames := 3, cells := 0, slots := 0, locals := 66 }
set_option maxRecDepth 100000 in
set_option maxHeartbeats 400000 in
theorem c_X2_claimsOfAll (l : Launch) (E : mE) (a : GroupA) (v : GroupV) (t : Int32) (hF : fn_X2_claimsOfAll v = some t) : Met l yX2_claimsOfAll wsX2_claimsOfAll rmX2_claimsOfAll (mPp E [.ref (Groupa_self a)] (Group_c E a v)) (mSp (some (.int t))) 0 0 (fun _ => False) := by
  refine mOfP (cc := cX2_claimsOfAll) (maxL := 3) (ret := (some .int)) (by decide) rfl (Nat.le_of_ble_eq_true rfl) ?_
  intro p e_ s m args below meth c Q hQ CC hr hlocks hP hKN hGl ls hl
  have hS : va_S (fun _ => False) s.heap s.heap [] := va_S.rf
  have hK := hKN.1
  have hx := CC.1
  have hb := CC.2.1
  have hml := CC.2.2.1
  have hown : s.vm.findClass RX2 = some m.cls := CC.2.2.2.1
  have hts := CC.2.2.2.2
  have hl : lv_has ls 3 [(0, .ref (Groupa_self a))] := hl
  have k0 := hts (.fieldLink RX2 9 "OneDidAll$Group" "size" "I") (by decide +kernel)
  have k1 := (show ∀ w ∈ u_ws RX2 TX2 11, w ∈ wsX2_claimsOfAll by decide +kernel)
  unfold fn_X2_claimsOfAll at hF
  refine lv_iconst (v := 0) hx hb dX2_claimsOfAll_0 (by decide) ?_
  refine lv_istore_n (lv' := [(1, .int 0), (0, .ref (Groupa_self a))]) hx hb dX2_claimsOfAll_1 rfl hl (by decide) rfl (fun ls hl => ?_)
  refine lv_iconst (v := 0) hx hb dX2_claimsOfAll_2 (by decide) ?_
  refine lv_istore_n (lv' := [(2, .int 0), (1, .int 0), (0, .ref (Groupa_self a))]) hx hb dX2_claimsOfAll_3 rfl hl (by decide) rfl (fun ls hl => ?_)
  have hL4 : ∀ (n : Nat) (y1_4 : Int32) (y2_4 : Int32) (ls : Array Slot), lp_X2_claimsOfAll_4 v n y1_4 y2_4 = some t → lv_has ls 3 [(0, .ref (Groupa_self a)), (1, .int y1_4), (2, .int y2_4)] → W p l e_ rmX2_claimsOfAll s m args below meth c s.heap [] 0 0 Q (F0 m 4 ls []) := by
    intro n
    induction n with
    | zero =>
      intro y1_4 y2_4 ls hF
      exact nomatch (show (none : Option Int32) = some t from hF)
    | succ n ih4 =>
      intro y1_4 y2_4 ls hF hl
      have hF : st_X2_claimsOfAll_4 v (lp_X2_claimsOfAll_4 v n) y1_4 y2_4 = some t := hF
      unfold st_X2_claimsOfAll_4 at hF
      refine lv_iload_n hx hb dX2_claimsOfAll_4 rfl (lv_at hl 2 rfl) ?_
      refine lv_aload_n hx hb dX2_claimsOfAll_5 rfl (lv_at hl 0 rfl) ?_
      refine va_get (D := E.1) (ci := 2) (v := .int (Group_size v)) (C := RX2) (T := TX2) (N := 11) hx hb hts k1 hown hK hP 0 rfl rfl 0 (by decide) k0 (fun _ h9 => h9) rfl dX2_claimsOfAll_6 ?_
      refine lv_icmp_ge (tgt := 26) hx hb dX2_claimsOfAll_9 (by decide) (fun c1 => ?_) (fun c1 => ?_)
      · have hF := m_pos c1 hF
        refine lv_iload_n hx hb dX2_claimsOfAll_26 rfl (lv_at hl 1 rfl) ?_
        have hF := Option.some.inj hF
        subst hF
        rw [hQ]
        exact W.iret hx hb hr (fun t ht _ => ⟨rfl, ht⟩) (fun _ h => by cases h) dX2_claimsOfAll_27
      · have hF := m_neg c1 hF
        refine lv_iload_n hx hb dX2_claimsOfAll_12 rfl (lv_at hl 1 rfl) ?_
        refine lv_aload_n hx hb dX2_claimsOfAll_13 rfl (lv_at hl 0 rfl) ?_
        refine lv_iload_n hx hb dX2_claimsOfAll_14 rfl (lv_at hl 2 rfl) ?_
        obtain ⟨t2, ht2, hF⟩ := m_bnd hF
        refine mVP (ci := 2) (n := 1) (rest := [.int y1_4]) (As := [.int y2_4]) CC hKN hGl hS (c_X2_claimOf l E a v y2_4 t2 ht2) gX2_claimsOfAll_X2_claimOf rfl ⟨rfl, rfl⟩ (by decide +kernel) ⟨Nat.le_of_ble_eq_true rfl, Nat.le_of_ble_eq_true rfl⟩ hP rfl rfl rfl rfl hl.1 rfl (Nat.le_of_ble_eq_true rfl) ⟨Nat.zero_le _, Nat.zero_le _⟩ dX2_claimsOfAll_15 ?_
        refine W.eq (g2 := F0 m 18 ls [.int t2, .int y1_4]) rfl ?_
        refine lv_iadd hx hb dX2_claimsOfAll_18 ?_
        refine lv_istore_n (lv' := [(1, .int (y1_4 + t2)), (0, .ref (Groupa_self a)), (2, .int y2_4)]) hx hb dX2_claimsOfAll_19 rfl hl (by decide) rfl (fun ls hl => ?_)
        refine lv_iinc (v := (y2_4 + 1)) (lv' := [(2, .int (y2_4 + 1)), (1, .int (y1_4 + t2)), (0, .ref (Groupa_self a))]) hx hb dX2_claimsOfAll_20 hl (k := 2) rfl rfl (by decide) rfl (fun ls hl => ?_)
        refine lv_goto (tgt := 4) hx hb dX2_claimsOfAll_23 (by decide) ?_
        exact ih4 (y1_4 + t2) (y2_4 + 1) ls hF (lv_sub hl [2, 1, 0] rfl)
  exact hL4 m_N 0 0 ls hF (lv_sub hl [2, 1, 0] rfl)

