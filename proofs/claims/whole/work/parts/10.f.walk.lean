abbrev rm_Wr (d : Nat) : Room := { frames := d + 5, cells := 0, slots := 0, locals := d * 23 + 113 }
set_option maxRecDepth 100000 in
set_option maxHeartbeats 400000 in
theorem cg_Wr (l : Launch) (E : mE) : ∀ d : Nat, (∀ (a : ActsA) (v : ActsV) (x0 : Int32) (x1 : Int32) (x2 : Int32) (t : (Int32 × ActsV)) (_ : fn_X0_writes d v x0 x1 x2 = some t) (sz : Nat), Met l yX0_writes wsX0_writes (rm_Wr d) (mPm E [.ref (Actsa_self a), .int x0, .int x1, .int x2] sz ((Acts_c E a v)) (([] : va_W))) (mSm E (some (.int t.1)) ((Acts_c E a t.2)) (va_A ((Acts_c E a v)) sz)) 0 0 (va_A ((Acts_c E a v)) sz)) := by
  intro d
  induction d with
  | zero =>
    refine ?_
    · intro a v x0 x1 x2 t hF
      exact nomatch (show (none : Option (Int32 × ActsV)) = some t from hF)
  | succ d ihd =>
    refine ?_
    · intro a v x0 x1 x2 t hF sz
      refine mOfM (cc := cX0_writes) (maxL := 4) (ret := (some .int)) (by decide) rfl (Nat.le_of_ble_eq_true rfl) ?_
      intro p e_ s m args below meth c Q A hQ CC hr hlocks hin hA hP hD hKN hGl hR0 hRA ls hl
      have hS : va_S A s.heap s.heap [] := va_S.rf
      have hK := hKN.1
      have hx := CC.1
      have hb := CC.2.1
      have hml := CC.2.2.1
      have hown : s.vm.findClass RX0 = some m.cls := CC.2.2.2.1
      have hts := CC.2.2.2.2
      have hl : lv_has ls 4 [(0, .ref (Actsa_self a)), (1, .int x0), (2, .int x1), (3, .int x2)] := hl
      have k0 := hts (.fieldLink RX0 19 "OneDidAll$Acts" "kind" "I") (by decide +kernel)
      have k1 := (show ∀ w ∈ u_ws RX0 TX0 5, w ∈ wsX0_writes by decide +kernel)
      have k2 := hts (.fieldLink RX0 22 "OneDidAll$Acts" "v" "I") (by decide +kernel)
      have hP : va_P E.1 vwCl (Acts_c E a v) s.heap := hP
      obtain ⟨H, hH⟩ : ∃ H, H = s.heap := ⟨_, rfl⟩
      obtain ⟨locs, hlc⟩ : ∃ z : List Loc, z = [] := ⟨_, rfl⟩
      rw [← hH] at hP
      rw [← hlc] at hS
      have hS : va_S A s.heap H locs := by rw [hH]; exact hS
      rw [← hH, ← hlc]
      have hF : bd_X0_writes (gr_Wr d) v x0 x1 x2 = some t := hF
      unfold bd_X0_writes at hF
      refine lv_iload_n hx hb dX0_writes_0 rfl (lv_at hl 3 rfl) ?_
      refine lv_bipush (v := 9) hx hb dX0_writes_1 (by decide) ?_
      refine lv_icmp_le (tgt := 8) hx hb dX0_writes_3 (by decide) (fun c1 => ?_) (fun c1 => ?_)
      · have hF := m_pos c1 hF
        refine lv_iload_n hx hb dX0_writes_8 rfl (lv_at hl 1 rfl) ?_
        obtain ⟨j82, hjd82, hF⟩ := m_jp hF
        have hj82 : ∀ (H : Heap) (locs : List Loc) (ls : Array Slot), j82 () = some t → va_P E.1 vwCl (Acts_c E a v) H → va_D A (Acts_c E a v) → va_S A s.heap H locs → lv_has ls 4 [(0, .ref (Actsa_self a)), (2, .int x1), (3, .int x2)] → W p l e_ (rm_Wr (d + 1)) s m args below meth c H locs 0 0 Q (F0 m 82 ls []) := by
          intro H locs ls hF hP hD hS hl
          rw [hjd82] at hF
          refine lv_aload_n hx hb dX0_writes_82 rfl (lv_at hl 0 rfl) ?_
          refine lv_iconst (v := 2) hx hb dX0_writes_83 (by decide) ?_
          obtain ⟨t2, ht2, hF⟩ := m_bnd hF
          have hPc := hP
          have hDc := hD
          have hFc := va_free (wc := (Acts_c E a v)) hD hS hA [0, 1] rfl
          refine mVM (ci := 0) (n := 1) (rest := []) (As := [.int 2]) CC hKN hGl (c_X0_begins l E a v 2 t2 ht2 _) gX0_writes_X0_begins rfl ⟨rfl, rfl⟩ (by decide +kernel) ⟨by show 0 + 1 ≤ d + 1 + 5; omega, by show 8 + (2 + 11) + 0 ≤ (d + 1) * 23 + 113; omega⟩ hPc hDc m_nil m_nilA hS hFc rfl rfl rfl rfl hl.1 rfl (Nat.le_of_ble_eq_true rfl) ⟨Nat.zero_le _, Nat.zero_le _⟩ dX0_writes_84 (fun H1 locs hP1 hD1 hz1 hk1 hS => ?_)
          have hP : va_P E.1 vwCl (Acts_c E a t2) H1 := hP1
          have hD : va_D A (Acts_c E a t2) := m_back hD1 hFc
          generalize H1 = H at hP hS ⊢
          refine W.eq (g2 := F0 m 87 ls []) rfl ?_
          refine lv_aload_n hx hb dX0_writes_87 rfl (lv_at hl 0 rfl) ?_
          refine lv_aload_n hx hb dX0_writes_88 rfl (lv_at hl 0 rfl) ?_
          refine va_get (D := E.1) (ci := 0) (v := .int (Acts_kind t2)) (C := RX0) (T := TX0) (N := 5) hx hb hts k1 hown hK hP 0 rfl rfl 2 (by decide) k0 (fun _ h9 => h9) rfl dX0_writes_89 ?_
          refine lv_iload_n hx hb dX0_writes_92 rfl (lv_at hl 1 rfl) ?_
          refine lv_iload_n hx hb dX0_writes_93 rfl (lv_at hl 2 rfl) ?_
          refine lv_iconst (v := 1) hx hb dX0_writes_94 (by decide) ?_
          refine lv_iadd hx hb dX0_writes_95 ?_
          obtain ⟨t3, ht3, hF⟩ := m_bnd hF
          have hPc := hP
          have hDc := hD
          have hFc := va_free (wc := (Acts_c E a t2)) hD hS hA [0, 1] rfl
          refine mVM (ci := 0) (n := 3) (rest := []) (As := [.int (Acts_kind t2), .int x1, .int (x2 + 1)]) CC hKN hGl ((cg_Tk l E 3) a t2 (Acts_kind t2) x1 (x2 + 1) t3 ht3 _) gX0_writes_X0_thinks rfl ⟨rfl, rfl⟩ (by decide +kernel) ⟨by show 4 + 1 ≤ d + 1 + 5; omega, by show 8 + (4 + 11) + 90 ≤ (d + 1) * 23 + 113; omega⟩ hPc hDc m_nil m_nilA hS hFc rfl rfl rfl rfl hl.1 rfl (Nat.le_of_ble_eq_true rfl) ⟨Nat.zero_le _, Nat.zero_le _⟩ dX0_writes_96 (fun H1 locs hP1 hD1 hz1 hk1 hS => ?_)
          have hP : va_P E.1 vwCl (Acts_c E a t3.2) H1 := hP1
          have hD : va_D A (Acts_c E a t3.2) := m_back hD1 hFc
          generalize H1 = H at hP hS ⊢
          refine W.eq (g2 := F0 m 99 ls [.int t3.1]) rfl ?_
          refine lv_aload_n hx hb dX0_writes_99 rfl (lv_at hl 0 rfl) ?_
          refine va_get (D := E.1) (ci := 0) (v := .int (Acts_v t3.2)) (C := RX0) (T := TX0) (N := 5) hx hb hts k1 hown hK hP 0 rfl rfl 3 (by decide) k2 (fun _ h9 => h9) rfl dX0_writes_100 ?_
          refine lv_isub hx hb dX0_writes_103 ?_
          have hF := Option.some.inj hF
          subst hF
          rw [hQ]
          exact W.iret hx hb hr (fun t ht _ => ⟨⟨rfl, by rw [ht]; exact hP, hD⟩, hS.F ht⟩) hS.2.2 dX0_writes_104
        clear hjd82
        obtain ⟨j65, hjd65, hF⟩ := m_jp hF
        have hj65 : ∀ (H : Heap) (locs : List Loc) (ls : Array Slot), j65 () = some t → va_P E.1 vwCl (Acts_c E a v) H → va_D A (Acts_c E a v) → va_S A s.heap H locs → lv_has ls 4 [(0, .ref (Actsa_self a)), (2, .int x1), (3, .int x2)] → W p l e_ (rm_Wr (d + 1)) s m args below meth c H locs 0 0 Q (F0 m 65 ls []) := by
          intro H locs ls hF hP hD hS hl
          rw [hjd65] at hF
          refine lv_aload_n hx hb dX0_writes_65 rfl (lv_at hl 0 rfl) ?_
          refine lv_bipush (v := 21) hx hb dX0_writes_66 (by decide) ?_
          obtain ⟨t4, ht4, hF⟩ := m_bnd hF
          have hPc := hP
          have hDc := hD
          have hFc := va_free (wc := (Acts_c E a v)) hD hS hA [0, 1] rfl
          refine mVM (ci := 0) (n := 1) (rest := []) (As := [.int 21]) CC hKN hGl (c_X0_begins l E a v 21 t4 ht4 _) gX0_writes_X0_begins rfl ⟨rfl, rfl⟩ (by decide +kernel) ⟨by show 0 + 1 ≤ d + 1 + 5; omega, by show 8 + (2 + 11) + 0 ≤ (d + 1) * 23 + 113; omega⟩ hPc hDc m_nil m_nilA hS hFc rfl rfl rfl rfl hl.1 rfl (Nat.le_of_ble_eq_true rfl) ⟨Nat.zero_le _, Nat.zero_le _⟩ dX0_writes_68 (fun H1 locs hP1 hD1 hz1 hk1 hS => ?_)
          have hP : va_P E.1 vwCl (Acts_c E a t4) H1 := hP1
          have hD : va_D A (Acts_c E a t4) := m_back hD1 hFc
          generalize H1 = H at hP hS ⊢
          refine W.eq (g2 := F0 m 71 ls []) rfl ?_
          refine lv_aload_n hx hb dX0_writes_71 rfl (lv_at hl 0 rfl) ?_
          refine lv_iconst (v := 0) hx hb dX0_writes_72 (by decide) ?_
          refine lv_iload_n hx hb dX0_writes_73 rfl (lv_at hl 1 rfl) ?_
          refine lv_iload_n hx hb dX0_writes_74 rfl (lv_at hl 2 rfl) ?_
          refine lv_iconst (v := 1) hx hb dX0_writes_75 (by decide) ?_
          refine lv_iadd hx hb dX0_writes_76 ?_
          obtain ⟨t5, ht5, hF⟩ := m_bnd hF
          have hPc := hP
          have hDc := hD
          have hFc := va_free (wc := (Acts_c E a t4)) hD hS hA [0, 1] rfl
          refine mVM (ci := 0) (n := 3) (rest := []) (As := [.int 0, .int x1, .int (x2 + 1)]) CC hKN hGl (ihd a t4 0 x1 (x2 + 1) t5 ht5 _) gX0_writes_X0_writes rfl ⟨rfl, rfl⟩ (by decide +kernel) ⟨by show d + 5 + 1 ≤ d + 1 + 5; omega, by show 8 + (4 + 11) + (d * 23 + 113) ≤ (d + 1) * 23 + 113; omega⟩ hPc hDc m_nil m_nilA hS hFc rfl rfl rfl rfl hl.1 rfl (Nat.le_of_ble_eq_true rfl) ⟨Nat.zero_le _, Nat.zero_le _⟩ dX0_writes_77 (fun H1 locs hP1 hD1 hz1 hk1 hS => ?_)
          have hP : va_P E.1 vwCl (Acts_c E a t5.2) H1 := hP1
          have hD : va_D A (Acts_c E a t5.2) := m_back hD1 hFc
          generalize H1 = H at hP hS ⊢
          refine W.eq (g2 := F0 m 80 ls [.int t5.1]) rfl ?_
          refine lv_ineg hx hb dX0_writes_80 ?_
          have hF := Option.some.inj hF
          subst hF
          rw [hQ]
          exact W.iret hx hb hr (fun t ht _ => ⟨⟨rfl, by rw [ht]; exact hP, hD⟩, hS.F ht⟩) hS.2.2 dX0_writes_81
        clear hjd65
        by_cases c6 : x0 = 2
        · have hF := m_pos c6 hF
          refine lv_tableIn (off := 56) (tgt := 65) hx hb dX0_writes_9 (by rw [c6]; decide) (by rw [c6]; decide) (by rw [c6]; rfl) (by decide) ?_
          exact hj65 H locs ls hF hP hD hS (lv_sub hl [0, 2, 3] rfl)
        · have hF := m_neg c6 hF
          by_cases c7 : x0 = 3
          · have hF := m_pos c7 hF
            refine lv_tableIn (off := 73) (tgt := 82) hx hb dX0_writes_9 (by rw [c7]; decide) (by rw [c7]; decide) (by rw [c7]; rfl) (by decide) ?_
            exact hj82 H locs ls hF hP hD hS (lv_sub hl [0, 2, 3] rfl)
          · have hF := m_neg c7 hF
            by_cases c8 : x0 = 4
            · have hF := m_pos c8 hF
              refine lv_tableIn (off := 73) (tgt := 82) hx hb dX0_writes_9 (by rw [c8]; decide) (by rw [c8]; decide) (by rw [c8]; rfl) (by decide) ?_
              exact hj82 H locs ls hF hP hD hS (lv_sub hl [0, 2, 3] rfl)
            · have hF := m_neg c8 hF
              by_cases c9 : x0 = 5
              · have hF := m_pos c9 hF
                refine lv_tableIn (off := 56) (tgt := 65) hx hb dX0_writes_9 (by rw [c9]; decide) (by rw [c9]; decide) (by rw [c9]; rfl) (by decide) ?_
                exact hj65 H locs ls hF hP hD hS (lv_sub hl [0, 2, 3] rfl)
              · have hF := m_neg c9 hF
                by_cases c10 : x0 = 6
                · have hF := m_pos c10 hF
                  refine lv_tableIn (off := 35) (tgt := 44) hx hb dX0_writes_9 (by rw [c10]; decide) (by rw [c10]; decide) (by rw [c10]; rfl) (by decide) ?_
                  refine lv_aload_n hx hb dX0_writes_44 rfl (lv_at hl 0 rfl) ?_
                  refine lv_bipush (v := 61) hx hb dX0_writes_45 (by decide) ?_
                  obtain ⟨t11, ht11, hF⟩ := m_bnd hF
                  have hPc := hP
                  have hDc := hD
                  have hFc := va_free (wc := (Acts_c E a v)) hD hS hA [0, 1] rfl
                  refine mVM (ci := 0) (n := 1) (rest := []) (As := [.int 61]) CC hKN hGl (c_X0_begins l E a v 61 t11 ht11 _) gX0_writes_X0_begins rfl ⟨rfl, rfl⟩ (by decide +kernel) ⟨by show 0 + 1 ≤ d + 1 + 5; omega, by show 8 + (2 + 11) + 0 ≤ (d + 1) * 23 + 113; omega⟩ hPc hDc m_nil m_nilA hS hFc rfl rfl rfl rfl hl.1 rfl (Nat.le_of_ble_eq_true rfl) ⟨Nat.zero_le _, Nat.zero_le _⟩ dX0_writes_47 (fun H1 locs hP1 hD1 hz1 hk1 hS => ?_)
                  have hP : va_P E.1 vwCl (Acts_c E a t11) H1 := hP1
                  have hD : va_D A (Acts_c E a t11) := m_back hD1 hFc
                  generalize H1 = H at hP hS ⊢
                  refine W.eq (g2 := F0 m 50 ls []) rfl ?_
                  refine lv_aload_n hx hb dX0_writes_50 rfl (lv_at hl 0 rfl) ?_
                  refine lv_iconst (v := 3) hx hb dX0_writes_51 (by decide) ?_
                  refine lv_iload_n hx hb dX0_writes_52 rfl (lv_at hl 2 rfl) ?_
                  refine lv_iload_n hx hb dX0_writes_53 rfl (lv_at hl 3 rfl) ?_
                  refine lv_iconst (v := 1) hx hb dX0_writes_54 (by decide) ?_
                  refine lv_iadd hx hb dX0_writes_55 ?_
                  obtain ⟨t12, ht12, hF⟩ := m_bnd hF
                  have hPc := hP
                  have hDc := hD
                  have hFc := va_free (wc := (Acts_c E a t11)) hD hS hA [0, 1] rfl
                  refine mVM (ci := 0) (n := 3) (rest := []) (As := [.int 3, .int x1, .int (x2 + 1)]) CC hKN hGl (ihd a t11 3 x1 (x2 + 1) t12 ht12 _) gX0_writes_X0_writes rfl ⟨rfl, rfl⟩ (by decide +kernel) ⟨by show d + 5 + 1 ≤ d + 1 + 5; omega, by show 8 + (4 + 11) + (d * 23 + 113) ≤ (d + 1) * 23 + 113; omega⟩ hPc hDc m_nil m_nilA hS hFc rfl rfl rfl rfl hl.1 rfl (Nat.le_of_ble_eq_true rfl) ⟨Nat.zero_le _, Nat.zero_le _⟩ dX0_writes_56 (fun H1 locs hP1 hD1 hz1 hk1 hS => ?_)
                  have hP : va_P E.1 vwCl (Acts_c E a t12.2) H1 := hP1
                  have hD : va_D A (Acts_c E a t12.2) := m_back hD1 hFc
                  generalize H1 = H at hP hS ⊢
                  refine W.eq (g2 := F0 m 59 ls [.int t12.1]) rfl ?_
                  refine lv_aload_n hx hb dX0_writes_59 rfl (lv_at hl 0 rfl) ?_
                  refine va_get (D := E.1) (ci := 0) (v := .int (Acts_v t12.2)) (C := RX0) (T := TX0) (N := 5) hx hb hts k1 hown hK hP 0 rfl rfl 3 (by decide) k2 (fun _ h9 => h9) rfl dX0_writes_60 ?_
                  refine lv_iadd hx hb dX0_writes_63 ?_
                  have hF := Option.some.inj hF
                  subst hF
                  rw [hQ]
                  exact W.iret hx hb hr (fun t ht _ => ⟨⟨rfl, by rw [ht]; exact hP, hD⟩, hS.F ht⟩) hS.2.2 dX0_writes_64
                · have hF := m_neg c10 hF
                  have qc6 := lv_neT (a := 2) c6 rfl
                  have qc7 := lv_neT (a := 3) c7 rfl
                  have qc8 := lv_neT (a := 4) c8 rfl
                  have qc9 := lv_neT (a := 5) c9 rfl
                  have qc10 := lv_neT (a := 6) c10 rfl
                  refine lv_tableOut (tgt := 82) hx hb dX0_writes_9 (by omega) (by decide) ?_
                  exact hj82 H locs ls hF hP hD hS (lv_sub hl [0, 2, 3] rfl)
      · have hF := m_neg c1 hF
        refine lv_iconst (v := 0) hx hb dX0_writes_6 (by decide) ?_
        have hF := Option.some.inj hF
        subst hF
        rw [hQ]
        exact W.iret hx hb hr (fun t ht _ => ⟨⟨rfl, by rw [ht]; exact hP, hD⟩, hS.F ht⟩) hS.2.2 dX0_writes_7


abbrev rm_Tl (d : Nat) : Room := { frames := d + 9, cells := 0, slots := 0, locals := d * 23 + 205 }
set_option maxRecDepth 100000 in
set_option maxHeartbeats 400000 in
theorem cg_Tl (l : Launch) (E : mE) : ∀ d : Nat, (∀ (a : ActsA) (v : ActsV) (x0 : Int32) (x1 : Int32) (x2 : Int32) (t : (Int32 × ActsV)) (_ : fn_X0_tells d v x0 x1 x2 = some t) (sz : Nat), Met l yX0_tells wsX0_tells (rm_Tl d) (mPm E [.ref (Actsa_self a), .int x0, .int x1, .int x2] sz ((Acts_c E a v)) (([] : va_W))) (mSm E (some (.int t.1)) ((Acts_c E a t.2)) (va_A ((Acts_c E a v)) sz)) 0 0 (va_A ((Acts_c E a v)) sz)) := by
  intro d
  induction d with
  | zero =>
    refine ?_
    · intro a v x0 x1 x2 t hF
      exact nomatch (show (none : Option (Int32 × ActsV)) = some t from hF)
  | succ d ihd =>
    refine ?_
    · intro a v x0 x1 x2 t hF sz
      refine mOfM (cc := cX0_tells) (maxL := 4) (ret := (some .int)) (by decide) rfl (Nat.le_of_ble_eq_true rfl) ?_
      intro p e_ s m args below meth c Q A hQ CC hr hlocks hin hA hP hD hKN hGl hR0 hRA ls hl
      have hS : va_S A s.heap s.heap [] := va_S.rf
      have hK := hKN.1
      have hx := CC.1
      have hb := CC.2.1
      have hml := CC.2.2.1
      have hown : s.vm.findClass RX0 = some m.cls := CC.2.2.2.1
      have hts := CC.2.2.2.2
      have hl : lv_has ls 4 [(0, .ref (Actsa_self a)), (1, .int x0), (2, .int x1), (3, .int x2)] := hl
      have k0 := hts (.fieldLink RX0 19 "OneDidAll$Acts" "kind" "I") (by decide +kernel)
      have k1 := (show ∀ w ∈ u_ws RX0 TX0 5, w ∈ wsX0_tells by decide +kernel)
      have hP : va_P E.1 vwCl (Acts_c E a v) s.heap := hP
      obtain ⟨H, hH⟩ : ∃ H, H = s.heap := ⟨_, rfl⟩
      obtain ⟨locs, hlc⟩ : ∃ z : List Loc, z = [] := ⟨_, rfl⟩
      rw [← hH] at hP
      rw [← hlc] at hS
      have hS : va_S A s.heap H locs := by rw [hH]; exact hS
      rw [← hH, ← hlc]
      have hF : bd_X0_tells (gr_Tl d) v x0 x1 x2 = some t := hF
      unfold bd_X0_tells at hF
      refine lv_iload_n hx hb dX0_tells_0 rfl (lv_at hl 3 rfl) ?_
      refine lv_bipush (v := 9) hx hb dX0_tells_1 (by decide) ?_
      refine lv_icmp_le (tgt := 8) hx hb dX0_tells_3 (by decide) (fun c1 => ?_) (fun c1 => ?_)
      · have hF := m_pos c1 hF
        refine lv_iload_n hx hb dX0_tells_8 rfl (lv_at hl 1 rfl) ?_
        obtain ⟨j90, hjd90, hF⟩ := m_jp hF
        have hj90 : ∀ (H : Heap) (locs : List Loc) (ls : Array Slot), j90 () = some t → va_P E.1 vwCl (Acts_c E a v) H → va_D A (Acts_c E a v) → va_S A s.heap H locs → lv_has ls 4 [(0, .ref (Actsa_self a)), (2, .int x1), (3, .int x2)] → W p l e_ (rm_Tl (d + 1)) s m args below meth c H locs 0 0 Q (F0 m 90 ls []) := by
          intro H locs ls hF hP hD hS hl
          rw [hjd90] at hF
          refine lv_aload_n hx hb dX0_tells_90 rfl (lv_at hl 0 rfl) ?_
          refine lv_iconst (v := 3) hx hb dX0_tells_91 (by decide) ?_
          obtain ⟨t2, ht2, hF⟩ := m_bnd hF
          have hPc := hP
          have hDc := hD
          have hFc := va_free (wc := (Acts_c E a v)) hD hS hA [0, 1] rfl
          refine mVM (ci := 0) (n := 1) (rest := []) (As := [.int 3]) CC hKN hGl (c_X0_begins l E a v 3 t2 ht2 _) gX0_tells_X0_begins rfl ⟨rfl, rfl⟩ (by decide +kernel) ⟨by show 0 + 1 ≤ d + 1 + 9; omega, by show 8 + (2 + 11) + 0 ≤ (d + 1) * 23 + 205; omega⟩ hPc hDc m_nil m_nilA hS hFc rfl rfl rfl rfl hl.1 rfl (Nat.le_of_ble_eq_true rfl) ⟨Nat.zero_le _, Nat.zero_le _⟩ dX0_tells_92 (fun H1 locs hP1 hD1 hz1 hk1 hS => ?_)
          have hP : va_P E.1 vwCl (Acts_c E a t2) H1 := hP1
          have hD : va_D A (Acts_c E a t2) := m_back hD1 hFc
          generalize H1 = H at hP hS ⊢
          refine W.eq (g2 := F0 m 95 ls []) rfl ?_
          refine lv_aload_n hx hb dX0_tells_95 rfl (lv_at hl 0 rfl) ?_
          refine lv_aload_n hx hb dX0_tells_96 rfl (lv_at hl 0 rfl) ?_
          refine va_get (D := E.1) (ci := 0) (v := .int (Acts_kind t2)) (C := RX0) (T := TX0) (N := 5) hx hb hts k1 hown hK hP 0 rfl rfl 2 (by decide) k0 (fun _ h9 => h9) rfl dX0_tells_97 ?_
          refine lv_iload_n hx hb dX0_tells_100 rfl (lv_at hl 1 rfl) ?_
          refine lv_iload_n hx hb dX0_tells_101 rfl (lv_at hl 2 rfl) ?_
          refine lv_iconst (v := 1) hx hb dX0_tells_102 (by decide) ?_
          refine lv_iadd hx hb dX0_tells_103 ?_
          obtain ⟨t3, ht3, hF⟩ := m_bnd hF
          have hPc := hP
          have hDc := hD
          have hFc := va_free (wc := (Acts_c E a t2)) hD hS hA [0, 1] rfl
          refine mVM (ci := 0) (n := 3) (rest := []) (As := [.int (Acts_kind t2), .int x1, .int (x2 + 1)]) CC hKN hGl ((cg_Wr l E 3) a t2 (Acts_kind t2) x1 (x2 + 1) t3 ht3 _) gX0_tells_X0_writes rfl ⟨rfl, rfl⟩ (by decide +kernel) ⟨by show 8 + 1 ≤ d + 1 + 9; omega, by show 8 + (4 + 11) + 182 ≤ (d + 1) * 23 + 205; omega⟩ hPc hDc m_nil m_nilA hS hFc rfl rfl rfl rfl hl.1 rfl (Nat.le_of_ble_eq_true rfl) ⟨Nat.zero_le _, Nat.zero_le _⟩ dX0_tells_104 (fun H1 locs hP1 hD1 hz1 hk1 hS => ?_)
          have hP : va_P E.1 vwCl (Acts_c E a t3.2) H1 := hP1
          have hD : va_D A (Acts_c E a t3.2) := m_back hD1 hFc
          generalize H1 = H at hP hS ⊢
          refine W.eq (g2 := F0 m 107 ls [.int t3.1]) rfl ?_
          refine lv_iconst (v := 2) hx hb dX0_tells_107 (by decide) ?_
          refine lv_imul hx hb dX0_tells_108 ?_
          have hF := Option.some.inj hF
          subst hF
          rw [hQ]
          exact W.iret hx hb hr (fun t ht _ => ⟨⟨rfl, by rw [ht]; exact hP, hD⟩, hS.F ht⟩) hS.2.2 dX0_tells_109
        clear hjd90
        obtain ⟨j40, hjd40, hF⟩ := m_jp hF
        have hj40 : ∀ (H : Heap) (locs : List Loc) (ls : Array Slot), j40 () = some t → va_P E.1 vwCl (Acts_c E a v) H → va_D A (Acts_c E a v) → va_S A s.heap H locs → lv_has ls 4 [(0, .ref (Actsa_self a)), (2, .int x1), (3, .int x2)] → W p l e_ (rm_Tl (d + 1)) s m args below meth c H locs 0 0 Q (F0 m 40 ls []) := by
          intro H locs ls hF hP hD hS hl
          rw [hjd40] at hF
          refine lv_aload_n hx hb dX0_tells_40 rfl (lv_at hl 0 rfl) ?_
          refine lv_bipush (v := 31) hx hb dX0_tells_41 (by decide) ?_
          obtain ⟨t4, ht4, hF⟩ := m_bnd hF
          have hPc := hP
          have hDc := hD
          have hFc := va_free (wc := (Acts_c E a v)) hD hS hA [0, 1] rfl
          refine mVM (ci := 0) (n := 1) (rest := []) (As := [.int 31]) CC hKN hGl (c_X0_begins l E a v 31 t4 ht4 _) gX0_tells_X0_begins rfl ⟨rfl, rfl⟩ (by decide +kernel) ⟨by show 0 + 1 ≤ d + 1 + 9; omega, by show 8 + (2 + 11) + 0 ≤ (d + 1) * 23 + 205; omega⟩ hPc hDc m_nil m_nilA hS hFc rfl rfl rfl rfl hl.1 rfl (Nat.le_of_ble_eq_true rfl) ⟨Nat.zero_le _, Nat.zero_le _⟩ dX0_tells_43 (fun H1 locs hP1 hD1 hz1 hk1 hS => ?_)
          have hP : va_P E.1 vwCl (Acts_c E a t4) H1 := hP1
          have hD : va_D A (Acts_c E a t4) := m_back hD1 hFc
          generalize H1 = H at hP hS ⊢
          refine W.eq (g2 := F0 m 46 ls []) rfl ?_
          refine lv_aload_n hx hb dX0_tells_46 rfl (lv_at hl 0 rfl) ?_
          refine lv_iconst (v := 0) hx hb dX0_tells_47 (by decide) ?_
          refine lv_iload_n hx hb dX0_tells_48 rfl (lv_at hl 1 rfl) ?_
          refine lv_iload_n hx hb dX0_tells_49 rfl (lv_at hl 2 rfl) ?_
          refine lv_iconst (v := 1) hx hb dX0_tells_50 (by decide) ?_
          refine lv_iadd hx hb dX0_tells_51 ?_
          obtain ⟨t5, ht5, hF⟩ := m_bnd hF
          have hPc := hP
          have hDc := hD
          have hFc := va_free (wc := (Acts_c E a t4)) hD hS hA [0, 1] rfl
          refine mVM (ci := 0) (n := 3) (rest := []) (As := [.int 0, .int x1, .int (x2 + 1)]) CC hKN hGl (ihd a t4 0 x1 (x2 + 1) t5 ht5 _) gX0_tells_X0_tells rfl ⟨rfl, rfl⟩ (by decide +kernel) ⟨by show d + 9 + 1 ≤ d + 1 + 9; omega, by show 8 + (4 + 11) + (d * 23 + 205) ≤ (d + 1) * 23 + 205; omega⟩ hPc hDc m_nil m_nilA hS hFc rfl rfl rfl rfl hl.1 rfl (Nat.le_of_ble_eq_true rfl) ⟨Nat.zero_le _, Nat.zero_le _⟩ dX0_tells_52 (fun H1 locs hP1 hD1 hz1 hk1 hS => ?_)
          have hP : va_P E.1 vwCl (Acts_c E a t5.2) H1 := hP1
          have hD : va_D A (Acts_c E a t5.2) := m_back hD1 hFc
          generalize H1 = H at hP hS ⊢
          refine W.eq (g2 := F0 m 55 ls [.int t5.1]) rfl ?_
          refine lv_bipush (v := 7) hx hb dX0_tells_55 (by decide) ?_
          refine lv_ixor hx hb dX0_tells_57 ?_
          have hF := Option.some.inj hF
          subst hF
          rw [hQ]
          exact W.iret hx hb hr (fun t ht _ => ⟨⟨rfl, by rw [ht]; exact hP, hD⟩, hS.F ht⟩) hS.2.2 dX0_tells_58
        clear hjd40
        by_cases c6 : x0 = 3
        · have hF := m_pos c6 hF
          refine lv_tableIn (off := 31) (tgt := 40) hx hb dX0_tells_9 (by rw [c6]; decide) (by rw [c6]; decide) (by rw [c6]; rfl) (by decide) ?_
          exact hj40 H locs ls hF hP hD hS (lv_sub hl [0, 2, 3] rfl)
        · have hF := m_neg c6 hF
          by_cases c7 : x0 = 4
          · have hF := m_pos c7 hF
            refine lv_tableIn (off := 50) (tgt := 59) hx hb dX0_tells_9 (by rw [c7]; decide) (by rw [c7]; decide) (by rw [c7]; rfl) (by decide) ?_
            refine lv_aload_n hx hb dX0_tells_59 rfl (lv_at hl 0 rfl) ?_
            refine lv_bipush (v := 41) hx hb dX0_tells_60 (by decide) ?_
            obtain ⟨t8, ht8, hF⟩ := m_bnd hF
            have hPc := hP
            have hDc := hD
            have hFc := va_free (wc := (Acts_c E a v)) hD hS hA [0, 1] rfl
            refine mVM (ci := 0) (n := 1) (rest := []) (As := [.int 41]) CC hKN hGl (c_X0_begins l E a v 41 t8 ht8 _) gX0_tells_X0_begins rfl ⟨rfl, rfl⟩ (by decide +kernel) ⟨by show 0 + 1 ≤ d + 1 + 9; omega, by show 8 + (2 + 11) + 0 ≤ (d + 1) * 23 + 205; omega⟩ hPc hDc m_nil m_nilA hS hFc rfl rfl rfl rfl hl.1 rfl (Nat.le_of_ble_eq_true rfl) ⟨Nat.zero_le _, Nat.zero_le _⟩ dX0_tells_62 (fun H1 locs hP1 hD1 hz1 hk1 hS => ?_)
            have hP : va_P E.1 vwCl (Acts_c E a t8) H1 := hP1
            have hD : va_D A (Acts_c E a t8) := m_back hD1 hFc
            generalize H1 = H at hP hS ⊢
            refine W.eq (g2 := F0 m 65 ls []) rfl ?_
            refine lv_aload_n hx hb dX0_tells_65 rfl (lv_at hl 0 rfl) ?_
            refine lv_iconst (v := 1) hx hb dX0_tells_66 (by decide) ?_
            refine lv_iload_n hx hb dX0_tells_67 rfl (lv_at hl 2 rfl) ?_
            refine lv_iconst (v := 1) hx hb dX0_tells_68 (by decide) ?_
            refine lv_isub hx hb dX0_tells_69 ?_
            refine lv_iload_n hx hb dX0_tells_70 rfl (lv_at hl 3 rfl) ?_
            refine lv_iconst (v := 1) hx hb dX0_tells_71 (by decide) ?_
            refine lv_iadd hx hb dX0_tells_72 ?_
            obtain ⟨t9, ht9, hF⟩ := m_bnd hF
            have hPc := hP
            have hDc := hD
            have hFc := va_free (wc := (Acts_c E a t8)) hD hS hA [0, 1] rfl
            refine mVM (ci := 0) (n := 3) (rest := []) (As := [.int 1, .int (x1 - 1), .int (x2 + 1)]) CC hKN hGl (ihd a t8 1 (x1 - 1) (x2 + 1) t9 ht9 _) gX0_tells_X0_tells rfl ⟨rfl, rfl⟩ (by decide +kernel) ⟨by show d + 9 + 1 ≤ d + 1 + 9; omega, by show 8 + (4 + 11) + (d * 23 + 205) ≤ (d + 1) * 23 + 205; omega⟩ hPc hDc m_nil m_nilA hS hFc rfl rfl rfl rfl hl.1 rfl (Nat.le_of_ble_eq_true rfl) ⟨Nat.zero_le _, Nat.zero_le _⟩ dX0_tells_73 (fun H1 locs hP1 hD1 hz1 hk1 hS => ?_)
            have hP : va_P E.1 vwCl (Acts_c E a t9.2) H1 := hP1
            have hD : va_D A (Acts_c E a t9.2) := m_back hD1 hFc
            generalize H1 = H at hP hS ⊢
            refine W.eq (g2 := F0 m 76 ls [.int t9.1]) rfl ?_
            refine lv_aload_n hx hb dX0_tells_76 rfl (lv_at hl 0 rfl) ?_
            refine lv_aload_n hx hb dX0_tells_77 rfl (lv_at hl 0 rfl) ?_
            refine va_get (D := E.1) (ci := 0) (v := .int (Acts_kind t9.2)) (C := RX0) (T := TX0) (N := 5) hx hb hts k1 hown hK hP 0 rfl rfl 2 (by decide) k0 (fun _ h9 => h9) rfl dX0_tells_78 ?_
            refine lv_iconst (v := 2) hx hb dX0_tells_81 (by decide) ?_
            refine lv_iload_n hx hb dX0_tells_82 rfl (lv_at hl 3 rfl) ?_
            refine lv_iconst (v := 1) hx hb dX0_tells_83 (by decide) ?_
            refine lv_iadd hx hb dX0_tells_84 ?_
            obtain ⟨t10, ht10, hF⟩ := m_bnd hF
            have hPc := hP
            have hDc := hD
            have hFc := va_free (wc := (Acts_c E a t9.2)) hD hS hA [0, 1] rfl
            refine mVM (ci := 0) (n := 3) (rest := [.int t9.1]) (As := [.int (Acts_kind t9.2), .int 2, .int (x2 + 1)]) CC hKN hGl ((cg_Tk l E 3) a t9.2 (Acts_kind t9.2) 2 (x2 + 1) t10 ht10 _) gX0_tells_X0_thinks rfl ⟨rfl, rfl⟩ (by decide +kernel) ⟨by show 4 + 1 ≤ d + 1 + 9; omega, by show 8 + (4 + 11) + 90 ≤ (d + 1) * 23 + 205; omega⟩ hPc hDc m_nil m_nilA hS hFc rfl rfl rfl rfl hl.1 rfl (Nat.le_of_ble_eq_true rfl) ⟨Nat.zero_le _, Nat.zero_le _⟩ dX0_tells_85 (fun H1 locs hP1 hD1 hz1 hk1 hS => ?_)
            have hP : va_P E.1 vwCl (Acts_c E a t10.2) H1 := hP1
            have hD : va_D A (Acts_c E a t10.2) := m_back hD1 hFc
            generalize H1 = H at hP hS ⊢
            refine W.eq (g2 := F0 m 88 ls [.int t10.1, .int t9.1]) rfl ?_
            refine lv_iadd hx hb dX0_tells_88 ?_
            have hF := Option.some.inj hF
            subst hF
            rw [hQ]
            exact W.iret hx hb hr (fun t ht _ => ⟨⟨rfl, by rw [ht]; exact hP, hD⟩, hS.F ht⟩) hS.2.2 dX0_tells_89
          · have hF := m_neg c7 hF
            by_cases c11 : x0 = 5
            · have hF := m_pos c11 hF
              refine lv_tableIn (off := 81) (tgt := 90) hx hb dX0_tells_9 (by rw [c11]; decide) (by rw [c11]; decide) (by rw [c11]; rfl) (by decide) ?_
              exact hj90 H locs ls hF hP hD hS (lv_sub hl [0, 2, 3] rfl)
            · have hF := m_neg c11 hF
              by_cases c12 : x0 = 6
              · have hF := m_pos c12 hF
                refine lv_tableIn (off := 31) (tgt := 40) hx hb dX0_tells_9 (by rw [c12]; decide) (by rw [c12]; decide) (by rw [c12]; rfl) (by decide) ?_
                exact hj40 H locs ls hF hP hD hS (lv_sub hl [0, 2, 3] rfl)
              · have hF := m_neg c12 hF
                have qc6 := lv_neT (a := 3) c6 rfl
                have qc7 := lv_neT (a := 4) c7 rfl
                have qc11 := lv_neT (a := 5) c11 rfl
                have qc12 := lv_neT (a := 6) c12 rfl
                refine lv_tableOut (tgt := 90) hx hb dX0_tells_9 (by omega) (by decide) ?_
                exact hj90 H locs ls hF hP hD hS (lv_sub hl [0, 2, 3] rfl)
      · have hF := m_neg c1 hF
        refine lv_iconst (v := 0) hx hb dX0_tells_6 (by decide) ?_
        have hF := Option.some.inj hF
        subst hF
        rw [hQ]
        exact W.iret hx hb hr (fun t ht _ => ⟨⟨rfl, by rw [ht]; exact hP, hD⟩, hS.F ht⟩) hS.2.2 dX0_tells_7


abbrev rm_Fa (d : Nat) : Room := { frames := d + 5, cells := 0, slots := 0, locals := d * 24 + 107 }
set_option maxRecDepth 100000 in
set_option maxHeartbeats 400000 in
theorem cg_Fa (l : Launch) (E : mE) : ∀ d : Nat, (∀ (a : ModelA) (v : ModelV) (t : ModelV) (_ : fn_X8_factor d v = some t) (sz : Nat), Met l yX8_factor wsX8_factor (rm_Fa d) (mPm E [.ref (Modela_self a)] sz ((Model_c E a v)) (([] : va_W))) (mSm E (none) ((Model_c E a t)) (va_A ((Model_c E a v)) sz)) 0 0 (va_A ((Model_c E a v)) sz)) ∧ (∀ (a : ModelA) (v : ModelV) (t : ModelV) (_ : fn_X8_every d v = some t) (sz : Nat), Met l yX8_every wsX8_every (rm_Fa d) (mPm E [.ref (Modela_self a)] sz ((Model_c E a v)) (([] : va_W))) (mSm E (none) ((Model_c E a t)) (va_A ((Model_c E a v)) sz)) 0 0 (va_A ((Model_c E a v)) sz)) ∧ (∀ (a : ModelA) (v : ModelV) (t : ModelV) (_ : fn_X8_some d v = some t) (sz : Nat), Met l yX8_some wsX8_some (rm_Fa d) (mPm E [.ref (Modela_self a)] sz ((Model_c E a v)) (([] : va_W))) (mSm E (none) ((Model_c E a t)) (va_A ((Model_c E a v)) sz)) 0 0 (va_A ((Model_c E a v)) sz)) := by
  intro d
  induction d with
  | zero =>
    refine ⟨?_, ?_, ?_⟩
    · intro a v t hF
      exact nomatch (show (none : Option ModelV) = some t from hF)
    · intro a v t hF
      exact nomatch (show (none : Option ModelV) = some t from hF)
    · intro a v t hF
      exact nomatch (show (none : Option ModelV) = some t from hF)
  | succ d ihd =>
    refine ⟨?_, ?_, ?_⟩
    · intro a v t hF sz
      refine mOfM (cc := cX8_factor) (maxL := 5) (ret := none) (by decide) rfl (Nat.le_of_ble_eq_true rfl) ?_
      intro p e_ s m args below meth c Q A hQ CC hr hlocks hin hA hP hD hKN hGl hR0 hRA ls hl
      have hS : va_S A s.heap s.heap [] := va_S.rf
      have hK := hKN.1
      have hx := CC.1
      have hb := CC.2.1
      have hml := CC.2.2.1
      have hown : s.vm.findClass RX8 = some m.cls := CC.2.2.2.1
      have hts := CC.2.2.2.2
      have hl : lv_has ls 5 [(0, .ref (Modela_self a))] := hl
      have k0 := hts (.fieldLink RX8 48 "OneDidAllModel" "isWrong" "Z") (by decide +kernel)
      have k1 := (show ∀ w ∈ u_ws RX8 TX8 20, w ∈ wsX8_factor by decide +kernel)
      have k2 := hts (.fieldLink RX8 72 "OneDidAllModel" "open" "I") (by decide +kernel)
      have k3 := hts (.fieldLink RX8 42 "OneDidAllModel" "spot" "I") (by decide +kernel)
      have k4 := (hKN.2.2.2.1 ("OneDidAllModel", 84, "pkvshw", 0) (by decide +kernel))
      have k5 := (hKN.2.2.2.1 ("OneDidAllModel", 90, "<=>", 1) (by decide +kernel))
      have hP : va_P E.1 vwCl (Model_c E a v) s.heap := hP
      obtain ⟨H, hH⟩ : ∃ H, H = s.heap := ⟨_, rfl⟩
      obtain ⟨locs, hlc⟩ : ∃ z : List Loc, z = [] := ⟨_, rfl⟩
      rw [← hH] at hP
      rw [← hlc] at hS
      have hS : va_S A s.heap H locs := by rw [hH]; exact hS
      rw [← hH, ← hlc]
      have hF : bd_X8_factor (gr_Fa d).1 (gr_Fa d).2.1 (gr_Fa d).2.2 v = some t := hF
      unfold bd_X8_factor at hF
      refine lv_aload_n hx hb dX8_factor_0 rfl (lv_at hl 0 rfl) ?_
      refine va_get (D := E.1) (ci := 8) (v := .int (Model_isWrong v)) (C := RX8) (T := TX8) (N := 20) hx hb hts k1 hown hK hP 0 rfl rfl 8 (by decide) k0 (fun _ h9 => h9) rfl dX8_factor_1 ?_
      refine lv_if_eq (tgt := 8) hx hb dX8_factor_4 (by decide) (fun c1 => ?_) (fun c1 => ?_)
      · have hF := m_pos c1 hF
        refine lv_aload_n hx hb dX8_factor_8 rfl (lv_at hl 0 rfl) ?_
        obtain ⟨t2, ht2, hF⟩ := m_bnd hF
        refine mVP (ci := 8) (n := 0) (rest := []) (As := []) CC hKN hGl hS (c_X8_here l E a v t2 ht2) gX8_factor_X8_here rfl ⟨rfl, rfl⟩ (by decide +kernel) ⟨by show 0 + 1 ≤ d + 1 + 5; omega, by show 8 + (1 + 11) + 0 ≤ (d + 1) * 24 + 107; omega⟩ hP rfl rfl rfl rfl hl.1 rfl (Nat.le_of_ble_eq_true rfl) ⟨Nat.zero_le _, Nat.zero_le _⟩ dX8_factor_9 ?_
        refine W.eq (g2 := F0 m 12 ls [.int t2]) rfl ?_
        refine lv_istore_n (lv' := [(1, .int t2), (0, .ref (Modela_self a))]) hx hb dX8_factor_12 rfl hl (by decide) rfl (fun ls hl => ?_)
        refine lv_iload_n hx hb dX8_factor_13 rfl (lv_at hl 0 rfl) ?_
        refine lv_bipush (v := 33) hx hb dX8_factor_14 (by decide) ?_
        obtain ⟨j25, hjd25, hF⟩ := m_jp hF
        have hj25 : ∀ (H : Heap) (locs : List Loc) (ls : Array Slot), j25 () = some t → va_P E.1 vwCl (Model_c E a v) H → va_D A (Model_c E a v) → va_S A s.heap H locs → lv_has ls 5 [(0, .ref (Modela_self a)), (1, .int t2)] → W p l e_ (rm_Fa (d + 1)) s m args below meth c H locs 0 0 Q (F0 m 25 ls []) := by
          intro H locs ls hF hP hD hS hl
          rw [hjd25] at hF
          refine lv_aload_n hx hb dX8_factor_25 rfl (lv_at hl 0 rfl) ?_
          refine lv_aload_n hx hb dX8_factor_26 rfl (lv_at hl 0 rfl) ?_
          refine va_get (D := E.1) (ci := 8) (v := .int (Model_open v)) (C := RX8) (T := TX8) (N := 20) hx hb hts k1 hown hK hP 0 rfl rfl 9 (by decide) k2 (fun _ h9 => h9) rfl dX8_factor_27 ?_
          refine lv_iconst (v := 5) hx hb dX8_factor_30 (by decide) ?_
          obtain ⟨j39, hjd39, hF⟩ := m_jp hF
          have hj39 : ∀ (z0_39 : Int32) (H : Heap) (locs : List Loc) (ls : Array Slot), j39 z0_39 = some t → va_P E.1 vwCl (Model_c E a v) H → va_D A (Model_c E a v) → va_S A s.heap H locs → lv_has ls 5 [(0, .ref (Modela_self a)), (1, .int t2)] → W p l e_ (rm_Fa (d + 1)) s m args below meth c H locs 0 0 Q (F0 m 39 ls [.int z0_39, .ref (Modela_self a)]) := by
            intro z0_39 H locs ls hF hP hD hS hl
            rw [hjd39] at hF
            obtain ⟨h3, hF⟩ := m_chk hF
            refine va_put (D := E.1) (ci := 8) (v := .int z0_39) (ty := .boolean) (C := RX8) (T := TX8) (N := 20) hx hb hts k1 tyX8 tyX8_ok nmX8 hown hK hP hD hS 0 rfl rfl 8 (by decide) k0 (fun _ h9 => h9) rfl (by decide +kernel) (mBit_nar h3) (mBit_fit h3) (Nat.le_of_ble_eq_true rfl) dX8_factor_39 (fun H locs hP hD hS => ?_)
            have hP : va_P E.1 vwCl (Model_c E a (Model_isWrong_s v z0_39)) H := hP
            have hD : va_D A (Model_c E a (Model_isWrong_s v z0_39)) := hD
            refine lv_aload_n hx hb dX8_factor_42 rfl (lv_at hl 0 rfl) ?_
            refine lv_dup hx hb dX8_factor_43 rfl ?_
            refine va_get (D := E.1) (ci := 8) (v := .int (Model_open v)) (C := RX8) (T := TX8) (N := 20) hx hb hts k1 hown hK hP 0 rfl rfl 9 (by decide) k2 (fun _ h9 => h9) rfl dX8_factor_44 ?_
            refine lv_iconst (v := 1) hx hb dX8_factor_47 (by decide) ?_
            refine lv_iadd hx hb dX8_factor_48 ?_
            refine va_put (D := E.1) (ci := 8) (v := .int ((Model_open v) + 1)) (ty := .int) (C := RX8) (T := TX8) (N := 20) hx hb hts k1 tyX8 tyX8_ok nmX8 hown hK hP hD hS 0 rfl rfl 9 (by decide) k2 (fun _ h9 => h9) rfl (by decide +kernel) rfl rfl (Nat.le_of_ble_eq_true rfl) dX8_factor_49 (fun H locs hP hD hS => ?_)
            have hP : va_P E.1 vwCl (Model_c E a (Model_open_s (Model_isWrong_s v z0_39) ((Model_open v) + 1))) H := hP
            have hD : va_D A (Model_c E a (Model_open_s (Model_isWrong_s v z0_39) ((Model_open v) + 1))) := hD
            refine lv_aload_n hx hb dX8_factor_52 rfl (lv_at hl 0 rfl) ?_
            refine lv_dup hx hb dX8_factor_53 rfl ?_
            refine va_get (D := E.1) (ci := 8) (v := .int (Model_spot v)) (C := RX8) (T := TX8) (N := 20) hx hb hts k1 hown hK hP 0 rfl rfl 6 (by decide) k3 (fun _ h9 => h9) rfl dX8_factor_54 ?_
            refine lv_aload_n hx hb dX8_factor_57 rfl (lv_at hl 0 rfl) ?_
            refine va_get (D := E.1) (ci := 8) (v := .int z0_39) (C := RX8) (T := TX8) (N := 20) hx hb hts k1 hown hK hP 0 rfl rfl 8 (by decide) k0 (fun _ h9 => h9) rfl dX8_factor_58 ?_
            obtain ⟨j69, hjd69, hF⟩ := m_jp hF
            have hj69 : ∀ (z0_69 : Int32) (H : Heap) (locs : List Loc) (ls : Array Slot), j69 z0_69 = some t → va_P E.1 vwCl (Model_c E a (Model_open_s (Model_isWrong_s v z0_39) ((Model_open v) + 1))) H → va_D A (Model_c E a (Model_open_s (Model_isWrong_s v z0_39) ((Model_open v) + 1))) → va_S A s.heap H locs → lv_has ls 5 [(0, .ref (Modela_self a)), (1, .int t2)] → W p l e_ (rm_Fa (d + 1)) s m args below meth c H locs 0 0 Q (F0 m 69 ls [.int z0_69, .int (Model_spot v), .ref (Modela_self a)]) := by
              intro z0_69 H locs ls hF hP hD hS hl
              rw [hjd69] at hF
              refine lv_iadd hx hb dX8_factor_69 ?_
              refine va_put (D := E.1) (ci := 8) (v := .int ((Model_spot v) + z0_69)) (ty := .int) (C := RX8) (T := TX8) (N := 20) hx hb hts k1 tyX8 tyX8_ok nmX8 hown hK hP hD hS 0 rfl rfl 6 (by decide) k3 (fun _ h9 => h9) rfl (by decide +kernel) rfl rfl (Nat.le_of_ble_eq_true rfl) dX8_factor_70 (fun H locs hP hD hS => ?_)
              have hP : va_P E.1 vwCl (Model_c E a (Model_open_s (Model_isWrong_s (Model_spot_s v ((Model_spot v) + z0_69)) z0_39) ((Model_open v) + 1))) H := hP
              have hD : va_D A (Model_c E a (Model_open_s (Model_isWrong_s (Model_spot_s v ((Model_spot v) + z0_69)) z0_39) ((Model_open v) + 1))) := hD
              refine lv_iload_n hx hb dX8_factor_73 rfl (lv_at hl 1 rfl) ?_
              refine lv_bipush (v := 33) hx hb dX8_factor_74 (by decide) ?_
              obtain ⟨j101, hjd101, hF⟩ := m_jp hF
              have hj101 : ∀ (wx_101 : ModelV) (H : Heap) (locs : List Loc) (ls : Array Slot), j101 wx_101 = some t → va_P E.1 vwCl (Model_c E a wx_101) H → va_D A (Model_c E a wx_101) → va_S A s.heap H locs → lv_has ls 5 [(0, .ref (Modela_self a))] → W p l e_ (rm_Fa (d + 1)) s m args below meth c H locs 0 0 Q (F0 m 101 ls []) := by
                intro wx_101 H locs ls hF hP hD hS hl
                rw [hjd101] at hF
                refine lv_aload_n hx hb dX8_factor_101 rfl (lv_at hl 0 rfl) ?_
                refine lv_dup hx hb dX8_factor_102 rfl ?_
                refine va_get (D := E.1) (ci := 8) (v := .int (Model_open wx_101)) (C := RX8) (T := TX8) (N := 20) hx hb hts k1 hown hK hP 0 rfl rfl 9 (by decide) k2 (fun _ h9 => h9) rfl dX8_factor_103 ?_
                refine lv_iconst (v := 1) hx hb dX8_factor_106 (by decide) ?_
                refine lv_isub hx hb dX8_factor_107 ?_
                refine va_put (D := E.1) (ci := 8) (v := .int ((Model_open wx_101) - 1)) (ty := .int) (C := RX8) (T := TX8) (N := 20) hx hb hts k1 tyX8 tyX8_ok nmX8 hown hK hP hD hS 0 rfl rfl 9 (by decide) k2 (fun _ h9 => h9) rfl (by decide +kernel) rfl rfl (Nat.le_of_ble_eq_true rfl) dX8_factor_108 (fun H locs hP hD hS => ?_)
                have hP : va_P E.1 vwCl (Model_c E a (Model_open_s wx_101 ((Model_open wx_101) - 1))) H := hP
                have hD : va_D A (Model_c E a (Model_open_s wx_101 ((Model_open wx_101) - 1))) := hD
                have hF := Option.some.inj hF
                subst hF
                rw [hQ]
                exact W.vret hx hb hr (fun t ht _ => ⟨⟨rfl, by rw [ht]; exact hP, hD⟩, hS.F ht⟩) hS.2.2 dX8_factor_111
              clear hjd101
              refine lv_icmp_ne (tgt := 91) hx hb dX8_factor_76 (by decide) (fun c4 => ?_) (fun c4 => ?_)
              · have hF := m_pos c4 hF
                refine lv_aload_n hx hb dX8_factor_91 rfl (lv_at hl 0 rfl) ?_
                obtain ⟨t5, ht5, hF⟩ := m_bnd hF
                have hPc := hP
                have hDc := hD
                have hFc := va_free (wc := (Model_c E a (Model_open_s (Model_isWrong_s (Model_spot_s v ((Model_spot v) + z0_69)) z0_39) ((Model_open v) + 1)))) hD hS hA [0, 1, 2, 3, 4, 5, 6, 7] rfl
                refine mVM (ci := 8) (n := 0) (rest := []) (As := []) CC hKN hGl (ihd.2.2 a (Model_open_s (Model_isWrong_s (Model_spot_s v ((Model_spot v) + z0_69)) z0_39) ((Model_open v) + 1)) t5 ht5 _) gX8_factor_X8_some rfl ⟨rfl, rfl⟩ (by decide +kernel) ⟨by show d + 5 + 1 ≤ d + 1 + 5; omega, by show 8 + (1 + 11) + (d * 24 + 107) ≤ (d + 1) * 24 + 107; omega⟩ hPc hDc m_nil m_nilA hS hFc rfl rfl rfl rfl hl.1 rfl (Nat.le_of_ble_eq_true rfl) ⟨Nat.zero_le _, Nat.zero_le _⟩ dX8_factor_92 (fun H1 locs hP1 hD1 hz1 hk1 hS => ?_)
                have hP : va_P E.1 vwCl (Model_c E a t5) H1 := hP1
                have hD : va_D A (Model_c E a t5) := m_back hD1 hFc
                generalize H1 = H at hP hS ⊢
                refine W.eq (g2 := F0 m 95 ls []) rfl ?_
                refine lv_aload_n hx hb dX8_factor_95 rfl (lv_at hl 0 rfl) ?_
                refine lv_bipush (v := 41) hx hb dX8_factor_96 (by decide) ?_
                obtain ⟨t6, ht6, hF⟩ := m_bnd hF
                have hPc := hP
                have hDc := hD
                have hFc := va_free (wc := (Model_c E a t5)) hD hS hA [0, 1, 2, 3, 4, 5, 6, 7] rfl
                refine mVM (ci := 8) (n := 1) (rest := []) (As := [.int 41]) CC hKN hGl (c_X8_must l E a t5 41 t6 ht6 _) gX8_factor_X8_must rfl ⟨rfl, rfl⟩ (by decide +kernel) ⟨by show 1 + 1 ≤ d + 1 + 5; omega, by show 8 + (2 + 11) + 20 ≤ (d + 1) * 24 + 107; omega⟩ hPc hDc m_nil m_nilA hS hFc rfl rfl rfl rfl hl.1 rfl (Nat.le_of_ble_eq_true rfl) ⟨Nat.zero_le _, Nat.zero_le _⟩ dX8_factor_98 (fun H1 locs hP1 hD1 hz1 hk1 hS => ?_)
                have hP : va_P E.1 vwCl (Model_c E a t6) H1 := hP1
                have hD : va_D A (Model_c E a t6) := m_back hD1 hFc
                generalize H1 = H at hP hS ⊢
                refine W.eq (g2 := F0 m 101 ls []) rfl ?_
                exact hj101 t6 H locs ls hF hP hD hS (lv_sub hl [0] rfl)
              · have hF := m_neg (fun n9 => n9 c4) hF
                refine lv_aload_n hx hb dX8_factor_79 rfl (lv_at hl 0 rfl) ?_
                obtain ⟨t7, ht7, hF⟩ := m_bnd hF
                have hPc := hP
                have hDc := hD
                have hFc := va_free (wc := (Model_c E a (Model_open_s (Model_isWrong_s (Model_spot_s v ((Model_spot v) + z0_69)) z0_39) ((Model_open v) + 1)))) hD hS hA [0, 1, 2, 3, 4, 5, 6, 7] rfl
                refine mVM (ci := 8) (n := 0) (rest := []) (As := []) CC hKN hGl (ihd.1 a (Model_open_s (Model_isWrong_s (Model_spot_s v ((Model_spot v) + z0_69)) z0_39) ((Model_open v) + 1)) t7 ht7 _) gX8_factor_X8_factor rfl ⟨rfl, rfl⟩ (by decide +kernel) ⟨by show d + 5 + 1 ≤ d + 1 + 5; omega, by show 8 + (5 + 11) + (d * 24 + 107) ≤ (d + 1) * 24 + 107; omega⟩ hPc hDc m_nil m_nilA hS hFc rfl rfl rfl rfl hl.1 rfl (Nat.le_of_ble_eq_true rfl) ⟨Nat.zero_le _, Nat.zero_le _⟩ dX8_factor_80 (fun H1 locs hP1 hD1 hz1 hk1 hS => ?_)
                have hP : va_P E.1 vwCl (Model_c E a t7) H1 := hP1
                have hD : va_D A (Model_c E a t7) := m_back hD1 hFc
                generalize H1 = H at hP hS ⊢
                refine W.eq (g2 := F0 m 83 ls []) rfl ?_
                refine lv_aload_n hx hb dX8_factor_83 rfl (lv_at hl 0 rfl) ?_
                refine lv_iconst (v := (-1)) hx hb dX8_factor_84 (by decide) ?_
                obtain ⟨t8, ht8, hF⟩ := m_bnd hF
                have hPc := hP
                have hDc := hD
                have hFc := va_free (wc := (Model_c E a t7)) hD hS hA [0, 1, 2, 3, 4, 5, 6, 7] rfl
                refine mVM (ci := 8) (n := 1) (rest := []) (As := [.int (-1)]) CC hKN hGl (c_X8_emits l E a t7 (-1) t8 ht8 _) gX8_factor_X8_emits rfl ⟨rfl, rfl⟩ (by decide +kernel) ⟨by show 0 + 1 ≤ d + 1 + 5; omega, by show 8 + (2 + 11) + 0 ≤ (d + 1) * 24 + 107; omega⟩ hPc hDc m_nil m_nilA hS hFc rfl rfl rfl rfl hl.1 rfl (Nat.le_of_ble_eq_true rfl) ⟨Nat.zero_le _, Nat.zero_le _⟩ dX8_factor_85 (fun H1 locs hP1 hD1 hz1 hk1 hS => ?_)
                have hP : va_P E.1 vwCl (Model_c E a t8) H1 := hP1
                have hD : va_D A (Model_c E a t8) := m_back hD1 hFc
                generalize H1 = H at hP hS ⊢
                refine W.eq (g2 := F0 m 88 ls []) rfl ?_
                refine lv_goto (tgt := 101) hx hb dX8_factor_88 (by decide) ?_
                exact hj101 t8 H locs ls hF hP hD hS (lv_sub hl [0] rfl)
            clear hjd69
            refine lv_if_eq (tgt := 68) hx hb dX8_factor_61 (by decide) (fun c9 => ?_) (fun c9 => ?_)
            · have hF := m_pos c9 hF
              refine lv_iconst (v := 1) hx hb dX8_factor_68 (by decide) ?_
              exact hj69 1 H locs ls hF hP hD hS (lv_sub hl [0, 1] rfl)
            · have hF := m_neg c9 hF
              refine lv_iconst (v := 0) hx hb dX8_factor_64 (by decide) ?_
              refine lv_goto (tgt := 69) hx hb dX8_factor_65 (by decide) ?_
              exact hj69 0 H locs ls hF hP hD hS (lv_sub hl [0, 1] rfl)
          clear hjd39
          refine lv_icmp_ne (tgt := 38) hx hb dX8_factor_31 (by decide) (fun c10 => ?_) (fun c10 => ?_)
          · have hF := m_pos c10 hF
            refine lv_iconst (v := 0) hx hb dX8_factor_38 (by decide) ?_
            exact hj39 0 H locs ls hF hP hD hS (lv_sub hl [0, 1] rfl)
          · have hF := m_neg (fun n9 => n9 c10) hF
            refine lv_iconst (v := 1) hx hb dX8_factor_34 (by decide) ?_
            refine lv_goto (tgt := 39) hx hb dX8_factor_35 (by decide) ?_
            exact hj39 1 H locs ls hF hP hD hS (lv_sub hl [0, 1] rfl)
        clear hjd25
        refine lv_icmp_eq (tgt := 25) hx hb dX8_factor_16 (by decide) (fun c11 => ?_) (fun c11 => ?_)
        · have hF := m_pos c11 hF
          exact hj25 H locs ls hF hP hD hS (lv_sub hl [1, 0] rfl)
        · have hF := m_neg c11 hF
          refine lv_iload_n hx hb dX8_factor_19 rfl (lv_at hl 0 rfl) ?_
          refine lv_bipush (v := 40) hx hb dX8_factor_20 (by decide) ?_
          refine lv_icmp_ne (tgt := 112) hx hb dX8_factor_22 (by decide) (fun c12 => ?_) (fun c12 => ?_)
          · have hF := m_pos c12 hF
            refine lv_aload_n hx hb dX8_factor_112 rfl (lv_at hl 1 rfl) ?_
            refine va_ldcS hx hb hown k4 dX8_factor_113 ?_
            obtain ⟨t13, ht13, hF⟩ := m_bnd hF
            have hPc := hP
            have hDc := hD
            have hFc := va_free (wc := (Model_c E a v)) hD hS hA [0, 1, 2, 3, 4, 5, 6, 7] rfl
            refine mVM (ci := 8) (n := 1) (rest := []) (As := [.ref (m_adK E 0)]) CC hKN hGl (c_X8_among l E a v 0 t13 ht13 _) gX8_factor_X8_among rfl ⟨rfl, rfl⟩ (by decide +kernel) ⟨by show 4 + 1 ≤ d + 1 + 5; omega, by show 8 + (3 + 11) + 85 ≤ (d + 1) * 24 + 107; omega⟩ hPc hDc m_nil m_nilA hS hFc rfl rfl rfl rfl hl.1 rfl (Nat.le_of_ble_eq_true rfl) ⟨Nat.zero_le _, Nat.zero_le _⟩ dX8_factor_115 (fun H1 locs hP1 hD1 hz1 hk1 hS => ?_)
            have hP : va_P E.1 vwCl (Model_c E a t13.2) H1 := hP1
            have hD : va_D A (Model_c E a t13.2) := m_back hD1 hFc
            generalize H1 = H at hP hS ⊢
            refine W.eq (g2 := F0 m 118 ls [.int t13.1]) rfl ?_
            refine lv_istore_n (lv' := [(2, .int t13.1), (1, .int t2), (0, .ref (Modela_self a))]) hx hb dX8_factor_118 rfl hl (by decide) rfl (fun ls hl => ?_)
            refine lv_aload_n hx hb dX8_factor_119 rfl (lv_at hl 2 rfl) ?_
            refine lv_iload_n hx hb dX8_factor_120 rfl (lv_at hl 0 rfl) ?_
            refine lv_iconst (v := (-1)) hx hb dX8_factor_121 (by decide) ?_
            obtain ⟨j130, hjd130, hF⟩ := m_jp hF
            have hj130 : ∀ (z0_130 : Int32) (H : Heap) (locs : List Loc) (ls : Array Slot), j130 z0_130 = some t → va_P E.1 vwCl (Model_c E a t13.2) H → va_D A (Model_c E a t13.2) → va_S A s.heap H locs → lv_has ls 5 [(0, .ref (Modela_self a)), (2, .int t13.1)] → W p l e_ (rm_Fa (d + 1)) s m args below meth c H locs 0 0 Q (F0 m 130 ls [.int z0_130, .ref (Modela_self a)]) := by
              intro z0_130 H locs ls hF hP hD hS hl
              rw [hjd130] at hF
              obtain ⟨h14, hF⟩ := m_chk hF
              refine va_put (D := E.1) (ci := 8) (v := .int z0_130) (ty := .boolean) (C := RX8) (T := TX8) (N := 20) hx hb hts k1 tyX8 tyX8_ok nmX8 hown hK hP hD hS 0 rfl rfl 8 (by decide) k0 (fun _ h9 => h9) rfl (by decide +kernel) (mBit_nar h14) (mBit_fit h14) (Nat.le_of_ble_eq_true rfl) dX8_factor_130 (fun H locs hP hD hS => ?_)
              have hP : va_P E.1 vwCl (Model_c E a (Model_isWrong_s t13.2 z0_130)) H := hP
              have hD : va_D A (Model_c E a (Model_isWrong_s t13.2 z0_130)) := hD
              refine lv_aload_n hx hb dX8_factor_133 rfl (lv_at hl 0 rfl) ?_
              refine va_get (D := E.1) (ci := 8) (v := .int z0_130) (C := RX8) (T := TX8) (N := 20) hx hb hts k1 hown hK hP 0 rfl rfl 8 (by decide) k0 (fun _ h9 => h9) rfl dX8_factor_134 ?_
              obtain ⟨j150, hjd150, hF⟩ := m_jp hF
              have hj150 : ∀ (z0_150 : Int32) (wx_150 : ModelV) (H : Heap) (locs : List Loc) (ls : Array Slot), j150 z0_150 wx_150 = some t → va_P E.1 vwCl (Model_c E a wx_150) H → va_D A (Model_c E a wx_150) → va_S A s.heap H locs → lv_has ls 5 [(0, .ref (Modela_self a)), (2, .int t13.1)] → W p l e_ (rm_Fa (d + 1)) s m args below meth c H locs 0 0 Q (F0 m 150 ls [.int z0_150]) := by
                intro z0_150 wx_150 H locs ls hF hP hD hS hl
                rw [hjd150] at hF
                refine lv_istore_n (lv' := [(3, .int z0_150), (0, .ref (Modela_self a)), (2, .int t13.1)]) hx hb dX8_factor_150 rfl hl (by decide) rfl (fun ls hl => ?_)
                refine lv_aload_n hx hb dX8_factor_151 rfl (lv_at hl 1 rfl) ?_
                refine lv_aload_n hx hb dX8_factor_152 rfl (lv_at hl 1 rfl) ?_
                refine va_get (D := E.1) (ci := 8) (v := .int (Model_isWrong wx_150)) (C := RX8) (T := TX8) (N := 20) hx hb hts k1 hown hK hP 0 rfl rfl 8 (by decide) k0 (fun _ h9 => h9) rfl dX8_factor_153 ?_
                obtain ⟨j169, hjd169, hF⟩ := m_jp hF
                have hj169 : ∀ (z0_169 : Int32) (H : Heap) (locs : List Loc) (ls : Array Slot), j169 z0_169 = some t → va_P E.1 vwCl (Model_c E a wx_150) H → va_D A (Model_c E a wx_150) → va_S A s.heap H locs → lv_has ls 5 [(0, .ref (Modela_self a)), (2, .int t13.1), (3, .int z0_150)] → W p l e_ (rm_Fa (d + 1)) s m args below meth c H locs 0 0 Q (F0 m 169 ls [.int z0_169, .ref (Modela_self a)]) := by
                  intro z0_169 H locs ls hF hP hD hS hl
                  rw [hjd169] at hF
                  obtain ⟨h15, hF⟩ := m_chk hF
                  refine va_put (D := E.1) (ci := 8) (v := .int z0_169) (ty := .boolean) (C := RX8) (T := TX8) (N := 20) hx hb hts k1 tyX8 tyX8_ok nmX8 hown hK hP hD hS 0 rfl rfl 8 (by decide) k0 (fun _ h9 => h9) rfl (by decide +kernel) (mBit_nar h15) (mBit_fit h15) (Nat.le_of_ble_eq_true rfl) dX8_factor_169 (fun H locs hP hD hS => ?_)
                  have hP : va_P E.1 vwCl (Model_c E a (Model_isWrong_s wx_150 z0_169)) H := hP
                  have hD : va_D A (Model_c E a (Model_isWrong_s wx_150 z0_169)) := hD
                  refine lv_aload_n hx hb dX8_factor_172 rfl (lv_at hl 0 rfl) ?_
                  obtain ⟨t16, ht16, hF⟩ := m_bnd hF
                  have hPc := hP
                  have hDc := hD
                  have hFc := va_free (wc := (Model_c E a (Model_isWrong_s wx_150 z0_169))) hD hS hA [0, 1, 2, 3, 4, 5, 6, 7] rfl
                  refine mVM (ci := 8) (n := 0) (rest := []) (As := []) CC hKN hGl (c_X8_figures l E a (Model_isWrong_s wx_150 z0_169) t16 ht16 _) gX8_factor_X8_figures rfl ⟨rfl, rfl⟩ (by decide +kernel) ⟨by show 1 + 1 ≤ d + 1 + 5; omega, by show 8 + (3 + 11) + 22 ≤ (d + 1) * 24 + 107; omega⟩ hPc hDc m_nil m_nilA hS hFc rfl rfl rfl rfl hl.1 rfl (Nat.le_of_ble_eq_true rfl) ⟨Nat.zero_le _, Nat.zero_le _⟩ dX8_factor_173 (fun H1 locs hP1 hD1 hz1 hk1 hS => ?_)
                  have hP : va_P E.1 vwCl (Model_c E a t16.2) H1 := hP1
                  have hD : va_D A (Model_c E a t16.2) := m_back hD1 hFc
                  generalize H1 = H at hP hS ⊢
                  refine W.eq (g2 := F0 m 176 ls [.int t16.1]) rfl ?_
                  refine lv_istore (lv' := [(4, .int t16.1), (0, .ref (Modela_self a)), (2, .int t13.1), (3, .int z0_150)]) hx hb dX8_factor_176 hl (by decide) rfl (fun ls hl => ?_)
                  refine lv_aload_n hx hb dX8_factor_178 rfl (lv_at hl 1 rfl) ?_
                  refine lv_iload_n hx hb dX8_factor_179 rfl (lv_at hl 2 rfl) ?_
                  refine lv_bipush (v := 8) hx hb dX8_factor_180 (by decide) ?_
                  refine lv_iload_n hx hb dX8_factor_182 rfl (lv_at hl 3 rfl) ?_
                  refine lv_imul hx hb dX8_factor_183 ?_
                  refine lv_iadd hx hb dX8_factor_184 ?_
                  refine lv_bipush (v := 32) hx hb dX8_factor_185 (by decide) ?_
                  refine lv_iload hx hb dX8_factor_187 (lv_at hl 0 rfl) ?_
                  refine lv_imul hx hb dX8_factor_189 ?_
                  refine lv_iadd hx hb dX8_factor_190 ?_
                  obtain ⟨t17, ht17, hF⟩ := m_bnd hF
                  have hPc := hP
                  have hDc := hD
                  have hFc := va_free (wc := (Model_c E a t16.2)) hD hS hA [0, 1, 2, 3, 4, 5, 6, 7] rfl
                  refine mVM (ci := 8) (n := 1) (rest := []) (As := [.int ((t13.1 + (8 * z0_150)) + (32 * t16.1))]) CC hKN hGl (c_X8_emits l E a t16.2 ((t13.1 + (8 * z0_150)) + (32 * t16.1)) t17 ht17 _) gX8_factor_X8_emits rfl ⟨rfl, rfl⟩ (by decide +kernel) ⟨by show 0 + 1 ≤ d + 1 + 5; omega, by show 8 + (2 + 11) + 0 ≤ (d + 1) * 24 + 107; omega⟩ hPc hDc m_nil m_nilA hS hFc rfl rfl rfl rfl hl.1 rfl (Nat.le_of_ble_eq_true rfl) ⟨Nat.zero_le _, Nat.zero_le _⟩ dX8_factor_191 (fun H1 locs hP1 hD1 hz1 hk1 hS => ?_)
                  have hP : va_P E.1 vwCl (Model_c E a t17) H1 := hP1
                  have hD : va_D A (Model_c E a t17) := m_back hD1 hFc
                  generalize H1 = H at hP hS ⊢
                  refine W.eq (g2 := F0 m 194 ls []) rfl ?_
                  have hF := Option.some.inj hF
                  subst hF
                  rw [hQ]
                  exact W.vret hx hb hr (fun t ht _ => ⟨⟨rfl, by rw [ht]; exact hP, hD⟩, hS.F ht⟩) hS.2.2 dX8_factor_194
                clear hjd169
                obtain ⟨j164, hjd164, hF⟩ := m_jp hF
                have hj164 : ∀ (H : Heap) (locs : List Loc) (ls : Array Slot), j164 () = some t → va_P E.1 vwCl (Model_c E a wx_150) H → va_D A (Model_c E a wx_150) → va_S A s.heap H locs → lv_has ls 5 [(0, .ref (Modela_self a)), (2, .int t13.1), (3, .int z0_150)] → W p l e_ (rm_Fa (d + 1)) s m args below meth c H locs 0 0 Q (F0 m 164 ls [.ref (Modela_self a)]) := by
                  intro H locs ls hF hP hD hS hl
                  rw [hjd164] at hF
                  refine lv_iconst (v := 1) hx hb dX8_factor_164 (by decide) ?_
                  refine lv_goto (tgt := 169) hx hb dX8_factor_165 (by decide) ?_
                  exact hj169 1 H locs ls hF hP hD hS (lv_sub hl [0, 1, 2] rfl)
                clear hjd164
                refine lv_if_ne (tgt := 164) hx hb dX8_factor_156 (by decide) (fun c18 => ?_) (fun c18 => ?_)
                · have hF := m_pos c18 hF
                  exact hj164 H locs ls hF hP hD hS (lv_sub hl [1, 2, 0] rfl)
                · have hF := m_neg (fun n9 => n9 c18) hF
                  refine lv_iload_n hx hb dX8_factor_159 rfl (lv_at hl 0 rfl) ?_
                  refine lv_iconst (v := (-1)) hx hb dX8_factor_160 (by decide) ?_
                  refine lv_icmp_ne (tgt := 168) hx hb dX8_factor_161 (by decide) (fun c19 => ?_) (fun c19 => ?_)
                  · have hF := m_pos c19 hF
                    refine lv_iconst (v := 0) hx hb dX8_factor_168 (by decide) ?_
                    exact hj169 0 H locs ls hF hP hD hS (lv_sub hl [1, 2, 0] rfl)
                  · have hF := m_neg (fun n9 => n9 c19) hF
                    exact hj164 H locs ls hF hP hD hS (lv_sub hl [1, 2, 0] rfl)
              clear hjd150
              refine lv_if_eq (tgt := 144) hx hb dX8_factor_137 (by decide) (fun c20 => ?_) (fun c20 => ?_)
              · have hF := m_pos c20 hF
                refine lv_aload_n hx hb dX8_factor_144 rfl (lv_at hl 0 rfl) ?_
                refine va_ldcS hx hb hown k5 dX8_factor_145 ?_
                obtain ⟨t21, ht21, hF⟩ := m_bnd hF
                have hPc := hP
                have hDc := hD
                have hFc := va_free (wc := (Model_c E a (Model_isWrong_s t13.2 z0_130))) hD hS hA [0, 1, 2, 3, 4, 5, 6, 7] rfl
                refine mVM (ci := 8) (n := 1) (rest := []) (As := [.ref (m_adK E 1)]) CC hKN hGl (c_X8_among l E a (Model_isWrong_s t13.2 z0_130) 1 t21 ht21 _) gX8_factor_X8_among rfl ⟨rfl, rfl⟩ (by decide +kernel) ⟨by show 4 + 1 ≤ d + 1 + 5; omega, by show 8 + (3 + 11) + 85 ≤ (d + 1) * 24 + 107; omega⟩ hPc hDc m_nil m_nilA hS hFc rfl rfl rfl rfl hl.1 rfl (Nat.le_of_ble_eq_true rfl) ⟨Nat.zero_le _, Nat.zero_le _⟩ dX8_factor_147 (fun H1 locs hP1 hD1 hz1 hk1 hS => ?_)
                have hP : va_P E.1 vwCl (Model_c E a t21.2) H1 := hP1
                have hD : va_D A (Model_c E a t21.2) := m_back hD1 hFc
                generalize H1 = H at hP hS ⊢
                refine W.eq (g2 := F0 m 150 ls [.int t21.1]) rfl ?_
                exact hj150 t21.1 t21.2 H locs ls hF hP hD hS (lv_sub hl [0, 1] rfl)
              · have hF := m_neg c20 hF
                refine lv_iconst (v := 0) hx hb dX8_factor_140 (by decide) ?_
                refine lv_goto (tgt := 150) hx hb dX8_factor_141 (by decide) ?_
                exact hj150 0 (Model_isWrong_s t13.2 z0_130) H locs ls hF hP hD hS (lv_sub hl [0, 1] rfl)
            clear hjd130
            refine lv_icmp_ne (tgt := 129) hx hb dX8_factor_122 (by decide) (fun c22 => ?_) (fun c22 => ?_)
            · have hF := m_pos c22 hF
              refine lv_iconst (v := 0) hx hb dX8_factor_129 (by decide) ?_
              exact hj130 0 H locs ls hF hP hD hS (lv_sub hl [2, 0] rfl)
            · have hF := m_neg (fun n9 => n9 c22) hF
              refine lv_iconst (v := 1) hx hb dX8_factor_125 (by decide) ?_
              refine lv_goto (tgt := 130) hx hb dX8_factor_126 (by decide) ?_
              exact hj130 1 H locs ls hF hP hD hS (lv_sub hl [2, 0] rfl)
          · have hF := m_neg (fun n9 => n9 c12) hF
            exact hj25 H locs ls hF hP hD hS (lv_sub hl [1, 0] rfl)
      · have hF := m_neg c1 hF
        have hF := Option.some.inj hF
        subst hF
        rw [hQ]
        exact W.vret hx hb hr (fun t ht _ => ⟨⟨rfl, by rw [ht]; exact hP, hD⟩, hS.F ht⟩) hS.2.2 dX8_factor_7
    · intro a v t hF sz
      refine mOfM (cc := cX8_every) (maxL := 1) (ret := none) (by decide) rfl (Nat.le_of_ble_eq_true rfl) ?_
      intro p e_ s m args below meth c Q A hQ CC hr hlocks hin hA hP hD hKN hGl hR0 hRA ls hl
      have hS : va_S A s.heap s.heap [] := va_S.rf
      have hK := hKN.1
      have hx := CC.1
      have hb := CC.2.1
      have hml := CC.2.2.1
      have hown : s.vm.findClass RX8 = some m.cls := CC.2.2.2.1
      have hts := CC.2.2.2.2
      have hl : lv_has ls 1 [(0, .ref (Modela_self a))] := hl
      have k0 := hts (.fieldLink RX8 48 "OneDidAllModel" "isWrong" "Z") (by decide +kernel)
      have k1 := (show ∀ w ∈ u_ws RX8 TX8 20, w ∈ wsX8_every by decide +kernel)
      have k2 := hts (.fieldLink RX8 42 "OneDidAllModel" "spot" "I") (by decide +kernel)
      have hP : va_P E.1 vwCl (Model_c E a v) s.heap := hP
      obtain ⟨H, hH⟩ : ∃ H, H = s.heap := ⟨_, rfl⟩
      obtain ⟨locs, hlc⟩ : ∃ z : List Loc, z = [] := ⟨_, rfl⟩
      rw [← hH] at hP
      rw [← hlc] at hS
      have hS : va_S A s.heap H locs := by rw [hH]; exact hS
      rw [← hH, ← hlc]
      have hF : bd_X8_every (gr_Fa d).1 (gr_Fa d).2.1 (gr_Fa d).2.2 v = some t := hF
      unfold bd_X8_every at hF
      refine lv_aload_n hx hb dX8_every_0 rfl (lv_at hl 0 rfl) ?_
      obtain ⟨t1, ht1, hF⟩ := m_bnd hF
      have hPc := hP
      have hDc := hD
      have hFc := va_free (wc := (Model_c E a v)) hD hS hA [0, 1, 2, 3, 4, 5, 6, 7] rfl
      refine mVM (ci := 8) (n := 0) (rest := []) (As := []) CC hKN hGl (ihd.1 a v t1 ht1 _) gX8_every_X8_factor rfl ⟨rfl, rfl⟩ (by decide +kernel) ⟨by show d + 5 + 1 ≤ d + 1 + 5; omega, by show 8 + (5 + 11) + (d * 24 + 107) ≤ (d + 1) * 24 + 107; omega⟩ hPc hDc m_nil m_nilA hS hFc rfl rfl rfl rfl hl.1 rfl (Nat.le_of_ble_eq_true rfl) ⟨Nat.zero_le _, Nat.zero_le _⟩ dX8_every_1 (fun H1 locs hP1 hD1 hz1 hk1 hS => ?_)
      have hP : va_P E.1 vwCl (Model_c E a t1) H1 := hP1
      have hD : va_D A (Model_c E a t1) := m_back hD1 hFc
      generalize H1 = H at hP hS ⊢
      refine W.eq (g2 := F0 m 4 ls []) rfl ?_
      have hL4 : ∀ (n : Nat) (wy_4 : ModelV) (H : Heap) (locs : List Loc) (ls : Array Slot), lp_X8_every_4 (gr_Fa d).1 n wy_4 = some t → va_P E.1 vwCl (Model_c E a wy_4) H → va_D A (Model_c E a wy_4) → va_S A s.heap H locs → lv_has ls 1 [(0, .ref (Modela_self a))] → W p l e_ (rm_Fa (d + 1)) s m args below meth c H locs 0 0 Q (F0 m 4 ls []) := by
        intro n
        induction n with
        | zero =>
          intro wy_4 H locs ls hF
          exact nomatch (show (none : Option ModelV) = some t from hF)
        | succ n ih4 =>
          intro wy_4 H locs ls hF hP hD hS hl
          have hF : st_X8_every_4 (gr_Fa d).1 (lp_X8_every_4 (gr_Fa d).1 n) wy_4 = some t := hF
          unfold st_X8_every_4 at hF
          refine lv_aload_n hx hb dX8_every_4 rfl (lv_at hl 0 rfl) ?_
          refine va_get (D := E.1) (ci := 8) (v := .int (Model_isWrong wy_4)) (C := RX8) (T := TX8) (N := 20) hx hb hts k1 hown hK hP 0 rfl rfl 8 (by decide) k0 (fun _ h9 => h9) rfl dX8_every_5 ?_
          refine lv_if_ne (tgt := 43) hx hb dX8_every_8 (by decide) (fun c2 => ?_) (fun c2 => ?_)
          · have hF := m_pos c2 hF
            have hF := Option.some.inj hF
            subst hF
            rw [hQ]
            exact W.vret hx hb hr (fun t ht _ => ⟨⟨rfl, by rw [ht]; exact hP, hD⟩, hS.F ht⟩) hS.2.2 dX8_every_43
          · have hF := m_neg (fun n9 => n9 c2) hF
            refine lv_aload_n hx hb dX8_every_11 rfl (lv_at hl 0 rfl) ?_
            obtain ⟨t3, ht3, hF⟩ := m_bnd hF
            refine mVP (ci := 8) (n := 0) (rest := []) (As := []) CC hKN hGl hS (c_X8_here l E a wy_4 t3 ht3) gX8_every_X8_here rfl ⟨rfl, rfl⟩ (by decide +kernel) ⟨by show 0 + 1 ≤ d + 1 + 5; omega, by show 8 + (1 + 11) + 0 ≤ (d + 1) * 24 + 107; omega⟩ hP rfl rfl rfl rfl hl.1 rfl (Nat.le_of_ble_eq_true rfl) ⟨Nat.zero_le _, Nat.zero_le _⟩ dX8_every_12 ?_
            refine W.eq (g2 := F0 m 15 ls [.int t3]) rfl ?_
            refine lv_bipush (v := 38) hx hb dX8_every_15 (by decide) ?_
            refine lv_icmp_ne (tgt := 43) hx hb dX8_every_17 (by decide) (fun c4 => ?_) (fun c4 => ?_)
            · have hF := m_pos c4 hF
              have hF := Option.some.inj hF
              subst hF
              rw [hQ]
              exact W.vret hx hb hr (fun t ht _ => ⟨⟨rfl, by rw [ht]; exact hP, hD⟩, hS.F ht⟩) hS.2.2 dX8_every_43
            · have hF := m_neg (fun n9 => n9 c4) hF
              refine lv_aload_n hx hb dX8_every_20 rfl (lv_at hl 0 rfl) ?_
              refine lv_dup hx hb dX8_every_21 rfl ?_
              refine va_get (D := E.1) (ci := 8) (v := .int (Model_spot wy_4)) (C := RX8) (T := TX8) (N := 20) hx hb hts k1 hown hK hP 0 rfl rfl 6 (by decide) k2 (fun _ h9 => h9) rfl dX8_every_22 ?_
              refine lv_iconst (v := 1) hx hb dX8_every_25 (by decide) ?_
              refine lv_iadd hx hb dX8_every_26 ?_
              refine va_put (D := E.1) (ci := 8) (v := .int ((Model_spot wy_4) + 1)) (ty := .int) (C := RX8) (T := TX8) (N := 20) hx hb hts k1 tyX8 tyX8_ok nmX8 hown hK hP hD hS 0 rfl rfl 6 (by decide) k2 (fun _ h9 => h9) rfl (by decide +kernel) rfl rfl (Nat.le_of_ble_eq_true rfl) dX8_every_27 (fun H locs hP hD hS => ?_)
              have hP : va_P E.1 vwCl (Model_c E a (Model_spot_s wy_4 ((Model_spot wy_4) + 1))) H := hP
              have hD : va_D A (Model_c E a (Model_spot_s wy_4 ((Model_spot wy_4) + 1))) := hD
              refine lv_aload_n hx hb dX8_every_30 rfl (lv_at hl 0 rfl) ?_
              obtain ⟨t5, ht5, hF⟩ := m_bnd hF
              have hPc := hP
              have hDc := hD
              have hFc := va_free (wc := (Model_c E a (Model_spot_s wy_4 ((Model_spot wy_4) + 1)))) hD hS hA [0, 1, 2, 3, 4, 5, 6, 7] rfl
              refine mVM (ci := 8) (n := 0) (rest := []) (As := []) CC hKN hGl (ihd.1 a (Model_spot_s wy_4 ((Model_spot wy_4) + 1)) t5 ht5 _) gX8_every_X8_factor rfl ⟨rfl, rfl⟩ (by decide +kernel) ⟨by show d + 5 + 1 ≤ d + 1 + 5; omega, by show 8 + (5 + 11) + (d * 24 + 107) ≤ (d + 1) * 24 + 107; omega⟩ hPc hDc m_nil m_nilA hS hFc rfl rfl rfl rfl hl.1 rfl (Nat.le_of_ble_eq_true rfl) ⟨Nat.zero_le _, Nat.zero_le _⟩ dX8_every_31 (fun H1 locs hP1 hD1 hz1 hk1 hS => ?_)
              have hP : va_P E.1 vwCl (Model_c E a t5) H1 := hP1
              have hD : va_D A (Model_c E a t5) := m_back hD1 hFc
              generalize H1 = H at hP hS ⊢
              refine W.eq (g2 := F0 m 34 ls []) rfl ?_
              refine lv_aload_n hx hb dX8_every_34 rfl (lv_at hl 0 rfl) ?_
              refine lv_bipush (v := (-2)) hx hb dX8_every_35 (by decide) ?_
              obtain ⟨t6, ht6, hF⟩ := m_bnd hF
              have hPc := hP
              have hDc := hD
              have hFc := va_free (wc := (Model_c E a t5)) hD hS hA [0, 1, 2, 3, 4, 5, 6, 7] rfl
              refine mVM (ci := 8) (n := 1) (rest := []) (As := [.int (-2)]) CC hKN hGl (c_X8_emits l E a t5 (-2) t6 ht6 _) gX8_every_X8_emits rfl ⟨rfl, rfl⟩ (by decide +kernel) ⟨by show 0 + 1 ≤ d + 1 + 5; omega, by show 8 + (2 + 11) + 0 ≤ (d + 1) * 24 + 107; omega⟩ hPc hDc m_nil m_nilA hS hFc rfl rfl rfl rfl hl.1 rfl (Nat.le_of_ble_eq_true rfl) ⟨Nat.zero_le _, Nat.zero_le _⟩ dX8_every_37 (fun H1 locs hP1 hD1 hz1 hk1 hS => ?_)
              have hP : va_P E.1 vwCl (Model_c E a t6) H1 := hP1
              have hD : va_D A (Model_c E a t6) := m_back hD1 hFc
              generalize H1 = H at hP hS ⊢
              refine W.eq (g2 := F0 m 40 ls []) rfl ?_
              refine lv_goto (tgt := 4) hx hb dX8_every_40 (by decide) ?_
              exact ih4 t6 H locs ls hF hP hD hS (lv_sub hl [0] rfl)
      exact hL4 m_N t1 H locs ls hF hP hD hS (lv_sub hl [0] rfl)
    · intro a v t hF sz
      refine mOfM (cc := cX8_some) (maxL := 1) (ret := none) (by decide) rfl (Nat.le_of_ble_eq_true rfl) ?_
      intro p e_ s m args below meth c Q A hQ CC hr hlocks hin hA hP hD hKN hGl hR0 hRA ls hl
      have hS : va_S A s.heap s.heap [] := va_S.rf
      have hK := hKN.1
      have hx := CC.1
      have hb := CC.2.1
      have hml := CC.2.2.1
      have hown : s.vm.findClass RX8 = some m.cls := CC.2.2.2.1
      have hts := CC.2.2.2.2
      have hl : lv_has ls 1 [(0, .ref (Modela_self a))] := hl
      have k0 := hts (.fieldLink RX8 48 "OneDidAllModel" "isWrong" "Z") (by decide +kernel)
      have k1 := (show ∀ w ∈ u_ws RX8 TX8 20, w ∈ wsX8_some by decide +kernel)
      have k2 := hts (.fieldLink RX8 42 "OneDidAllModel" "spot" "I") (by decide +kernel)
      have hP : va_P E.1 vwCl (Model_c E a v) s.heap := hP
      obtain ⟨H, hH⟩ : ∃ H, H = s.heap := ⟨_, rfl⟩
      obtain ⟨locs, hlc⟩ : ∃ z : List Loc, z = [] := ⟨_, rfl⟩
      rw [← hH] at hP
      rw [← hlc] at hS
      have hS : va_S A s.heap H locs := by rw [hH]; exact hS
      rw [← hH, ← hlc]
      have hF : bd_X8_some (gr_Fa d).1 (gr_Fa d).2.1 (gr_Fa d).2.2 v = some t := hF
      unfold bd_X8_some at hF
      refine lv_aload_n hx hb dX8_some_0 rfl (lv_at hl 0 rfl) ?_
      obtain ⟨t1, ht1, hF⟩ := m_bnd hF
      have hPc := hP
      have hDc := hD
      have hFc := va_free (wc := (Model_c E a v)) hD hS hA [0, 1, 2, 3, 4, 5, 6, 7] rfl
      refine mVM (ci := 8) (n := 0) (rest := []) (As := []) CC hKN hGl (ihd.2.1 a v t1 ht1 _) gX8_some_X8_every rfl ⟨rfl, rfl⟩ (by decide +kernel) ⟨by show d + 5 + 1 ≤ d + 1 + 5; omega, by show 8 + (1 + 11) + (d * 24 + 107) ≤ (d + 1) * 24 + 107; omega⟩ hPc hDc m_nil m_nilA hS hFc rfl rfl rfl rfl hl.1 rfl (Nat.le_of_ble_eq_true rfl) ⟨Nat.zero_le _, Nat.zero_le _⟩ dX8_some_1 (fun H1 locs hP1 hD1 hz1 hk1 hS => ?_)
      have hP : va_P E.1 vwCl (Model_c E a t1) H1 := hP1
      have hD : va_D A (Model_c E a t1) := m_back hD1 hFc
      generalize H1 = H at hP hS ⊢
      refine W.eq (g2 := F0 m 4 ls []) rfl ?_
      have hL4 : ∀ (n : Nat) (wy_4 : ModelV) (H : Heap) (locs : List Loc) (ls : Array Slot), lp_X8_some_4 (gr_Fa d).2.1 n wy_4 = some t → va_P E.1 vwCl (Model_c E a wy_4) H → va_D A (Model_c E a wy_4) → va_S A s.heap H locs → lv_has ls 1 [(0, .ref (Modela_self a))] → W p l e_ (rm_Fa (d + 1)) s m args below meth c H locs 0 0 Q (F0 m 4 ls []) := by
        intro n
        induction n with
        | zero =>
          intro wy_4 H locs ls hF
          exact nomatch (show (none : Option ModelV) = some t from hF)
        | succ n ih4 =>
          intro wy_4 H locs ls hF hP hD hS hl
          have hF : st_X8_some_4 (gr_Fa d).2.1 (lp_X8_some_4 (gr_Fa d).2.1 n) wy_4 = some t := hF
          unfold st_X8_some_4 at hF
          refine lv_aload_n hx hb dX8_some_4 rfl (lv_at hl 0 rfl) ?_
          refine va_get (D := E.1) (ci := 8) (v := .int (Model_isWrong wy_4)) (C := RX8) (T := TX8) (N := 20) hx hb hts k1 hown hK hP 0 rfl rfl 8 (by decide) k0 (fun _ h9 => h9) rfl dX8_some_5 ?_
          refine lv_if_ne (tgt := 43) hx hb dX8_some_8 (by decide) (fun c2 => ?_) (fun c2 => ?_)
          · have hF := m_pos c2 hF
            have hF := Option.some.inj hF
            subst hF
            rw [hQ]
            exact W.vret hx hb hr (fun t ht _ => ⟨⟨rfl, by rw [ht]; exact hP, hD⟩, hS.F ht⟩) hS.2.2 dX8_some_43
          · have hF := m_neg (fun n9 => n9 c2) hF
            refine lv_aload_n hx hb dX8_some_11 rfl (lv_at hl 0 rfl) ?_
            obtain ⟨t3, ht3, hF⟩ := m_bnd hF
            refine mVP (ci := 8) (n := 0) (rest := []) (As := []) CC hKN hGl hS (c_X8_here l E a wy_4 t3 ht3) gX8_some_X8_here rfl ⟨rfl, rfl⟩ (by decide +kernel) ⟨by show 0 + 1 ≤ d + 1 + 5; omega, by show 8 + (1 + 11) + 0 ≤ (d + 1) * 24 + 107; omega⟩ hP rfl rfl rfl rfl hl.1 rfl (Nat.le_of_ble_eq_true rfl) ⟨Nat.zero_le _, Nat.zero_le _⟩ dX8_some_12 ?_
            refine W.eq (g2 := F0 m 15 ls [.int t3]) rfl ?_
            refine lv_bipush (v := 124) hx hb dX8_some_15 (by decide) ?_
            refine lv_icmp_ne (tgt := 43) hx hb dX8_some_17 (by decide) (fun c4 => ?_) (fun c4 => ?_)
            · have hF := m_pos c4 hF
              have hF := Option.some.inj hF
              subst hF
              rw [hQ]
              exact W.vret hx hb hr (fun t ht _ => ⟨⟨rfl, by rw [ht]; exact hP, hD⟩, hS.F ht⟩) hS.2.2 dX8_some_43
            · have hF := m_neg (fun n9 => n9 c4) hF
              refine lv_aload_n hx hb dX8_some_20 rfl (lv_at hl 0 rfl) ?_
              refine lv_dup hx hb dX8_some_21 rfl ?_
              refine va_get (D := E.1) (ci := 8) (v := .int (Model_spot wy_4)) (C := RX8) (T := TX8) (N := 20) hx hb hts k1 hown hK hP 0 rfl rfl 6 (by decide) k2 (fun _ h9 => h9) rfl dX8_some_22 ?_
              refine lv_iconst (v := 1) hx hb dX8_some_25 (by decide) ?_
              refine lv_iadd hx hb dX8_some_26 ?_
              refine va_put (D := E.1) (ci := 8) (v := .int ((Model_spot wy_4) + 1)) (ty := .int) (C := RX8) (T := TX8) (N := 20) hx hb hts k1 tyX8 tyX8_ok nmX8 hown hK hP hD hS 0 rfl rfl 6 (by decide) k2 (fun _ h9 => h9) rfl (by decide +kernel) rfl rfl (Nat.le_of_ble_eq_true rfl) dX8_some_27 (fun H locs hP hD hS => ?_)
              have hP : va_P E.1 vwCl (Model_c E a (Model_spot_s wy_4 ((Model_spot wy_4) + 1))) H := hP
              have hD : va_D A (Model_c E a (Model_spot_s wy_4 ((Model_spot wy_4) + 1))) := hD
              refine lv_aload_n hx hb dX8_some_30 rfl (lv_at hl 0 rfl) ?_
              obtain ⟨t5, ht5, hF⟩ := m_bnd hF
              have hPc := hP
              have hDc := hD
              have hFc := va_free (wc := (Model_c E a (Model_spot_s wy_4 ((Model_spot wy_4) + 1)))) hD hS hA [0, 1, 2, 3, 4, 5, 6, 7] rfl
              refine mVM (ci := 8) (n := 0) (rest := []) (As := []) CC hKN hGl (ihd.2.1 a (Model_spot_s wy_4 ((Model_spot wy_4) + 1)) t5 ht5 _) gX8_some_X8_every rfl ⟨rfl, rfl⟩ (by decide +kernel) ⟨by show d + 5 + 1 ≤ d + 1 + 5; omega, by show 8 + (1 + 11) + (d * 24 + 107) ≤ (d + 1) * 24 + 107; omega⟩ hPc hDc m_nil m_nilA hS hFc rfl rfl rfl rfl hl.1 rfl (Nat.le_of_ble_eq_true rfl) ⟨Nat.zero_le _, Nat.zero_le _⟩ dX8_some_31 (fun H1 locs hP1 hD1 hz1 hk1 hS => ?_)
              have hP : va_P E.1 vwCl (Model_c E a t5) H1 := hP1
              have hD : va_D A (Model_c E a t5) := m_back hD1 hFc
              generalize H1 = H at hP hS ⊢
              refine W.eq (g2 := F0 m 34 ls []) rfl ?_
              refine lv_aload_n hx hb dX8_some_34 rfl (lv_at hl 0 rfl) ?_
              refine lv_bipush (v := (-3)) hx hb dX8_some_35 (by decide) ?_
              obtain ⟨t6, ht6, hF⟩ := m_bnd hF
              have hPc := hP
              have hDc := hD
              have hFc := va_free (wc := (Model_c E a t5)) hD hS hA [0, 1, 2, 3, 4, 5, 6, 7] rfl
              refine mVM (ci := 8) (n := 1) (rest := []) (As := [.int (-3)]) CC hKN hGl (c_X8_emits l E a t5 (-3) t6 ht6 _) gX8_some_X8_emits rfl ⟨rfl, rfl⟩ (by decide +kernel) ⟨by show 0 + 1 ≤ d + 1 + 5; omega, by show 8 + (2 + 11) + 0 ≤ (d + 1) * 24 + 107; omega⟩ hPc hDc m_nil m_nilA hS hFc rfl rfl rfl rfl hl.1 rfl (Nat.le_of_ble_eq_true rfl) ⟨Nat.zero_le _, Nat.zero_le _⟩ dX8_some_37 (fun H1 locs hP1 hD1 hz1 hk1 hS => ?_)
              have hP : va_P E.1 vwCl (Model_c E a t6) H1 := hP1
              have hD : va_D A (Model_c E a t6) := m_back hD1 hFc
              generalize H1 = H at hP hS ⊢
              refine W.eq (g2 := F0 m 40 ls []) rfl ?_
              refine lv_goto (tgt := 4) hx hb dX8_some_40 (by decide) ?_
              exact ih4 t6 H locs ls hF hP hD hS (lv_sub hl [0] rfl)
      exact hL4 m_N t1 H locs ls hF hP hD hS (lv_sub hl [0] rfl)


abbrev rmX1_begin : Room := { frames := 2, cells := 0, slots := 0, locals := 62 }
set_option maxRecDepth 100000 in
set_option maxHeartbeats 400000 in
theorem c_X1_begin (l : Launch) (E : mE) (a : ForecastA) (v : ForecastV) (a0 : RoomA) (v0 : RoomV) (t : ForecastV) (hF : fn_X1_begin v v0 = some t) (sz : Nat) : Met l yX1_begin wsX1_begin rmX1_begin (mPm E [.ref (Forecasta_self a), .ref (Rooma_self a0)] sz (((Forecast_c E a v) ++ (Room_c E a0 v0))) (([] : va_W))) (mSm E (none) (((Forecast_c E a t) ++ (Room_c E a0 v0))) (va_A (((Forecast_c E a v) ++ (Room_c E a0 v0))) sz)) 0 0 (va_A (((Forecast_c E a v) ++ (Room_c E a0 v0))) sz) := by
  refine mOfM (cc := cX1_begin) (maxL := 2) (ret := none) (by decide) rfl (Nat.le_of_ble_eq_true rfl) ?_
  intro p e_ s m args below meth c Q A hQ CC hr hlocks hin hA hP hD hKN hGl hR0 hRA ls hl
  have hS : va_S A s.heap s.heap [] := va_S.rf
  have hK := hKN.1
  have hx := CC.1
  have hb := CC.2.1
  have hml := CC.2.2.1
  have hown : s.vm.findClass RX1 = some m.cls := CC.2.2.2.1
  have hts := CC.2.2.2.2
  have hl : lv_has ls 2 [(0, .ref (Forecasta_self a)), (1, .ref (Rooma_self a0))] := hl
  have k0 := hts (.fieldLink RX1 18 "OneDidAll$Forecast" "start" "LOneDidAll$Group;") (by decide +kernel)
  have k1 := (show ∀ w ∈ u_ws RX1 TX1 3, w ∈ wsX1_begin by decide +kernel)
  have k2 := (va_Nw.use rfl (hKN.2.1 ("OneDidAll$Forecast", 28, "OneDidAll$Room", "group", "LOneDidAll$Group;", "OneDidAll") (by decide +kernel)) : (Cond.fieldLinkNest "OneDidAll$Forecast" 28 "OneDidAll$Room" "group" "LOneDidAll$Group;" "OneDidAll").before args s = true)
  have k3 := (show ∀ w ∈ u_ws RX5 TX5 9, w ∈ wsX1_begin by decide +kernel)
  have k4 := hts (.fieldLink RX1 12 "OneDidAll$Forecast" "trial" "LOneDidAll$Group;") (by decide +kernel)
  have k5 := hts (.fieldLink RX1 24 "OneDidAll$Forecast" "lesson" "LOneDidAll$Lesson;") (by decide +kernel)
  have hP : va_P E.1 vwCl ((Forecast_c E a v) ++ (Room_c E a0 v0)) s.heap := hP
  obtain ⟨H, hH⟩ : ∃ H, H = s.heap := ⟨_, rfl⟩
  obtain ⟨locs, hlc⟩ : ∃ z : List Loc, z = [] := ⟨_, rfl⟩
  rw [← hH] at hP
  rw [← hlc] at hS
  have hS : va_S A s.heap H locs := by rw [hH]; exact hS
  rw [← hH, ← hlc]
  unfold fn_X1_begin at hF
  refine lv_aload_n hx hb dX1_begin_0 rfl (lv_at hl 0 rfl) ?_
  refine va_get (D := E.1) (ci := 1) (v := .ref (Groupa_self (Forecasta_start a))) (C := RX1) (T := TX1) (N := 3) hx hb hts k1 hown hK hP 0 rfl rfl 1 (by decide) k0 (fun _ h9 => h9) rfl dX1_begin_1 ?_
  refine lv_aload_n hx hb dX1_begin_4 rfl (lv_at hl 1 rfl) ?_
  refine va_getN (D := E.1) (ci := 5) (v := .ref (Groupa_self (Rooma_group a0))) (C := RX5) (T := TX5) (N := 9) hx hb hts k3 hown hK hP 19 rfl rfl 0 (by decide) k2 (fun _ h9 => h9) rfl dX1_begin_5 ?_
  obtain ⟨t1, ht1, hF⟩ := m_bnd hF
  have hpm : List.Perm ((Forecast_c E a v) ++ (Room_c E a0 v0)) (((Group_c E (Forecasta_start a) (Forecast_start v)) ++ (Group_c E (Rooma_group a0) (Room_group v0))) ++ ((List.take 10 ((Forecast_c E a v) ++ (Room_c E a0 v0))) ++ ((List.take 1 (List.drop 19 ((Forecast_c E a v) ++ (Room_c E a0 v0)))) ++ (List.drop 29 ((Forecast_c E a v) ++ (Room_c E a0 v0)))))) := m_p2 (A := (List.take 10 ((Forecast_c E a v) ++ (Room_c E a0 v0)))) (m1 := (Group_c E (Forecasta_start a) (Forecast_start v))) (B := (List.take 1 (List.drop 19 ((Forecast_c E a v) ++ (Room_c E a0 v0))))) (m2 := (Group_c E (Rooma_group a0) (Room_group v0))) (C := (List.drop 29 ((Forecast_c E a v) ++ (Room_c E a0 v0))))
  obtain ⟨hPc, hDc, hFc⟩ := m_pre hpm hP hD hS hA
  refine mVM (ci := 2) (n := 1) (rest := []) (As := [.ref (Groupa_self (Rooma_group a0))]) CC hKN hGl (c_X2_copyFrom l E (Forecasta_start a) (Forecast_start v) (Rooma_group a0) (Room_group v0) t1 ht1 _) gX1_begin_X2_copyFrom rfl ⟨rfl, rfl⟩ (by decide +kernel) ⟨Nat.le_of_ble_eq_true rfl, Nat.le_of_ble_eq_true rfl⟩ hPc hDc m_nil m_nilA hS hFc rfl rfl rfl rfl hl.1 rfl (Nat.le_of_ble_eq_true rfl) ⟨Nat.zero_le _, Nat.zero_le _⟩ dX1_begin_8 (fun H1 locs hP1 hD1 hz1 hk1 hS => ?_)
  have hpn : List.Perm ((Forecast_c E a (Forecast_start_s v t1)) ++ (Room_c E a0 v0)) (((Group_c E (Forecasta_start a) t1) ++ (Group_c E (Rooma_group a0) (Room_group v0))) ++ ((List.take 10 ((Forecast_c E a v) ++ (Room_c E a0 v0))) ++ ((List.take 1 (List.drop 19 ((Forecast_c E a v) ++ (Room_c E a0 v0)))) ++ (List.drop 29 ((Forecast_c E a v) ++ (Room_c E a0 v0)))))) := m_p2 (A := (List.take 10 ((Forecast_c E a v) ++ (Room_c E a0 v0)))) (m1 := (Group_c E (Forecasta_start a) t1)) (B := (List.take 1 (List.drop 19 ((Forecast_c E a v) ++ (Room_c E a0 v0))))) (m2 := (Group_c E (Rooma_group a0) (Room_group v0))) (C := (List.drop 29 ((Forecast_c E a v) ++ (Room_c E a0 v0))))
  obtain ⟨hP, hD⟩ := m_spl hpm hpn hP hD hk1 hFc hP1 hD1
  generalize H1 = H at hP hS ⊢
  refine W.eq (g2 := F0 m 11 ls []) rfl ?_
  refine lv_aload_n hx hb dX1_begin_11 rfl (lv_at hl 0 rfl) ?_
  refine va_get (D := E.1) (ci := 1) (v := .ref (Groupa_self (Forecasta_trial a))) (C := RX1) (T := TX1) (N := 3) hx hb hts k1 hown hK hP 0 rfl rfl 0 (by decide) k4 (fun _ h9 => h9) rfl dX1_begin_12 ?_
  refine lv_aload_n hx hb dX1_begin_15 rfl (lv_at hl 1 rfl) ?_
  refine va_getN (D := E.1) (ci := 5) (v := .ref (Groupa_self (Rooma_group a0))) (C := RX5) (T := TX5) (N := 9) hx hb hts k3 hown hK hP 19 rfl rfl 0 (by decide) k2 (fun _ h9 => h9) rfl dX1_begin_16 ?_
  obtain ⟨t2, ht2, hF⟩ := m_bnd hF
  have hpm : List.Perm ((Forecast_c E a (Forecast_start_s v t1)) ++ (Room_c E a0 v0)) (((Group_c E (Forecasta_trial a) (Forecast_trial v)) ++ (Group_c E (Rooma_group a0) (Room_group v0))) ++ ((List.take 1 ((Forecast_c E a (Forecast_start_s v t1)) ++ (Room_c E a0 v0))) ++ ((List.take 10 (List.drop 10 ((Forecast_c E a (Forecast_start_s v t1)) ++ (Room_c E a0 v0)))) ++ (List.drop 29 ((Forecast_c E a (Forecast_start_s v t1)) ++ (Room_c E a0 v0)))))) := m_p2 (A := (List.take 1 ((Forecast_c E a (Forecast_start_s v t1)) ++ (Room_c E a0 v0)))) (m1 := (Group_c E (Forecasta_trial a) (Forecast_trial v))) (B := (List.take 10 (List.drop 10 ((Forecast_c E a (Forecast_start_s v t1)) ++ (Room_c E a0 v0))))) (m2 := (Group_c E (Rooma_group a0) (Room_group v0))) (C := (List.drop 29 ((Forecast_c E a (Forecast_start_s v t1)) ++ (Room_c E a0 v0))))
  obtain ⟨hPc, hDc, hFc⟩ := m_pre hpm hP hD hS hA
  refine mVM (ci := 2) (n := 1) (rest := []) (As := [.ref (Groupa_self (Rooma_group a0))]) CC hKN hGl (c_X2_copyFrom l E (Forecasta_trial a) (Forecast_trial v) (Rooma_group a0) (Room_group v0) t2 ht2 _) gX1_begin_X2_copyFrom rfl ⟨rfl, rfl⟩ (by decide +kernel) ⟨Nat.le_of_ble_eq_true rfl, Nat.le_of_ble_eq_true rfl⟩ hPc hDc m_nil m_nilA hS hFc rfl rfl rfl rfl hl.1 rfl (Nat.le_of_ble_eq_true rfl) ⟨Nat.zero_le _, Nat.zero_le _⟩ dX1_begin_19 (fun H1 locs hP1 hD1 hz1 hk1 hS => ?_)
  have hpn : List.Perm ((Forecast_c E a (Forecast_start_s (Forecast_trial_s v t2) t1)) ++ (Room_c E a0 v0)) (((Group_c E (Forecasta_trial a) t2) ++ (Group_c E (Rooma_group a0) (Room_group v0))) ++ ((List.take 1 ((Forecast_c E a (Forecast_start_s v t1)) ++ (Room_c E a0 v0))) ++ ((List.take 10 (List.drop 10 ((Forecast_c E a (Forecast_start_s v t1)) ++ (Room_c E a0 v0)))) ++ (List.drop 29 ((Forecast_c E a (Forecast_start_s v t1)) ++ (Room_c E a0 v0)))))) := m_p2 (A := (List.take 1 ((Forecast_c E a (Forecast_start_s v t1)) ++ (Room_c E a0 v0)))) (m1 := (Group_c E (Forecasta_trial a) t2)) (B := (List.take 10 (List.drop 10 ((Forecast_c E a (Forecast_start_s v t1)) ++ (Room_c E a0 v0))))) (m2 := (Group_c E (Rooma_group a0) (Room_group v0))) (C := (List.drop 29 ((Forecast_c E a (Forecast_start_s v t1)) ++ (Room_c E a0 v0))))
  obtain ⟨hP, hD⟩ := m_spl hpm hpn hP hD hk1 hFc hP1 hD1
  generalize H1 = H at hP hS ⊢
  refine W.eq (g2 := F0 m 22 ls []) rfl ?_
  refine lv_aload_n hx hb dX1_begin_22 rfl (lv_at hl 0 rfl) ?_
  refine lv_aload_n hx hb dX1_begin_23 rfl (lv_at hl 1 rfl) ?_
  obtain ⟨t3, ht3, hF⟩ := m_bnd hF
  have hPc := m_cutP (mid := (Room_c E a0 v0)) hP 19 21 rfl
  refine mVP (ci := 5) (n := 0) (rest := [.ref (Forecasta_self a)]) (As := []) CC hKN hGl hS (c_X5_lesson l E a0 v0 t3 ht3) gX1_begin_X5_lesson rfl ⟨rfl, rfl⟩ (by decide +kernel) ⟨Nat.le_of_ble_eq_true rfl, Nat.le_of_ble_eq_true rfl⟩ hPc rfl rfl rfl rfl hl.1 rfl (Nat.le_of_ble_eq_true rfl) ⟨Nat.zero_le _, Nat.zero_le _⟩ dX1_begin_24 ?_
  refine W.eq (g2 := F0 m 27 ls [.ref t3, .ref (Forecasta_self a)]) rfl ?_
  refine va_put (D := E.1) (ci := 1) (v := .ref t3) (ty := .object "OneDidAll$Lesson") (C := RX1) (T := TX1) (N := 3) hx hb hts k1 tyX1 tyX1_ok nmX1 hown hK hP hD hS 0 rfl rfl 2 (by decide) k5 (fun _ h9 => h9) rfl (by decide +kernel) rfl rfl (Nat.le_of_ble_eq_true rfl) dX1_begin_27 (fun H locs hP hD hS => ?_)
  have hP : va_P E.1 vwCl ((Forecast_c E a (Forecast_lesson_s (Forecast_start_s (Forecast_trial_s v t2) t1) t3)) ++ (Room_c E a0 v0)) H := hP
  have hD : va_D A ((Forecast_c E a (Forecast_lesson_s (Forecast_start_s (Forecast_trial_s v t2) t1) t3)) ++ (Room_c E a0 v0)) := hD
  have hF := Option.some.inj hF
  subst hF
  rw [hQ]
  exact W.vret hx hb hr (fun t ht _ => ⟨⟨rfl, by rw [ht]; exact hP, hD⟩, hS.F ht⟩) hS.2.2 dX1_begin_30

abbrev rmX1_beginWithout : Room := { frames := 3, cells := 0, slots := 0, locals := 83 }
set_option maxRecDepth 100000 in
set_option maxHeartbeats 400000 in
theorem c_X1_beginWithout (l : Launch) (E : mE) (a : ForecastA) (v : ForecastV) (a0 : RoomA) (v0 : RoomV) (x1 : Int32) (t : ForecastV) (hF : fn_X1_beginWithout v v0 x1 = some t) (sz : Nat) : Met l yX1_beginWithout wsX1_beginWithout rmX1_beginWithout (mPm E [.ref (Forecasta_self a), .ref (Rooma_self a0), .int x1] sz (((Forecast_c E a v) ++ (Room_c E a0 v0))) (([] : va_W))) (mSm E (none) (((Forecast_c E a t) ++ (Room_c E a0 v0))) (va_A (((Forecast_c E a v) ++ (Room_c E a0 v0))) sz)) 0 0 (va_A (((Forecast_c E a v) ++ (Room_c E a0 v0))) sz) := by
  refine mOfM (cc := cX1_beginWithout) (maxL := 3) (ret := none) (by decide) rfl (Nat.le_of_ble_eq_true rfl) ?_
  intro p e_ s m args below meth c Q A hQ CC hr hlocks hin hA hP hD hKN hGl hR0 hRA ls hl
  have hS : va_S A s.heap s.heap [] := va_S.rf
  have hK := hKN.1
  have hx := CC.1
  have hb := CC.2.1
  have hml := CC.2.2.1
  have hown : s.vm.findClass RX1 = some m.cls := CC.2.2.2.1
  have hts := CC.2.2.2.2
  have hl : lv_has ls 3 [(0, .ref (Forecasta_self a)), (1, .ref (Rooma_self a0)), (2, .int x1)] := hl
  have k0 := hts (.fieldLink RX1 12 "OneDidAll$Forecast" "trial" "LOneDidAll$Group;") (by decide +kernel)
  have k1 := (show ∀ w ∈ u_ws RX1 TX1 3, w ∈ wsX1_beginWithout by decide +kernel)
  have k2 := (va_Nw.use rfl (hKN.2.1 ("OneDidAll$Forecast", 44, "OneDidAll$Group", "outs", "[Z", "OneDidAll") (by decide +kernel)) : (Cond.fieldLinkNest "OneDidAll$Forecast" 44 "OneDidAll$Group" "outs" "[Z" "OneDidAll").before args s = true)
  have k3 := (show ∀ w ∈ u_ws RX2 TX2 11, w ∈ wsX1_beginWithout by decide +kernel)
  have hP : va_P E.1 vwCl ((Forecast_c E a v) ++ (Room_c E a0 v0)) s.heap := hP
  obtain ⟨H, hH⟩ : ∃ H, H = s.heap := ⟨_, rfl⟩
  obtain ⟨locs, hlc⟩ : ∃ z : List Loc, z = [] := ⟨_, rfl⟩
  rw [← hH] at hP
  rw [← hlc] at hS
  have hS : va_S A s.heap H locs := by rw [hH]; exact hS
  rw [← hH, ← hlc]
  unfold fn_X1_beginWithout at hF
  refine lv_aload_n hx hb dX1_beginWithout_0 rfl (lv_at hl 0 rfl) ?_
  refine lv_aload_n hx hb dX1_beginWithout_1 rfl (lv_at hl 1 rfl) ?_
  obtain ⟨t1, ht1, hF⟩ := m_bnd hF
  have hPc := hP
  have hDc := hD
  have hFc := va_free (wc := ((Forecast_c E a v) ++ (Room_c E a0 v0))) hD hS hA [0, 1, 2, 3, 4, 5, 6, 7, 8, 9, 10, 11, 12, 13, 14, 15, 16, 17, 18, 19, 20, 21, 22, 23, 24, 25, 26, 27, 28, 29, 30, 31, 32, 33, 34, 35, 36, 37, 38, 39] rfl
  refine mVM (ci := 1) (n := 1) (rest := []) (As := [.ref (Rooma_self a0)]) CC hKN hGl (c_X1_begin l E a v a0 v0 t1 ht1 _) gX1_beginWithout_X1_begin rfl ⟨rfl, rfl⟩ (by decide +kernel) ⟨Nat.le_of_ble_eq_true rfl, Nat.le_of_ble_eq_true rfl⟩ hPc hDc m_nil m_nilA hS hFc rfl rfl rfl rfl hl.1 rfl (Nat.le_of_ble_eq_true rfl) ⟨Nat.zero_le _, Nat.zero_le _⟩ dX1_beginWithout_2 (fun H1 locs hP1 hD1 hz1 hk1 hS => ?_)
  have hP : va_P E.1 vwCl ((Forecast_c E a t1) ++ (Room_c E a0 v0)) H1 := hP1
  have hD : va_D A ((Forecast_c E a t1) ++ (Room_c E a0 v0)) := m_back hD1 hFc
  generalize H1 = H at hP hS ⊢
  refine W.eq (g2 := F0 m 5 ls []) rfl ?_
  refine lv_aload_n hx hb dX1_beginWithout_5 rfl (lv_at hl 0 rfl) ?_
  refine va_get (D := E.1) (ci := 1) (v := .ref (Groupa_self (Forecasta_trial a))) (C := RX1) (T := TX1) (N := 3) hx hb hts k1 hown hK hP 0 rfl rfl 0 (by decide) k0 (fun _ h9 => h9) rfl dX1_beginWithout_6 ?_
  refine va_getN (D := E.1) (ci := 2) (v := .ref (Groupa_outs (Forecasta_trial a))) (C := RX2) (T := TX2) (N := 11) hx hb hts k3 hown hK hP 1 rfl rfl 8 (by decide) k2 (fun _ h9 => h9) rfl dX1_beginWithout_9 ?_
  refine lv_iload_n hx hb dX1_beginWithout_12 rfl (lv_at hl 2 rfl) ?_
  refine lv_iconst (v := 1) hx hb dX1_beginWithout_13 (by decide) ?_
  obtain ⟨h2, hF⟩ := m_chk hF
  refine va_zast (f := (Group_outs (Forecast_trial t1))) hx hb hK hP hD hS 7 2 rfl rfl (mIn_ok h2) dX1_beginWithout_14 (fun H locs hP hD hS => ?_)
  have hP : va_P E.1 vwCl ((Forecast_c E a (Forecast_trial_s t1 (Group_outs_s (Forecast_trial t1) (upd (Group_outs (Forecast_trial t1)) (x1).toNatClampNeg (vp_nar .boolean 1))))) ++ (Room_c E a0 v0)) H := hP
  have hD : va_D A ((Forecast_c E a (Forecast_trial_s t1 (Group_outs_s (Forecast_trial t1) (upd (Group_outs (Forecast_trial t1)) (x1).toNatClampNeg (vp_nar .boolean 1))))) ++ (Room_c E a0 v0)) := hD
  have hF := Option.some.inj hF
  subst hF
  rw [hQ]
  exact W.vret hx hb hr (fun t ht _ => ⟨⟨rfl, by rw [ht]; exact hP, hD⟩, hS.F ht⟩) hS.2.2 dX1_beginWithout_15

abbrev rmX1_hoursMore : Room := { frames := 1, cells := 0, slots := 0, locals := 22 }
set_option maxRecDepth 100000 in
set_option maxHeartbeats 400000 in
theorem c_X1_hoursMore (l : Launch) (E : mE) (a : ForecastA) (v : ForecastV) (t : Int32) (hF : fn_X1_hoursMore v = some t) : Met l yX1_hoursMore wsX1_hoursMore rmX1_hoursMore (mPp E [.ref (Forecasta_self a)] (Forecast_c E a v)) (mSp (some (.int t))) 0 0 (fun _ => False) := by
  refine mOfP (cc := cX1_hoursMore) (maxL := 1) (ret := (some .int)) (by decide) rfl (Nat.le_of_ble_eq_true rfl) ?_
  intro p e_ s m args below meth c Q hQ CC hr hlocks hP hKN hGl ls hl
  have hS : va_S (fun _ => False) s.heap s.heap [] := va_S.rf
  have hK := hKN.1
  have hx := CC.1
  have hb := CC.2.1
  have hml := CC.2.2.1
  have hown : s.vm.findClass RX1 = some m.cls := CC.2.2.2.1
  have hts := CC.2.2.2.2
  have hl : lv_has ls 1 [(0, .ref (Forecasta_self a))] := hl
  have k0 := hts (.fieldLink RX1 12 "OneDidAll$Forecast" "trial" "LOneDidAll$Group;") (by decide +kernel)
  have k1 := (show ∀ w ∈ u_ws RX1 TX1 3, w ∈ wsX1_hoursMore by decide +kernel)
  have k2 := hts (.fieldLink RX1 18 "OneDidAll$Forecast" "start" "LOneDidAll$Group;") (by decide +kernel)
  unfold fn_X1_hoursMore at hF
  refine lv_aload_n hx hb dX1_hoursMore_0 rfl (lv_at hl 0 rfl) ?_
  refine va_get (D := E.1) (ci := 1) (v := .ref (Groupa_self (Forecasta_trial a))) (C := RX1) (T := TX1) (N := 3) hx hb hts k1 hown hK hP 0 rfl rfl 0 (by decide) k0 (fun _ h9 => h9) rfl dX1_hoursMore_1 ?_
  obtain ⟨t1, ht1, hF⟩ := m_bnd hF
  have hPc := m_cutP (mid := (Group_c E (Forecasta_trial a) (Forecast_trial v))) hP 1 9 rfl
  refine mVP (ci := 2) (n := 0) (rest := []) (As := []) CC hKN hGl hS (c_X2_hoursOfAll l E (Forecasta_trial a) (Forecast_trial v) t1 ht1) gX1_hoursMore_X2_hoursOfAll rfl ⟨rfl, rfl⟩ (by decide +kernel) ⟨Nat.le_of_ble_eq_true rfl, Nat.le_of_ble_eq_true rfl⟩ hPc rfl rfl rfl rfl hl.1 rfl (Nat.le_of_ble_eq_true rfl) ⟨Nat.zero_le _, Nat.zero_le _⟩ dX1_hoursMore_4 ?_
  refine W.eq (g2 := F0 m 7 ls [.int t1]) rfl ?_
  refine lv_aload_n hx hb dX1_hoursMore_7 rfl (lv_at hl 0 rfl) ?_
  refine va_get (D := E.1) (ci := 1) (v := .ref (Groupa_self (Forecasta_start a))) (C := RX1) (T := TX1) (N := 3) hx hb hts k1 hown hK hP 0 rfl rfl 1 (by decide) k2 (fun _ h9 => h9) rfl dX1_hoursMore_8 ?_
  obtain ⟨t2, ht2, hF⟩ := m_bnd hF
  have hPc := m_cutP (mid := (Group_c E (Forecasta_start a) (Forecast_start v))) hP 10 9 rfl
  refine mVP (ci := 2) (n := 0) (rest := [.int t1]) (As := []) CC hKN hGl hS (c_X2_hoursOfAll l E (Forecasta_start a) (Forecast_start v) t2 ht2) gX1_hoursMore_X2_hoursOfAll rfl ⟨rfl, rfl⟩ (by decide +kernel) ⟨Nat.le_of_ble_eq_true rfl, Nat.le_of_ble_eq_true rfl⟩ hPc rfl rfl rfl rfl hl.1 rfl (Nat.le_of_ble_eq_true rfl) ⟨Nat.zero_le _, Nat.zero_le _⟩ dX1_hoursMore_11 ?_
  refine W.eq (g2 := F0 m 14 ls [.int t2, .int t1]) rfl ?_
  refine lv_isub hx hb dX1_hoursMore_14 ?_
  have hF := Option.some.inj hF
  subst hF
  rw [hQ]
  exact W.iret hx hb hr (fun t ht _ => ⟨rfl, ht⟩) (fun _ h => by cases h) dX1_hoursMore_15

abbrev rmX2_changeWills : Room := { frames := 1, cells := 0, slots := 0, locals := 22 }
set_option maxRecDepth 100000 in
set_option maxHeartbeats 400000 in
theorem c_X2_changeWills (l : Launch) (E : mE) (a : GroupA) (v : GroupV) (x0 : Int32) (t : GroupV) (hF : fn_X2_changeWills v x0 = some t) (sz : Nat) : Met l yX2_changeWills wsX2_changeWills rmX2_changeWills (mPm E [.ref (Groupa_self a), .int x0] sz ((Group_c E a v)) (([] : va_W))) (mSm E (none) ((Group_c E a t)) (va_A ((Group_c E a v)) sz)) 0 0 (va_A ((Group_c E a v)) sz) := by
  refine mOfM (cc := cX2_changeWills) (maxL := 6) (ret := none) (by decide) rfl (Nat.le_of_ble_eq_true rfl) ?_
  intro p e_ s m args below meth c Q A hQ CC hr hlocks hin hA hP hD hKN hGl hR0 hRA ls hl
  have hS : va_S A s.heap s.heap [] := va_S.rf
  have hK := hKN.1
  have hx := CC.1
  have hb := CC.2.1
  have hml := CC.2.2.1
  have hown : s.vm.findClass RX2 = some m.cls := CC.2.2.2.1
  have hts := CC.2.2.2.2
  have hl : lv_has ls 6 [(0, .ref (Groupa_self a)), (1, .int x0)] := hl
  have k0 := hts (.fieldLink RX2 9 "OneDidAll$Group" "size" "I") (by decide +kernel)
  have k1 := (show ∀ w ∈ u_ws RX2 TX2 11, w ∈ wsX2_changeWills by decide +kernel)
  have k2 := hts (.fieldLink RX2 37 "OneDidAll$Group" "outs" "[Z") (by decide +kernel)
  have k3 := hts (.fieldLink RX2 44 "OneDidAll$Group" "does" "[I") (by decide +kernel)
  have k4 := hts (.fieldLink RX2 31 "OneDidAll$Group" "wills" "[I") (by decide +kernel)
  have k5 := hts (.methodLink RX2 70 Lib.Math.min.name) (by decide +kernel)
  have k6 := hts (.static Lib.Math.min.name) (by decide +kernel)
  have k7 := hts (.initialized "java/lang/Math") (by decide +kernel)
  have k8 := hts (.code Lib.Math.min.name Lib.Math.min.code 2 (some .int)) (by decide +kernel)
  have k9 := hts (.methodLink RX2 76 Lib.Math.max.name) (by decide +kernel)
  have k10 := hts (.static Lib.Math.max.name) (by decide +kernel)
  have k11 := hts (.code Lib.Math.max.name Lib.Math.max.code 2 (some .int)) (by decide +kernel)
  have hP : va_P E.1 vwCl (Group_c E a v) s.heap := hP
  obtain ⟨H, hH⟩ : ∃ H, H = s.heap := ⟨_, rfl⟩
  obtain ⟨locs, hlc⟩ : ∃ z : List Loc, z = [] := ⟨_, rfl⟩
  rw [← hH] at hP
  rw [← hlc] at hS
  have hS : va_S A s.heap H locs := by rw [hH]; exact hS
  rw [← hH, ← hlc]
  unfold fn_X2_changeWills at hF
  refine lv_aload_n hx hb dX2_changeWills_0 rfl (lv_at hl 0 rfl) ?_
  obtain ⟨t1, ht1, hF⟩ := m_bnd hF
  refine mVP (ci := 2) (n := 0) (rest := []) (As := []) CC hKN hGl hS (c_X2_countIn l E a v t1 ht1) gX2_changeWills_X2_countIn rfl ⟨rfl, rfl⟩ (by decide +kernel) ⟨Nat.le_of_ble_eq_true rfl, Nat.le_of_ble_eq_true rfl⟩ hP rfl rfl rfl rfl hl.1 rfl (Nat.le_of_ble_eq_true rfl) ⟨Nat.zero_le _, Nat.zero_le _⟩ dX2_changeWills_1 ?_
  refine W.eq (g2 := F0 m 4 ls [.int t1]) rfl ?_
  refine lv_istore_n (lv' := [(2, .int t1), (0, .ref (Groupa_self a)), (1, .int x0)]) hx hb dX2_changeWills_4 rfl hl (by decide) rfl (fun ls hl => ?_)
  refine lv_iload_n hx hb dX2_changeWills_5 rfl (lv_at hl 0 rfl) ?_
  refine lv_if_ne (tgt := 10) hx hb dX2_changeWills_6 (by decide) (fun c2 => ?_) (fun c2 => ?_)
  · have hF := m_pos c2 hF
    refine lv_iconst (v := 0) hx hb dX2_changeWills_10 (by decide) ?_
    refine lv_istore_n (lv' := [(3, .int 0), (2, .int t1), (0, .ref (Groupa_self a)), (1, .int x0)]) hx hb dX2_changeWills_11 rfl hl (by decide) rfl (fun ls hl => ?_)
    refine lv_iconst (v := 0) hx hb dX2_changeWills_12 (by decide) ?_
    refine lv_istore (lv' := [(4, .int 0), (3, .int 0), (2, .int t1), (0, .ref (Groupa_self a)), (1, .int x0)]) hx hb dX2_changeWills_13 hl (by decide) rfl (fun ls hl => ?_)
    obtain ⟨j40, hjd40, hF⟩ := m_jp hF
    have hj40 : ∀ (x3_40 : Int32) (H : Heap) (locs : List Loc) (ls : Array Slot), j40 x3_40 = some t → va_P E.1 vwCl (Group_c E a v) H → va_D A (Group_c E a v) → va_S A s.heap H locs → lv_has ls 6 [(0, .ref (Groupa_self a)), (1, .int x0), (2, .int t1), (3, .int x3_40)] → W p l e_ rmX2_changeWills s m args below meth c H locs 0 0 Q (F0 m 40 ls []) := by
      intro x3_40 H locs ls hF hP hD hS hl
      rw [hjd40] at hF
      refine lv_iload_n hx hb dX2_changeWills_40 rfl (lv_at hl 3 rfl) ?_
      refine lv_iload_n hx hb dX2_changeWills_41 rfl (lv_at hl 2 rfl) ?_
      obtain ⟨h3, hF⟩ := m_chk hF
      refine lv_idiv hx hb dX2_changeWills_42 h3 ?_
      refine lv_istore (lv' := [(4, .int (x3_40 / t1)), (0, .ref (Groupa_self a)), (1, .int x0), (2, .int t1), (3, .int x3_40)]) hx hb dX2_changeWills_43 hl (by decide) rfl (fun ls hl => ?_)
      refine lv_iconst (v := 0) hx hb dX2_changeWills_45 (by decide) ?_
      refine lv_istore (lv' := [(5, .int 0), (4, .int (x3_40 / t1)), (0, .ref (Groupa_self a)), (1, .int x0), (2, .int t1), (3, .int x3_40)]) hx hb dX2_changeWills_46 hl (by decide) rfl (fun ls hl => ?_)
      have hL48 : ∀ (n : Nat) (y5_48 : Int32) (wy_48 : GroupV) (H : Heap) (locs : List Loc) (ls : Array Slot), lp_X2_changeWills_48 x0 t1 x3_40 n y5_48 wy_48 = some t → va_P E.1 vwCl (Group_c E a wy_48) H → va_D A (Group_c E a wy_48) → va_S A s.heap H locs → lv_has ls 6 [(0, .ref (Groupa_self a)), (1, .int x0), (4, .int (x3_40 / t1)), (5, .int y5_48)] → W p l e_ rmX2_changeWills s m args below meth c H locs 0 0 Q (F0 m 48 ls []) := by
        intro n
        induction n with
        | zero =>
          intro y5_48 wy_48 H locs ls hF
          exact nomatch (show (none : Option GroupV) = some t from hF)
        | succ n ih48 =>
          intro y5_48 wy_48 H locs ls hF hP hD hS hl
          have hF : st_X2_changeWills_48 x0 t1 x3_40 (lp_X2_changeWills_48 x0 t1 x3_40 n) y5_48 wy_48 = some t := hF
          unfold st_X2_changeWills_48 at hF
          refine lv_iload hx hb dX2_changeWills_48 (lv_at hl 3 rfl) ?_
          refine lv_aload_n hx hb dX2_changeWills_50 rfl (lv_at hl 0 rfl) ?_
          refine va_get (D := E.1) (ci := 2) (v := .int (Group_size wy_48)) (C := RX2) (T := TX2) (N := 11) hx hb hts k1 hown hK hP 0 rfl rfl 0 (by decide) k0 (fun _ h9 => h9) rfl dX2_changeWills_51 ?_
          refine lv_icmp_ge (tgt := 141) hx hb dX2_changeWills_54 (by decide) (fun c4 => ?_) (fun c4 => ?_)
          · have hF := m_pos c4 hF
            have hF := Option.some.inj hF
            subst hF
            rw [hQ]
            exact W.vret hx hb hr (fun t ht _ => ⟨⟨rfl, by rw [ht]; exact hP, hD⟩, hS.F ht⟩) hS.2.2 dX2_changeWills_141
          · have hF := m_neg c4 hF
            refine lv_aload_n hx hb dX2_changeWills_57 rfl (lv_at hl 0 rfl) ?_
            refine va_get (D := E.1) (ci := 2) (v := .ref (Groupa_outs a)) (C := RX2) (T := TX2) (N := 11) hx hb hts k1 hown hK hP 0 rfl rfl 8 (by decide) k2 (fun _ h9 => h9) rfl dX2_changeWills_58 ?_
            refine lv_iload hx hb dX2_changeWills_61 (lv_at hl 3 rfl) ?_
            obtain ⟨h5, hF⟩ := m_chk hF
            refine va_zald (f := (Group_outs wy_48)) hx hb hK hP 6 2 rfl rfl (mIn_ok h5) dX2_changeWills_63 ?_
            refine W.eq (g2 := F0 m 64 ls [.int ((Group_outs wy_48) (y5_48).toNatClampNeg)]) rfl ?_
            obtain ⟨j135, hjd135, hF⟩ := m_jp hF
            have hj135 : ∀ (wx_135 : GroupV) (H : Heap) (locs : List Loc) (ls : Array Slot), j135 wx_135 = some t → va_P E.1 vwCl (Group_c E a wx_135) H → va_D A (Group_c E a wx_135) → va_S A s.heap H locs → lv_has ls 6 [(0, .ref (Groupa_self a)), (1, .int x0), (4, .int (x3_40 / t1)), (5, .int y5_48)] → W p l e_ rmX2_changeWills s m args below meth c H locs 0 0 Q (F0 m 135 ls []) := by
              intro wx_135 H locs ls hF hP hD hS hl
              rw [hjd135] at hF
              refine lv_iinc (v := (y5_48 + 1)) (lv' := [(5, .int (y5_48 + 1)), (0, .ref (Groupa_self a)), (1, .int x0), (4, .int (x3_40 / t1))]) hx hb dX2_changeWills_135 hl (k := 3) rfl rfl (by decide) rfl (fun ls hl => ?_)
              refine lv_goto (tgt := 48) hx hb dX2_changeWills_138 (by decide) ?_
              exact ih48 (y5_48 + 1) wx_135 H locs ls hF hP hD hS (lv_sub hl [1, 2, 3, 0] rfl)
            clear hjd135
            refine lv_if_eq (tgt := 70) hx hb dX2_changeWills_64 (by decide) (fun c6 => ?_) (fun c6 => ?_)
            · have hF := m_pos c6 hF
              refine lv_aload_n hx hb dX2_changeWills_70 rfl (lv_at hl 0 rfl) ?_
              refine va_get (D := E.1) (ci := 2) (v := .ref (Groupa_does a)) (C := RX2) (T := TX2) (N := 11) hx hb hts k1 hown hK hP 0 rfl rfl 10 (by decide) k3 (fun _ h9 => h9) rfl dX2_changeWills_71 ?_
              refine lv_iload hx hb dX2_changeWills_74 (lv_at hl 3 rfl) ?_
              obtain ⟨h7, hF⟩ := m_chk hF
              refine va_iald (f := (Group_does wy_48)) hx hb hK hP 8 1 rfl rfl (mIn_ok h7) dX2_changeWills_76 ?_
              refine W.eq (g2 := F0 m 77 ls [.int ((Group_does wy_48) (y5_48).toNatClampNeg)]) rfl ?_
              refine lv_iload hx hb dX2_changeWills_77 (lv_at hl 2 rfl) ?_
              obtain ⟨j102, hjd102, hF⟩ := m_jp hF
              have hj102 : ∀ (wx_102 : GroupV) (H : Heap) (locs : List Loc) (ls : Array Slot), j102 wx_102 = some t → va_P E.1 vwCl (Group_c E a wx_102) H → va_D A (Group_c E a wx_102) → va_S A s.heap H locs → lv_has ls 6 [(0, .ref (Groupa_self a)), (1, .int x0), (4, .int (x3_40 / t1)), (5, .int y5_48)] → W p l e_ rmX2_changeWills s m args below meth c H locs 0 0 Q (F0 m 102 ls []) := by
                intro wx_102 H locs ls hF hP hD hS hl
                rw [hjd102] at hF
                refine lv_aload_n hx hb dX2_changeWills_102 rfl (lv_at hl 0 rfl) ?_
                refine va_get (D := E.1) (ci := 2) (v := .ref (Groupa_does a)) (C := RX2) (T := TX2) (N := 11) hx hb hts k1 hown hK hP 0 rfl rfl 10 (by decide) k3 (fun _ h9 => h9) rfl dX2_changeWills_103 ?_
                refine lv_iload hx hb dX2_changeWills_106 (lv_at hl 3 rfl) ?_
                obtain ⟨h8, hF⟩ := m_chk hF
                refine va_iald (f := (Group_does wx_102)) hx hb hK hP 8 1 rfl rfl (mIn_ok h8) dX2_changeWills_108 ?_
                refine W.eq (g2 := F0 m 109 ls [.int ((Group_does wx_102) (y5_48).toNatClampNeg)]) rfl ?_
                refine lv_iload hx hb dX2_changeWills_109 (lv_at hl 2 rfl) ?_
                refine lv_icmp_ge (tgt := 135) hx hb dX2_changeWills_111 (by decide) (fun c9 => ?_) (fun c9 => ?_)
                · have hF := m_pos c9 hF
                  exact hj135 wx_102 H locs ls hF hP hD hS (lv_sub hl [0, 1, 2, 3] rfl)
                · have hF := m_neg c9 hF
                  refine lv_aload_n hx hb dX2_changeWills_114 rfl (lv_at hl 0 rfl) ?_
                  refine va_get (D := E.1) (ci := 2) (v := .ref (Groupa_wills a)) (C := RX2) (T := TX2) (N := 11) hx hb hts k1 hown hK hP 0 rfl rfl 6 (by decide) k4 (fun _ h9 => h9) rfl dX2_changeWills_115 ?_
                  refine lv_iload hx hb dX2_changeWills_118 (lv_at hl 3 rfl) ?_
                  refine lv_bipush (v := 99) hx hb dX2_changeWills_120 (by decide) ?_
                  refine lv_aload_n hx hb dX2_changeWills_122 rfl (lv_at hl 0 rfl) ?_
                  refine va_get (D := E.1) (ci := 2) (v := .ref (Groupa_wills a)) (C := RX2) (T := TX2) (N := 11) hx hb hts k1 hown hK hP 0 rfl rfl 6 (by decide) k4 (fun _ h9 => h9) rfl dX2_changeWills_123 ?_
                  refine lv_iload hx hb dX2_changeWills_126 (lv_at hl 3 rfl) ?_
                  obtain ⟨h10, hF⟩ := m_chk hF
                  refine va_iald (f := (Group_wills wx_102)) hx hb hK hP 4 1 rfl rfl (mIn_ok h10) dX2_changeWills_128 ?_
                  refine W.eq (g2 := F0 m 129 ls [.int ((Group_wills wx_102) (y5_48).toNatClampNeg), .int 99, .int y5_48, .ref (Groupa_wills a)]) rfl ?_
                  refine lv_iconst (v := 1) hx hb dX2_changeWills_129 (by decide) ?_
                  refine lv_iadd hx hb dX2_changeWills_130 ?_
                  refine va_mmin hx hb (hml.trans hl.1.symm) hown k5 k6 k7 k8 (Nat.le_of_ble_eq_true rfl) (Nat.le_of_ble_eq_true rfl) (Nat.zero_le _) (Nat.zero_le _) dX2_changeWills_131 ?_
                  refine W.eq (g2 := F0 m 134 ls [.int (mMin 99 (((Group_wills wx_102) (y5_48).toNatClampNeg) + 1)), .int y5_48, .ref (Groupa_wills a)]) rfl ?_
                  obtain ⟨h11, hF⟩ := m_chk hF
                  refine va_iast (f := (Group_wills wx_102)) hx hb hK hP hD hS 4 1 rfl rfl (mIn_ok h11) dX2_changeWills_134 (fun H locs hP hD hS => ?_)
                  have hP : va_P E.1 vwCl (Group_c E a (Group_wills_s wx_102 (upd (Group_wills wx_102) (y5_48).toNatClampNeg (mMin 99 (((Group_wills wx_102) (y5_48).toNatClampNeg) + 1))))) H := hP
                  have hD : va_D A (Group_c E a (Group_wills_s wx_102 (upd (Group_wills wx_102) (y5_48).toNatClampNeg (mMin 99 (((Group_wills wx_102) (y5_48).toNatClampNeg) + 1))))) := hD
                  exact hj135 (Group_wills_s wx_102 (upd (Group_wills wx_102) (y5_48).toNatClampNeg (mMin 99 (((Group_wills wx_102) (y5_48).toNatClampNeg) + 1)))) H locs ls hF hP hD hS (lv_sub hl [0, 1, 2, 3] rfl)
              clear hjd102
              refine lv_icmp_le (tgt := 102) hx hb dX2_changeWills_79 (by decide) (fun c12 => ?_) (fun c12 => ?_)
              · have hF := m_pos c12 hF
                exact hj102 wy_48 H locs ls hF hP hD hS (lv_sub hl [0, 1, 2, 3] rfl)
              · have hF := m_neg c12 hF
                refine lv_aload_n hx hb dX2_changeWills_82 rfl (lv_at hl 0 rfl) ?_
                refine va_get (D := E.1) (ci := 2) (v := .ref (Groupa_wills a)) (C := RX2) (T := TX2) (N := 11) hx hb hts k1 hown hK hP 0 rfl rfl 6 (by decide) k4 (fun _ h9 => h9) rfl dX2_changeWills_83 ?_
                refine lv_iload hx hb dX2_changeWills_86 (lv_at hl 3 rfl) ?_
                refine lv_iconst (v := 0) hx hb dX2_changeWills_88 (by decide) ?_
                refine lv_aload_n hx hb dX2_changeWills_89 rfl (lv_at hl 0 rfl) ?_
                refine va_get (D := E.1) (ci := 2) (v := .ref (Groupa_wills a)) (C := RX2) (T := TX2) (N := 11) hx hb hts k1 hown hK hP 0 rfl rfl 6 (by decide) k4 (fun _ h9 => h9) rfl dX2_changeWills_90 ?_
                refine lv_iload hx hb dX2_changeWills_93 (lv_at hl 3 rfl) ?_
                obtain ⟨h13, hF⟩ := m_chk hF
                refine va_iald (f := (Group_wills wy_48)) hx hb hK hP 4 1 rfl rfl (mIn_ok h13) dX2_changeWills_95 ?_
                refine W.eq (g2 := F0 m 96 ls [.int ((Group_wills wy_48) (y5_48).toNatClampNeg), .int 0, .int y5_48, .ref (Groupa_wills a)]) rfl ?_
                refine lv_iload_n hx hb dX2_changeWills_96 rfl (lv_at hl 1 rfl) ?_
                refine lv_isub hx hb dX2_changeWills_97 ?_
                refine va_mmax hx hb (hml.trans hl.1.symm) hown k9 k10 k7 k11 (Nat.le_of_ble_eq_true rfl) (Nat.le_of_ble_eq_true rfl) (Nat.zero_le _) (Nat.zero_le _) dX2_changeWills_98 ?_
                refine W.eq (g2 := F0 m 101 ls [.int (mMax 0 (((Group_wills wy_48) (y5_48).toNatClampNeg) - x0)), .int y5_48, .ref (Groupa_wills a)]) rfl ?_
                obtain ⟨h14, hF⟩ := m_chk hF
                refine va_iast (f := (Group_wills wy_48)) hx hb hK hP hD hS 4 1 rfl rfl (mIn_ok h14) dX2_changeWills_101 (fun H locs hP hD hS => ?_)
                have hP : va_P E.1 vwCl (Group_c E a (Group_wills_s wy_48 (upd (Group_wills wy_48) (y5_48).toNatClampNeg (mMax 0 (((Group_wills wy_48) (y5_48).toNatClampNeg) - x0))))) H := hP
                have hD : va_D A (Group_c E a (Group_wills_s wy_48 (upd (Group_wills wy_48) (y5_48).toNatClampNeg (mMax 0 (((Group_wills wy_48) (y5_48).toNatClampNeg) - x0))))) := hD
                exact hj102 (Group_wills_s wy_48 (upd (Group_wills wy_48) (y5_48).toNatClampNeg (mMax 0 (((Group_wills wy_48) (y5_48).toNatClampNeg) - x0)))) H locs ls hF hP hD hS (lv_sub hl [0, 1, 2, 3] rfl)
            · have hF := m_neg c6 hF
              refine lv_goto (tgt := 135) hx hb dX2_changeWills_67 (by decide) ?_
              exact hj135 wy_48 H locs ls hF hP hD hS (lv_sub hl [0, 1, 2, 3] rfl)
      exact hL48 m_N 0 v H locs ls hF hP hD hS (lv_sub hl [2, 3, 1, 0] rfl)
    clear hjd40
    have hL15 : ∀ (n : Nat) (y3_15 : Int32) (y4_15 : Int32) (H : Heap) (locs : List Loc) (ls : Array Slot), lp_X2_changeWills_15 v j40 n y3_15 y4_15 = some t → va_P E.1 vwCl (Group_c E a v) H → va_D A (Group_c E a v) → va_S A s.heap H locs → lv_has ls 6 [(0, .ref (Groupa_self a)), (1, .int x0), (2, .int t1), (3, .int y3_15), (4, .int y4_15)] → W p l e_ rmX2_changeWills s m args below meth c H locs 0 0 Q (F0 m 15 ls []) := by
      intro n
      induction n with
      | zero =>
        intro y3_15 y4_15 H locs ls hF
        exact nomatch (show (none : Option GroupV) = some t from hF)
      | succ n ih15 =>
        intro y3_15 y4_15 H locs ls hF hP hD hS hl
        have hF : st_X2_changeWills_15 v j40 (lp_X2_changeWills_15 v j40 n) y3_15 y4_15 = some t := hF
        unfold st_X2_changeWills_15 at hF
        refine lv_iload hx hb dX2_changeWills_15 (lv_at hl 4 rfl) ?_
        refine lv_aload_n hx hb dX2_changeWills_17 rfl (lv_at hl 0 rfl) ?_
        refine va_get (D := E.1) (ci := 2) (v := .int (Group_size v)) (C := RX2) (T := TX2) (N := 11) hx hb hts k1 hown hK hP 0 rfl rfl 0 (by decide) k0 (fun _ h9 => h9) rfl dX2_changeWills_18 ?_
        refine lv_icmp_ge (tgt := 40) hx hb dX2_changeWills_21 (by decide) (fun c15 => ?_) (fun c15 => ?_)
        · have hF := m_pos c15 hF
          exact hj40 y3_15 H locs ls hF hP hD hS (lv_sub hl [0, 1, 2, 3] rfl)
        · have hF := m_neg c15 hF
          refine lv_iload_n hx hb dX2_changeWills_24 rfl (lv_at hl 3 rfl) ?_
          refine lv_aload_n hx hb dX2_changeWills_25 rfl (lv_at hl 0 rfl) ?_
          refine va_get (D := E.1) (ci := 2) (v := .ref (Groupa_does a)) (C := RX2) (T := TX2) (N := 11) hx hb hts k1 hown hK hP 0 rfl rfl 10 (by decide) k3 (fun _ h9 => h9) rfl dX2_changeWills_26 ?_
          refine lv_iload hx hb dX2_changeWills_29 (lv_at hl 4 rfl) ?_
          obtain ⟨h16, hF⟩ := m_chk hF
          refine va_iald (f := (Group_does v)) hx hb hK hP 8 1 rfl rfl (mIn_ok h16) dX2_changeWills_31 ?_
          refine W.eq (g2 := F0 m 32 ls [.int ((Group_does v) (y4_15).toNatClampNeg), .int y3_15]) rfl ?_
          refine lv_iadd hx hb dX2_changeWills_32 ?_
          refine lv_istore_n (lv' := [(3, .int (y3_15 + ((Group_does v) (y4_15).toNatClampNeg))), (0, .ref (Groupa_self a)), (1, .int x0), (2, .int t1), (4, .int y4_15)]) hx hb dX2_changeWills_33 rfl hl (by decide) rfl (fun ls hl => ?_)
          refine lv_iinc (v := (y4_15 + 1)) (lv' := [(4, .int (y4_15 + 1)), (3, .int (y3_15 + ((Group_does v) (y4_15).toNatClampNeg))), (0, .ref (Groupa_self a)), (1, .int x0), (2, .int t1)]) hx hb dX2_changeWills_34 hl (k := 4) rfl rfl (by decide) rfl (fun ls hl => ?_)
          refine lv_goto (tgt := 15) hx hb dX2_changeWills_37 (by decide) ?_
          exact ih15 (y3_15 + ((Group_does v) (y4_15).toNatClampNeg)) (y4_15 + 1) H locs ls hF hP hD hS (lv_sub hl [2, 3, 4, 1, 0] rfl)
    exact hL15 m_N 0 0 H locs ls hF hP hD hS (lv_sub hl [3, 4, 2, 1, 0] rfl)
  · have hF := m_neg (fun n9 => n9 c2) hF
    have hF := Option.some.inj hF
    subst hF
    rw [hQ]
    exact W.vret hx hb hr (fun t ht _ => ⟨⟨rfl, by rw [ht]; exact hP, hD⟩, hS.F ht⟩) hS.2.2 dX2_changeWills_9

abbrev rmX2_claimOf : Room := { frames := 2, cells := 0, slots := 0, locals := 44 }
set_option maxRecDepth 100000 in
set_option maxHeartbeats 400000 in
theorem c_X2_claimOf (l : Launch) (E : mE) (a : GroupA) (v : GroupV) (x0 : Int32) (t : Int32) (hF : fn_X2_claimOf v x0 = some t) : Met l yX2_claimOf wsX2_claimOf rmX2_claimOf (mPp E [.ref (Groupa_self a), .int x0] (Group_c E a v)) (mSp (some (.int t))) 0 0 (fun _ => False) := by
  refine mOfP (cc := cX2_claimOf) (maxL := 3) (ret := (some .int)) (by decide) rfl (Nat.le_of_ble_eq_true rfl) ?_
  intro p e_ s m args below meth c Q hQ CC hr hlocks hP hKN hGl ls hl
  have hS : va_S (fun _ => False) s.heap s.heap [] := va_S.rf
  have hK := hKN.1
  have hx := CC.1
  have hb := CC.2.1
  have hml := CC.2.2.1
  have hown : s.vm.findClass RX2 = some m.cls := CC.2.2.2.1
  have hts := CC.2.2.2.2
  have hl : lv_has ls 3 [(0, .ref (Groupa_self a)), (1, .int x0)] := hl
  have k0 := hts (.fieldLink RX2 21 "OneDidAll$Group" "kinds" "[I") (by decide +kernel)
  have k1 := (show ∀ w ∈ u_ws RX2 TX2 11, w ∈ wsX2_claimOf by decide +kernel)
  have k2 := hts (.fieldLink RX2 25 "OneDidAll$Group" "vs" "[I") (by decide +kernel)
  unfold fn_X2_claimOf at hF
  refine lv_aload_n hx hb dX2_claimOf_0 rfl (lv_at hl 0 rfl) ?_
  refine lv_iload_n hx hb dX2_claimOf_1 rfl (lv_at hl 1 rfl) ?_
  obtain ⟨t1, ht1, hF⟩ := m_bnd hF
  refine mVP (ci := 2) (n := 1) (rest := []) (As := [.int x0]) CC hKN hGl hS (c_X2_shareOf l E a v x0 t1 ht1) gX2_claimOf_X2_shareOf rfl ⟨rfl, rfl⟩ (by decide +kernel) ⟨Nat.le_of_ble_eq_true rfl, Nat.le_of_ble_eq_true rfl⟩ hP rfl rfl rfl rfl hl.1 rfl (Nat.le_of_ble_eq_true rfl) ⟨Nat.zero_le _, Nat.zero_le _⟩ dX2_claimOf_2 ?_
  refine W.eq (g2 := F0 m 5 ls [.int t1]) rfl ?_
  refine lv_istore_n (lv' := [(2, .int t1), (0, .ref (Groupa_self a)), (1, .int x0)]) hx hb dX2_claimOf_5 rfl hl (by decide) rfl (fun ls hl => ?_)
  refine lv_aload_n hx hb dX2_claimOf_6 rfl (lv_at hl 1 rfl) ?_
  refine va_get (D := E.1) (ci := 2) (v := .ref (Groupa_kinds a)) (C := RX2) (T := TX2) (N := 11) hx hb hts k1 hown hK hP 0 rfl rfl 3 (by decide) k0 (fun _ h9 => h9) rfl dX2_claimOf_7 ?_
  refine lv_iload_n hx hb dX2_claimOf_10 rfl (lv_at hl 2 rfl) ?_
  obtain ⟨h2, hF⟩ := m_chk hF
  refine va_iald (f := (Group_kinds v)) hx hb hK hP 1 1 rfl rfl (mIn_ok h2) dX2_claimOf_11 ?_
  refine W.eq (g2 := F0 m 12 ls [.int ((Group_kinds v) (x0).toNatClampNeg)]) rfl ?_
  obtain ⟨j52, hjd52, hF⟩ := m_jp hF
  have hj52 : ∀ (ls : Array Slot), j52 () = some t → lv_has ls 3 [(0, .ref (Groupa_self a)), (1, .int x0), (2, .int t1)] → W p l e_ rmX2_claimOf s m args below meth c s.heap [] 0 0 Q (F0 m 52 ls []) := by
    intro ls hF hl
    rw [hjd52] at hF
    refine lv_iload_n hx hb dX2_claimOf_52 rfl (lv_at hl 2 rfl) ?_
    refine lv_aload_n hx hb dX2_claimOf_53 rfl (lv_at hl 0 rfl) ?_
    refine va_get (D := E.1) (ci := 2) (v := .ref (Groupa_vs a)) (C := RX2) (T := TX2) (N := 11) hx hb hts k1 hown hK hP 0 rfl rfl 4 (by decide) k2 (fun _ h9 => h9) rfl dX2_claimOf_54 ?_
    refine lv_iload_n hx hb dX2_claimOf_57 rfl (lv_at hl 1 rfl) ?_
    obtain ⟨h3, hF⟩ := m_chk hF
    refine va_iald (f := (Group_vs v)) hx hb hK hP 2 1 rfl rfl (mIn_ok h3) dX2_claimOf_58 ?_
    refine W.eq (g2 := F0 m 59 ls [.int ((Group_vs v) (x0).toNatClampNeg), .int t1]) rfl ?_
    refine lv_isub hx hb dX2_claimOf_59 ?_
    obtain ⟨t4, ht4, hF⟩ := m_bnd hF
    refine mSP (n := 1) (rest := []) (As := [.int (t1 - ((Group_vs v) (x0).toNatClampNeg))]) CC hKN hGl hS (c_X2_toHundred l E (t1 - ((Group_vs v) (x0).toNatClampNeg)) t4 ht4) gX2_claimOf_X2_toHundred rfl ⟨rfl, rfl⟩ (by decide +kernel) ⟨Nat.le_of_ble_eq_true rfl, Nat.le_of_ble_eq_true rfl⟩ m_nil rfl hl.1 rfl (Nat.le_of_ble_eq_true rfl) ⟨Nat.zero_le _, Nat.zero_le _⟩ dX2_claimOf_60 ?_
    refine W.eq (g2 := F0 m 63 ls [.int t4]) rfl ?_
    have hF := Option.some.inj hF
    subst hF
    rw [hQ]
    exact W.iret hx hb hr (fun t ht _ => ⟨rfl, ht⟩) (fun _ h => by cases h) dX2_claimOf_63
  clear hjd52
  by_cases c5 : ((Group_kinds v) (x0).toNatClampNeg) = 1
  · have hF := m_pos c5 hF
    refine lv_tableIn (off := 40) (tgt := 52) hx hb dX2_claimOf_12 (by rw [c5]; decide) (by rw [c5]; decide) (by rw [c5]; rfl) (by decide) ?_
    exact hj52 ls hF (lv_sub hl [1, 2, 0] rfl)
  · have hF := m_neg c5 hF
    by_cases c6 : ((Group_kinds v) (x0).toNatClampNeg) = 2
    · have hF := m_pos c6 hF
      refine lv_tableIn (off := 52) (tgt := 64) hx hb dX2_claimOf_12 (by rw [c6]; decide) (by rw [c6]; decide) (by rw [c6]; rfl) (by decide) ?_
      refine lv_iload_n hx hb dX2_claimOf_64 rfl (lv_at hl 0 rfl) ?_
      refine lv_aload_n hx hb dX2_claimOf_65 rfl (lv_at hl 1 rfl) ?_
      refine va_get (D := E.1) (ci := 2) (v := .ref (Groupa_vs a)) (C := RX2) (T := TX2) (N := 11) hx hb hts k1 hown hK hP 0 rfl rfl 4 (by decide) k2 (fun _ h9 => h9) rfl dX2_claimOf_66 ?_
      refine lv_iload_n hx hb dX2_claimOf_69 rfl (lv_at hl 2 rfl) ?_
      obtain ⟨h7, hF⟩ := m_chk hF
      refine va_iald (f := (Group_vs v)) hx hb hK hP 2 1 rfl rfl (mIn_ok h7) dX2_claimOf_70 ?_
      refine W.eq (g2 := F0 m 71 ls [.int ((Group_vs v) (x0).toNatClampNeg), .int t1]) rfl ?_
      refine lv_iadd hx hb dX2_claimOf_71 ?_
      obtain ⟨t8, ht8, hF⟩ := m_bnd hF
      refine mSP (n := 1) (rest := []) (As := [.int (t1 + ((Group_vs v) (x0).toNatClampNeg))]) CC hKN hGl hS (c_X2_toHundred l E (t1 + ((Group_vs v) (x0).toNatClampNeg)) t8 ht8) gX2_claimOf_X2_toHundred rfl ⟨rfl, rfl⟩ (by decide +kernel) ⟨Nat.le_of_ble_eq_true rfl, Nat.le_of_ble_eq_true rfl⟩ m_nil rfl hl.1 rfl (Nat.le_of_ble_eq_true rfl) ⟨Nat.zero_le _, Nat.zero_le _⟩ dX2_claimOf_72 ?_
      refine W.eq (g2 := F0 m 75 ls [.int t8]) rfl ?_
      have hF := Option.some.inj hF
      subst hF
      rw [hQ]
      exact W.iret hx hb hr (fun t ht _ => ⟨rfl, ht⟩) (fun _ h => by cases h) dX2_claimOf_75
    · have hF := m_neg c6 hF
      by_cases c9 : ((Group_kinds v) (x0).toNatClampNeg) = 3
      · have hF := m_pos c9 hF
        refine lv_tableIn (off := 64) (tgt := 76) hx hb dX2_claimOf_12 (by rw [c9]; decide) (by rw [c9]; decide) (by rw [c9]; rfl) (by decide) ?_
        refine lv_iconst (v := 2) hx hb dX2_claimOf_76 (by decide) ?_
        refine lv_iload_n hx hb dX2_claimOf_77 rfl (lv_at hl 0 rfl) ?_
        refine lv_imul hx hb dX2_claimOf_78 ?_
        obtain ⟨t10, ht10, hF⟩ := m_bnd hF
        refine mSP (n := 1) (rest := []) (As := [.int (2 * t1)]) CC hKN hGl hS (c_X2_toHundred l E (2 * t1) t10 ht10) gX2_claimOf_X2_toHundred rfl ⟨rfl, rfl⟩ (by decide +kernel) ⟨Nat.le_of_ble_eq_true rfl, Nat.le_of_ble_eq_true rfl⟩ m_nil rfl hl.1 rfl (Nat.le_of_ble_eq_true rfl) ⟨Nat.zero_le _, Nat.zero_le _⟩ dX2_claimOf_79 ?_
        refine W.eq (g2 := F0 m 82 ls [.int t10]) rfl ?_
        have hF := Option.some.inj hF
        subst hF
        rw [hQ]
        exact W.iret hx hb hr (fun t ht _ => ⟨rfl, ht⟩) (fun _ h => by cases h) dX2_claimOf_82
      · have hF := m_neg c9 hF
        by_cases c11 : ((Group_kinds v) (x0).toNatClampNeg) = 4
        · have hF := m_pos c11 hF
          refine lv_tableIn (off := 40) (tgt := 52) hx hb dX2_claimOf_12 (by rw [c11]; decide) (by rw [c11]; decide) (by rw [c11]; rfl) (by decide) ?_
          exact hj52 ls hF (lv_sub hl [1, 2, 0] rfl)
        · have hF := m_neg c11 hF
          by_cases c12 : ((Group_kinds v) (x0).toNatClampNeg) = 5
          · have hF := m_pos c12 hF
            refine lv_tableIn (off := 71) (tgt := 83) hx hb dX2_claimOf_12 (by rw [c12]; decide) (by rw [c12]; decide) (by rw [c12]; rfl) (by decide) ?_
            refine lv_iload_n hx hb dX2_claimOf_83 rfl (lv_at hl 0 rfl) ?_
            refine lv_aload_n hx hb dX2_claimOf_84 rfl (lv_at hl 1 rfl) ?_
            refine va_get (D := E.1) (ci := 2) (v := .ref (Groupa_vs a)) (C := RX2) (T := TX2) (N := 11) hx hb hts k1 hown hK hP 0 rfl rfl 4 (by decide) k2 (fun _ h9 => h9) rfl dX2_claimOf_85 ?_
            refine lv_iload_n hx hb dX2_claimOf_88 rfl (lv_at hl 2 rfl) ?_
            obtain ⟨h13, hF⟩ := m_chk hF
            refine va_iald (f := (Group_vs v)) hx hb hK hP 2 1 rfl rfl (mIn_ok h13) dX2_claimOf_89 ?_
            refine W.eq (g2 := F0 m 90 ls [.int ((Group_vs v) (x0).toNatClampNeg), .int t1]) rfl ?_
            refine lv_iadd hx hb dX2_claimOf_90 ?_
            obtain ⟨t14, ht14, hF⟩ := m_bnd hF
            refine mSP (n := 1) (rest := []) (As := [.int (t1 + ((Group_vs v) (x0).toNatClampNeg))]) CC hKN hGl hS (c_X2_toHundred l E (t1 + ((Group_vs v) (x0).toNatClampNeg)) t14 ht14) gX2_claimOf_X2_toHundred rfl ⟨rfl, rfl⟩ (by decide +kernel) ⟨Nat.le_of_ble_eq_true rfl, Nat.le_of_ble_eq_true rfl⟩ m_nil rfl hl.1 rfl (Nat.le_of_ble_eq_true rfl) ⟨Nat.zero_le _, Nat.zero_le _⟩ dX2_claimOf_91 ?_
            refine W.eq (g2 := F0 m 94 ls [.int t14]) rfl ?_
            refine lv_iconst (v := 2) hx hb dX2_claimOf_94 (by decide) ?_
            refine lv_idiv hx hb dX2_claimOf_95 (by decide) ?_
            have hF := Option.some.inj hF
            subst hF
            rw [hQ]
            exact W.iret hx hb hr (fun t ht _ => ⟨rfl, ht⟩) (fun _ h => by cases h) dX2_claimOf_96
          · have hF := m_neg c12 hF
            by_cases c15 : ((Group_kinds v) (x0).toNatClampNeg) = 6
            · have hF := m_pos c15 hF
              refine lv_tableIn (off := 85) (tgt := 97) hx hb dX2_claimOf_12 (by rw [c15]; decide) (by rw [c15]; decide) (by rw [c15]; rfl) (by decide) ?_
              refine lv_iconst (v := 2) hx hb dX2_claimOf_97 (by decide) ?_
              refine lv_iload_n hx hb dX2_claimOf_98 rfl (lv_at hl 0 rfl) ?_
              refine lv_imul hx hb dX2_claimOf_99 ?_
              refine lv_aload_n hx hb dX2_claimOf_100 rfl (lv_at hl 1 rfl) ?_
              refine lv_iload_n hx hb dX2_claimOf_101 rfl (lv_at hl 2 rfl) ?_
              obtain ⟨t16, ht16, hF⟩ := m_bnd hF
              refine mVP (ci := 2) (n := 1) (rest := [.int (2 * t1)]) (As := [.int x0]) CC hKN hGl hS (c_X2_rowNow l E a v x0 t16 ht16) gX2_claimOf_X2_rowNow rfl ⟨rfl, rfl⟩ (by decide +kernel) ⟨Nat.le_of_ble_eq_true rfl, Nat.le_of_ble_eq_true rfl⟩ hP rfl rfl rfl rfl hl.1 rfl (Nat.le_of_ble_eq_true rfl) ⟨Nat.zero_le _, Nat.zero_le _⟩ dX2_claimOf_102 ?_
              refine W.eq (g2 := F0 m 105 ls [.int t16, .int (2 * t1)]) rfl ?_
              refine lv_iadd hx hb dX2_claimOf_105 ?_
              obtain ⟨t17, ht17, hF⟩ := m_bnd hF
              refine mSP (n := 1) (rest := []) (As := [.int ((2 * t1) + t16)]) CC hKN hGl hS (c_X2_toHundred l E ((2 * t1) + t16) t17 ht17) gX2_claimOf_X2_toHundred rfl ⟨rfl, rfl⟩ (by decide +kernel) ⟨Nat.le_of_ble_eq_true rfl, Nat.le_of_ble_eq_true rfl⟩ m_nil rfl hl.1 rfl (Nat.le_of_ble_eq_true rfl) ⟨Nat.zero_le _, Nat.zero_le _⟩ dX2_claimOf_106 ?_
              refine W.eq (g2 := F0 m 109 ls [.int t17]) rfl ?_
              have hF := Option.some.inj hF
              subst hF
              rw [hQ]
              exact W.iret hx hb hr (fun t ht _ => ⟨rfl, ht⟩) (fun _ h => by cases h) dX2_claimOf_109
            · have hF := m_neg c15 hF
              have qc5 := lv_neT (a := 1) c5 rfl
              have qc6 := lv_neT (a := 2) c6 rfl
              have qc9 := lv_neT (a := 3) c9 rfl
              have qc11 := lv_neT (a := 4) c11 rfl
              have qc12 := lv_neT (a := 5) c12 rfl
              have qc15 := lv_neT (a := 6) c15 rfl
              refine lv_tableOut (tgt := 110) hx hb dX2_claimOf_12 (by omega) (by decide) ?_
              refine lv_iload_n hx hb dX2_claimOf_110 rfl (lv_at hl 0 rfl) ?_
              obtain ⟨t18, ht18, hF⟩ := m_bnd hF
              refine mSP (n := 1) (rest := []) (As := [.int t1]) CC hKN hGl hS (c_X2_toHundred l E t1 t18 ht18) gX2_claimOf_X2_toHundred rfl ⟨rfl, rfl⟩ (by decide +kernel) ⟨Nat.le_of_ble_eq_true rfl, Nat.le_of_ble_eq_true rfl⟩ m_nil rfl hl.1 rfl (Nat.le_of_ble_eq_true rfl) ⟨Nat.zero_le _, Nat.zero_le _⟩ dX2_claimOf_111 ?_
              refine W.eq (g2 := F0 m 114 ls [.int t18]) rfl ?_
              have hF := Option.some.inj hF
              subst hF
              rw [hQ]
              exact W.iret hx hb hr (fun t ht _ => ⟨rfl, ht⟩) (fun _ h => by cases h) dX2_claimOf_114

abbrev rmX2_stakeOf : Room := { frames := 3, cells := 0, slots := 0, locals := 66 }
set_option maxRecDepth 100000 in
set_option maxHeartbeats 400000 in
theorem c_X2_stakeOf (l : Launch) (E : mE) (a : GroupA) (v : GroupV) (x0 : Int32) (x1 : Int32) (t : Int32) (hF : fn_X2_stakeOf v x0 x1 = some t) : Met l yX2_stakeOf wsX2_stakeOf rmX2_stakeOf (mPp E [.ref (Groupa_self a), .int x0, .int x1] (Group_c E a v)) (mSp (some (.int t))) 0 0 (fun _ => False) := by
  refine mOfP (cc := cX2_stakeOf) (maxL := 3) (ret := (some .int)) (by decide) rfl (Nat.le_of_ble_eq_true rfl) ?_
  intro p e_ s m args below meth c Q hQ CC hr hlocks hP hKN hGl ls hl
  have hS : va_S (fun _ => False) s.heap s.heap [] := va_S.rf
  have hK := hKN.1
  have hx := CC.1
  have hb := CC.2.1
  have hml := CC.2.2.1
  have hown : s.vm.findClass RX2 = some m.cls := CC.2.2.2.1
  have hts := CC.2.2.2.2
  have hl : lv_has ls 3 [(0, .ref (Groupa_self a)), (1, .int x0), (2, .int x1)] := hl
  have k0 := hts (.fieldLink RX2 34 "OneDidAll$Group" "hours" "[I") (by decide +kernel)
  have k1 := (show ∀ w ∈ u_ws RX2 TX2 11, w ∈ wsX2_stakeOf by decide +kernel)
  unfold fn_X2_stakeOf at hF
  refine lv_iload_n hx hb dX2_stakeOf_0 rfl (lv_at hl 2 rfl) ?_
  refine lv_iconst (v := 1) hx hb dX2_stakeOf_1 (by decide) ?_
  refine lv_icmp_ne (tgt := 14) hx hb dX2_stakeOf_2 (by decide) (fun c1 => ?_) (fun c1 => ?_)
  · have hF := m_pos c1 hF
    refine lv_aload_n hx hb dX2_stakeOf_14 rfl (lv_at hl 0 rfl) ?_
    refine lv_iload_n hx hb dX2_stakeOf_15 rfl (lv_at hl 1 rfl) ?_
    obtain ⟨t2, ht2, hF⟩ := m_bnd hF
    refine mVP (ci := 2) (n := 1) (rest := []) (As := [.int x0]) CC hKN hGl hS (c_X2_claimOf l E a v x0 t2 ht2) gX2_stakeOf_X2_claimOf rfl ⟨rfl, rfl⟩ (by decide +kernel) ⟨Nat.le_of_ble_eq_true rfl, Nat.le_of_ble_eq_true rfl⟩ hP rfl rfl rfl rfl hl.1 rfl (Nat.le_of_ble_eq_true rfl) ⟨Nat.zero_le _, Nat.zero_le _⟩ dX2_stakeOf_16 ?_
    refine W.eq (g2 := F0 m 19 ls [.int t2]) rfl ?_
    have hF := Option.some.inj hF
    subst hF
    rw [hQ]
    exact W.iret hx hb hr (fun t ht _ => ⟨rfl, ht⟩) (fun _ h => by cases h) dX2_stakeOf_19
  · have hF := m_neg (fun n9 => n9 c1) hF
    refine lv_aload_n hx hb dX2_stakeOf_5 rfl (lv_at hl 0 rfl) ?_
    refine va_get (D := E.1) (ci := 2) (v := .ref (Groupa_hours a)) (C := RX2) (T := TX2) (N := 11) hx hb hts k1 hown hK hP 0 rfl rfl 7 (by decide) k0 (fun _ h9 => h9) rfl dX2_stakeOf_6 ?_
    refine lv_iload_n hx hb dX2_stakeOf_9 rfl (lv_at hl 1 rfl) ?_
    obtain ⟨h3, hF⟩ := m_chk hF
    refine va_iald (f := (Group_hours v)) hx hb hK hP 5 1 rfl rfl (mIn_ok h3) dX2_stakeOf_10 ?_
    refine W.eq (g2 := F0 m 11 ls [.int ((Group_hours v) (x0).toNatClampNeg)]) rfl ?_
    refine lv_goto (tgt := 19) hx hb dX2_stakeOf_11 (by decide) ?_
    have hF := Option.some.inj hF
    subst hF
    rw [hQ]
    exact W.iret hx hb hr (fun t ht _ => ⟨rfl, ht⟩) (fun _ h => by cases h) dX2_stakeOf_19

abbrev rmX3_zealOf : Room := { frames := 2, cells := 0, slots := 0, locals := 51 }
set_option maxRecDepth 100000 in
set_option maxHeartbeats 400000 in
theorem c_X3_zealOf (l : Launch) (E : mE) (a : LessonA) (v : LessonV) (a0 : GroupA) (v0 : GroupV) (x1 : Int32) (t : Int32) (hF : fn_X3_zealOf v v0 x1 = some t) : Met l yX3_zealOf wsX3_zealOf rmX3_zealOf (mPp E [.ref (Lessona_self a), .ref (Groupa_self a0), .int x1] ((Lesson_c E a v) ++ (Group_c E a0 v0))) (mSp (some (.int t))) 0 0 (fun _ => False) := by
  refine mOfP (cc := cX3_zealOf) (maxL := 7) (ret := (some .int)) (by decide) rfl (Nat.le_of_ble_eq_true rfl) ?_
  intro p e_ s m args below meth c Q hQ CC hr hlocks hP hKN hGl ls hl
  have hS : va_S (fun _ => False) s.heap s.heap [] := va_S.rf
  have hK := hKN.1
  have hx := CC.1
  have hb := CC.2.1
  have hml := CC.2.2.1
  have hown : s.vm.findClass RX3 = some m.cls := CC.2.2.2.1
  have hts := CC.2.2.2.2
  have hl : lv_has ls 7 [(0, .ref (Lessona_self a)), (1, .ref (Groupa_self a0)), (2, .int x1)] := hl
  have k0 := hts (.methodLink RX3 34 Lib.Math.max.name) (by decide +kernel)
  have k1 := hts (.static Lib.Math.max.name) (by decide +kernel)
  have k2 := hts (.initialized "java/lang/Math") (by decide +kernel)
  have k3 := hts (.code Lib.Math.max.name Lib.Math.max.code 2 (some .int)) (by decide +kernel)
  have k4 := hts (.fieldLink RX3 25 "OneDidAll$Lesson" "spurs" "I") (by decide +kernel)
  have k5 := (show ∀ w ∈ u_ws RX3 TX3 7, w ∈ wsX3_zealOf by decide +kernel)
  have k6 := hts (.fieldLink RX3 19 "OneDidAll$Lesson" "worths" "[I") (by decide +kernel)
  have k7 := hts (.fieldLink RX3 22 "OneDidAll$Lesson" "ends" "[I") (by decide +kernel)
  have k8 := hts (.fieldLink RX3 9 "OneDidAll$Lesson" "code" "[I") (by decide +kernel)
  unfold fn_X3_zealOf at hF
  refine lv_iconst (v := 5) hx hb dX3_zealOf_0 (by decide) ?_
  refine lv_istore_n (lv' := [(3, .int 5), (0, .ref (Lessona_self a)), (1, .ref (Groupa_self a0)), (2, .int x1)]) hx hb dX3_zealOf_1 rfl hl (by decide) rfl (fun ls hl => ?_)
  refine lv_iconst (v := 0) hx hb dX3_zealOf_2 (by decide) ?_
  refine lv_istore (lv' := [(4, .int 0), (3, .int 5), (0, .ref (Lessona_self a)), (1, .ref (Groupa_self a0)), (2, .int x1)]) hx hb dX3_zealOf_3 hl (by decide) rfl (fun ls hl => ?_)
  refine lv_iconst (v := 0) hx hb dX3_zealOf_5 (by decide) ?_
  refine lv_istore (lv' := [(5, .int 0), (4, .int 0), (3, .int 5), (0, .ref (Lessona_self a)), (1, .ref (Groupa_self a0)), (2, .int x1)]) hx hb dX3_zealOf_6 hl (by decide) rfl (fun ls hl => ?_)
  obtain ⟨j88, hjd88, hF⟩ := m_jp hF
  have hj88 : ∀ (x3_88 : Int32) (ls : Array Slot), j88 x3_88 = some t → lv_has ls 7 [(3, .int x3_88)] → W p l e_ rmX3_zealOf s m args below meth c s.heap [] 0 0 Q (F0 m 88 ls []) := by
    intro x3_88 ls hF hl
    rw [hjd88] at hF
    refine lv_iconst (v := 0) hx hb dX3_zealOf_88 (by decide) ?_
    refine lv_iload_n hx hb dX3_zealOf_89 rfl (lv_at hl 0 rfl) ?_
    refine va_mmax hx hb (hml.trans hl.1.symm) hown k0 k1 k2 k3 (Nat.le_of_ble_eq_true rfl) (Nat.le_of_ble_eq_true rfl) (Nat.zero_le _) (Nat.zero_le _) dX3_zealOf_90 ?_
    refine W.eq (g2 := F0 m 93 ls [.int (mMax 0 x3_88)]) rfl ?_
    have hF := Option.some.inj hF
    subst hF
    rw [hQ]
    exact W.iret hx hb hr (fun t ht _ => ⟨rfl, ht⟩) (fun _ h => by cases h) dX3_zealOf_93
  clear hjd88
  have hL8 : ∀ (n : Nat) (y3_8 : Int32) (y4_8 : Int32) (y5_8 : Int32) (ls : Array Slot), lp_X3_zealOf_8 v v0 x1 j88 n y3_8 y4_8 y5_8 = some t → lv_has ls 7 [(0, .ref (Lessona_self a)), (1, .ref (Groupa_self a0)), (2, .int x1), (3, .int y3_8), (4, .int y4_8), (5, .int y5_8)] → W p l e_ rmX3_zealOf s m args below meth c s.heap [] 0 0 Q (F0 m 8 ls []) := by
    intro n
    induction n with
    | zero =>
      intro y3_8 y4_8 y5_8 ls hF
      exact nomatch (show (none : Option Int32) = some t from hF)
    | succ n ih8 =>
      intro y3_8 y4_8 y5_8 ls hF hl
      have hF : st_X3_zealOf_8 v v0 x1 j88 (lp_X3_zealOf_8 v v0 x1 j88 n) y3_8 y4_8 y5_8 = some t := hF
      unfold st_X3_zealOf_8 at hF
      refine lv_iload hx hb dX3_zealOf_8 (lv_at hl 5 rfl) ?_
      refine lv_aload_n hx hb dX3_zealOf_10 rfl (lv_at hl 0 rfl) ?_
      refine va_get (D := E.1) (ci := 3) (v := .int (Lesson_spurs v)) (C := RX3) (T := TX3) (N := 7) hx hb hts k5 hown hK hP 0 rfl rfl 4 (by decide) k4 (fun _ h9 => h9) rfl dX3_zealOf_11 ?_
      refine lv_icmp_ge (tgt := 88) hx hb dX3_zealOf_14 (by decide) (fun c1 => ?_) (fun c1 => ?_)
      · have hF := m_pos c1 hF
        exact hj88 y3_8 ls hF (lv_sub hl [3] rfl)
      · have hF := m_neg c1 hF
        refine lv_iconst (v := 0) hx hb dX3_zealOf_17 (by decide) ?_
        refine lv_istore (lv' := [(6, .int 0), (0, .ref (Lessona_self a)), (1, .ref (Groupa_self a0)), (2, .int x1), (3, .int y3_8), (4, .int y4_8), (5, .int y5_8)]) hx hb dX3_zealOf_18 hl (by decide) rfl (fun ls hl => ?_)
        obtain ⟨j64, hjd64, hF⟩ := m_jp hF
        have hj64 : ∀ (x4_64 : Int32) (x6_64 : Int32) (ls : Array Slot), j64 x4_64 x6_64 = some t → lv_has ls 7 [(0, .ref (Lessona_self a)), (1, .ref (Groupa_self a0)), (2, .int x1), (3, .int y3_8), (4, .int x4_64), (5, .int y5_8), (6, .int x6_64)] → W p l e_ rmX3_zealOf s m args below meth c s.heap [] 0 0 Q (F0 m 64 ls []) := by
          intro x4_64 x6_64 ls hF hl
          rw [hjd64] at hF
          refine lv_iload hx hb dX3_zealOf_64 (lv_at hl 6 rfl) ?_
          refine lv_iconst (v := 1) hx hb dX3_zealOf_66 (by decide) ?_
          refine lv_iand hx hb dX3_zealOf_67 ?_
          refine lv_iconst (v := 1) hx hb dX3_zealOf_68 (by decide) ?_
          obtain ⟨j82, hjd82, hF⟩ := m_jp hF
          have hj82 : ∀ (x3_82 : Int32) (ls : Array Slot), j82 x3_82 = some t → lv_has ls 7 [(0, .ref (Lessona_self a)), (1, .ref (Groupa_self a0)), (2, .int x1), (3, .int x3_82), (4, .int x4_64), (5, .int y5_8)] → W p l e_ rmX3_zealOf s m args below meth c s.heap [] 0 0 Q (F0 m 82 ls []) := by
            intro x3_82 ls hF hl
            rw [hjd82] at hF
            refine lv_iinc (v := (y5_8 + 1)) (lv' := [(5, .int (y5_8 + 1)), (0, .ref (Lessona_self a)), (1, .ref (Groupa_self a0)), (2, .int x1), (3, .int x3_82), (4, .int x4_64)]) hx hb dX3_zealOf_82 hl (k := 5) rfl rfl (by decide) rfl (fun ls hl => ?_)
            refine lv_goto (tgt := 8) hx hb dX3_zealOf_85 (by decide) ?_
            exact ih8 x3_82 x4_64 (y5_8 + 1) ls hF (lv_sub hl [1, 2, 3, 4, 5, 0] rfl)
          clear hjd82
          refine lv_icmp_ne (tgt := 82) hx hb dX3_zealOf_69 (by decide) (fun c2 => ?_) (fun c2 => ?_)
          · have hF := m_pos c2 hF
            exact hj82 y3_8 ls hF (lv_sub hl [0, 1, 2, 3, 4, 5] rfl)
          · have hF := m_neg (fun n9 => n9 c2) hF
            refine lv_iload_n hx hb dX3_zealOf_72 rfl (lv_at hl 3 rfl) ?_
            refine lv_aload_n hx hb dX3_zealOf_73 rfl (lv_at hl 0 rfl) ?_
            refine va_get (D := E.1) (ci := 3) (v := .ref (Lessona_worths a)) (C := RX3) (T := TX3) (N := 7) hx hb hts k5 hown hK hP 0 rfl rfl 2 (by decide) k6 (fun _ h9 => h9) rfl dX3_zealOf_74 ?_
            refine lv_iload hx hb dX3_zealOf_77 (lv_at hl 5 rfl) ?_
            obtain ⟨h3, hF⟩ := m_chk hF
            refine va_iald (f := (Lesson_worths v)) hx hb hK hP 2 1 rfl rfl (mIn_ok h3) dX3_zealOf_79 ?_
            refine W.eq (g2 := F0 m 80 ls [.int ((Lesson_worths v) (y5_8).toNatClampNeg), .int y3_8]) rfl ?_
            refine lv_iadd hx hb dX3_zealOf_80 ?_
            refine lv_istore_n (lv' := [(3, .int (y3_8 + ((Lesson_worths v) (y5_8).toNatClampNeg))), (0, .ref (Lessona_self a)), (1, .ref (Groupa_self a0)), (2, .int x1), (4, .int x4_64), (5, .int y5_8), (6, .int x6_64)]) hx hb dX3_zealOf_81 rfl hl (by decide) rfl (fun ls hl => ?_)
            exact hj82 (y3_8 + ((Lesson_worths v) (y5_8).toNatClampNeg)) ls hF (lv_sub hl [1, 2, 3, 0, 4, 5] rfl)
        clear hjd64
        have hL20 : ∀ (n : Nat) (y4_20 : Int32) (y6_20 : Int32) (ls : Array Slot), lp_X3_zealOf_20 v v0 x1 y5_8 j64 n y4_20 y6_20 = some t → lv_has ls 7 [(0, .ref (Lessona_self a)), (1, .ref (Groupa_self a0)), (2, .int x1), (3, .int y3_8), (4, .int y4_20), (5, .int y5_8), (6, .int y6_20)] → W p l e_ rmX3_zealOf s m args below meth c s.heap [] 0 0 Q (F0 m 20 ls []) := by
          intro n
          induction n with
          | zero =>
            intro y4_20 y6_20 ls hF
            exact nomatch (show (none : Option Int32) = some t from hF)
          | succ n ih20 =>
            intro y4_20 y6_20 ls hF hl
            have hF : st_X3_zealOf_20 v v0 x1 y5_8 j64 (lp_X3_zealOf_20 v v0 x1 y5_8 j64 n) y4_20 y6_20 = some t := hF
            unfold st_X3_zealOf_20 at hF
            refine lv_iload hx hb dX3_zealOf_20 (lv_at hl 4 rfl) ?_
            refine lv_aload_n hx hb dX3_zealOf_22 rfl (lv_at hl 0 rfl) ?_
            refine va_get (D := E.1) (ci := 3) (v := .ref (Lessona_ends a)) (C := RX3) (T := TX3) (N := 7) hx hb hts k5 hown hK hP 0 rfl rfl 3 (by decide) k7 (fun _ h9 => h9) rfl dX3_zealOf_23 ?_
            refine lv_iload hx hb dX3_zealOf_26 (lv_at hl 5 rfl) ?_
            obtain ⟨h4, hF⟩ := m_chk hF
            refine va_iald (f := (Lesson_ends v)) hx hb hK hP 3 1 rfl rfl (mIn_ok h4) dX3_zealOf_28 ?_
            refine W.eq (g2 := F0 m 29 ls [.int ((Lesson_ends v) (y5_8).toNatClampNeg), .int y4_20]) rfl ?_
            refine lv_icmp_ge (tgt := 64) hx hb dX3_zealOf_29 (by decide) (fun c5 => ?_) (fun c5 => ?_)
            · have hF := m_pos c5 hF
              exact hj64 y4_20 y6_20 ls hF (lv_sub hl [0, 1, 2, 3, 4, 5, 6] rfl)
            · have hF := m_neg c5 hF
              refine lv_iload hx hb dX3_zealOf_32 (lv_at hl 4 rfl) ?_
              refine lv_aload_n hx hb dX3_zealOf_34 rfl (lv_at hl 0 rfl) ?_
              refine va_get (D := E.1) (ci := 3) (v := .ref (Lessona_code a)) (C := RX3) (T := TX3) (N := 7) hx hb hts k5 hown hK hP 0 rfl rfl 0 (by decide) k8 (fun _ h9 => h9) rfl dX3_zealOf_35 ?_
              refine va_alen (v := (Int32.ofNat 100)) hx hb hK hP 1 1 rfl rfl rfl dX3_zealOf_38 ?_
              refine lv_icmp_ge (tgt := 64) hx hb dX3_zealOf_39 (by decide) (fun c6 => ?_) (fun c6 => ?_)
              · have hF := m_pos c6 hF
                exact hj64 y4_20 y6_20 ls hF (lv_sub hl [0, 1, 2, 3, 4, 5, 6] rfl)
              · have hF := m_neg c6 hF
                refine lv_iload hx hb dX3_zealOf_42 (lv_at hl 6 rfl) ?_
                refine lv_aload_n hx hb dX3_zealOf_44 rfl (lv_at hl 0 rfl) ?_
                refine va_get (D := E.1) (ci := 3) (v := .ref (Lessona_code a)) (C := RX3) (T := TX3) (N := 7) hx hb hts k5 hown hK hP 0 rfl rfl 0 (by decide) k8 (fun _ h9 => h9) rfl dX3_zealOf_45 ?_
                refine lv_iload hx hb dX3_zealOf_48 (lv_at hl 4 rfl) ?_
                obtain ⟨h7, hF⟩ := m_chk hF
                refine va_iald (f := (Lesson_code v)) hx hb hK hP 1 1 rfl rfl (mIn_ok h7) dX3_zealOf_50 ?_
                refine W.eq (g2 := F0 m 51 ls [.int ((Lesson_code v) (y4_20).toNatClampNeg), .int y6_20]) rfl ?_
                refine lv_aload_n hx hb dX3_zealOf_51 rfl (lv_at hl 1 rfl) ?_
                refine lv_iload_n hx hb dX3_zealOf_52 rfl (lv_at hl 2 rfl) ?_
                obtain ⟨t8, ht8, hF⟩ := m_bnd hF
                have hPc := m_cutP (mid := (Group_c E a0 v0)) hP 4 9 rfl
                refine mSP (n := 4) (rest := []) (As := [.int y6_20, .int ((Lesson_code v) (y4_20).toNatClampNeg), .ref (Groupa_self a0), .int x1]) CC hKN hGl hS (c_X3_look l E a0 v0 y6_20 ((Lesson_code v) (y4_20).toNatClampNeg) x1 t8 ht8) gX3_zealOf_X3_look rfl ⟨rfl, rfl⟩ (by decide +kernel) ⟨Nat.le_of_ble_eq_true rfl, Nat.le_of_ble_eq_true rfl⟩ hPc rfl hl.1 rfl (Nat.le_of_ble_eq_true rfl) ⟨Nat.zero_le _, Nat.zero_le _⟩ dX3_zealOf_53 ?_
                refine W.eq (g2 := F0 m 56 ls [.int t8]) rfl ?_
                refine lv_istore (lv' := [(6, .int t8), (0, .ref (Lessona_self a)), (1, .ref (Groupa_self a0)), (2, .int x1), (3, .int y3_8), (4, .int y4_20), (5, .int y5_8)]) hx hb dX3_zealOf_56 hl (by decide) rfl (fun ls hl => ?_)
                refine lv_iinc (v := (y4_20 + 1)) (lv' := [(4, .int (y4_20 + 1)), (6, .int t8), (0, .ref (Lessona_self a)), (1, .ref (Groupa_self a0)), (2, .int x1), (3, .int y3_8), (5, .int y5_8)]) hx hb dX3_zealOf_58 hl (k := 5) rfl rfl (by decide) rfl (fun ls hl => ?_)
                refine lv_goto (tgt := 20) hx hb dX3_zealOf_61 (by decide) ?_
                exact ih20 (y4_20 + 1) t8 ls hF (lv_sub hl [2, 3, 4, 5, 0, 6, 1] rfl)
        exact hL20 m_N y4_8 0 ls hF (lv_sub hl [1, 2, 3, 4, 5, 6, 0] rfl)
  exact hL8 m_N 5 0 0 ls hF (lv_sub hl [3, 4, 5, 2, 1, 0] rfl)

abbrev rmX4_readNumber : Room := { frames := 5, cells := 0, slots := 0, locals := 113 }
set_option maxRecDepth 100000 in
set_option maxHeartbeats 400000 in
theorem c_X4_readNumber (l : Launch) (E : mE) (a : ReaderA) (v : ReaderV) (t : (Int32 × ReaderV)) (hF : fn_X4_readNumber v = some t) (sz : Nat) : Met l yX4_readNumber wsX4_readNumber rmX4_readNumber (mPm E [.ref (Readera_self a)] sz ((Reader_c E a v)) (([] : va_W))) (mSm E (some (.int t.1)) ((Reader_c E a t.2)) (va_A ((Reader_c E a v)) sz)) 0 0 (va_A ((Reader_c E a v)) sz) := by
  refine mOfM (cc := cX4_readNumber) (maxL := 2) (ret := (some .boolean)) (by decide) rfl (Nat.le_of_ble_eq_true rfl) ?_
  intro p e_ s m args below meth c Q A hQ CC hr hlocks hin hA hP hD hKN hGl hR0 hRA ls hl
  have hS : va_S A s.heap s.heap [] := va_S.rf
  have hK := hKN.1
  have hx := CC.1
  have hb := CC.2.1
  have hml := CC.2.2.1
  have hown : s.vm.findClass RX4 = some m.cls := CC.2.2.2.1
  have hts := CC.2.2.2.2
  have hl : lv_has ls 2 [(0, .ref (Readera_self a))] := hl
  have k0 := (hKN.2.2.2.1 ("OneDidAll$Reader", 93, "0123456789", 9) (by decide +kernel))
  have k1 := hts (.fieldLink RX4 15 "OneDidAll$Reader" "number" "I") (by decide +kernel)
  have k2 := (show ∀ w ∈ u_ws RX4 TX4 5, w ∈ wsX4_readNumber by decide +kernel)
  have hP : va_P E.1 vwCl (Reader_c E a v) s.heap := hP
  obtain ⟨H, hH⟩ : ∃ H, H = s.heap := ⟨_, rfl⟩
  obtain ⟨locs, hlc⟩ : ∃ z : List Loc, z = [] := ⟨_, rfl⟩
  rw [← hH] at hP
  rw [← hlc] at hS
  have hS : va_S A s.heap H locs := by rw [hH]; exact hS
  rw [← hH, ← hlc]
  unfold fn_X4_readNumber at hF
  refine lv_aload_n hx hb dX4_readNumber_0 rfl (lv_at hl 0 rfl) ?_
  refine lv_aload_n hx hb dX4_readNumber_1 rfl (lv_at hl 0 rfl) ?_
  refine va_ldcS hx hb hown k0 dX4_readNumber_2 ?_
  obtain ⟨t1, ht1, hF⟩ := m_bnd hF
  have hPc := hP
  have hDc := hD
  have hFc := va_free (wc := (Reader_c E a v)) hD hS hA [0, 1, 2, 3, 4, 5] rfl
  refine mVM (ci := 4) (n := 1) (rest := [.ref (Readera_self a)]) (As := [.ref (m_adK E 9)]) CC hKN hGl (c_X4_takeOneOf l E a v 9 t1 ht1 _) gX4_readNumber_X4_takeOneOf rfl ⟨rfl, rfl⟩ (by decide +kernel) ⟨Nat.le_of_ble_eq_true rfl, Nat.le_of_ble_eq_true rfl⟩ hPc hDc m_nil m_nilA hS hFc rfl rfl rfl rfl hl.1 rfl (Nat.le_of_ble_eq_true rfl) ⟨Nat.zero_le _, Nat.zero_le _⟩ dX4_readNumber_4 (fun H1 locs hP1 hD1 hz1 hk1 hS => ?_)
  have hP : va_P E.1 vwCl (Reader_c E a t1.2) H1 := hP1
  have hD : va_D A (Reader_c E a t1.2) := m_back hD1 hFc
  generalize H1 = H at hP hS ⊢
  refine W.eq (g2 := F0 m 7 ls [.int t1.1, .ref (Readera_self a)]) rfl ?_
  refine va_put (D := E.1) (ci := 4) (v := .int t1.1) (ty := .int) (C := RX4) (T := TX4) (N := 5) hx hb hts k2 tyX4 tyX4_ok nmX4 hown hK hP hD hS 0 rfl rfl 3 (by decide) k1 (fun _ h9 => h9) rfl (by decide +kernel) rfl rfl (Nat.le_of_ble_eq_true rfl) dX4_readNumber_7 (fun H locs hP hD hS => ?_)
  have hP : va_P E.1 vwCl (Reader_c E a (Reader_number_s t1.2 t1.1)) H := hP
  have hD : va_D A (Reader_c E a (Reader_number_s t1.2 t1.1)) := hD
  refine lv_aload_n hx hb dX4_readNumber_10 rfl (lv_at hl 0 rfl) ?_
  refine va_get (D := E.1) (ci := 4) (v := .int t1.1) (C := RX4) (T := TX4) (N := 5) hx hb hts k2 hown hK hP 0 rfl rfl 3 (by decide) k1 (fun _ h9 => h9) rfl dX4_readNumber_11 ?_
  refine lv_if_ge (tgt := 19) hx hb dX4_readNumber_14 (by decide) (fun c2 => ?_) (fun c2 => ?_)
  · have hF := m_pos c2 hF
    refine lv_aload_n hx hb dX4_readNumber_19 rfl (lv_at hl 0 rfl) ?_
    refine va_get (D := E.1) (ci := 4) (v := .int t1.1) (C := RX4) (T := TX4) (N := 5) hx hb hts k2 hown hK hP 0 rfl rfl 3 (by decide) k1 (fun _ h9 => h9) rfl dX4_readNumber_20 ?_
    obtain ⟨j36, hjd36, hF⟩ := m_jp hF
    have hj36 : ∀ (z0_36 : Int32) (wx_36 : ReaderV) (H : Heap) (locs : List Loc) (ls : Array Slot), j36 z0_36 wx_36 = some t → va_P E.1 vwCl (Reader_c E a wx_36) H → va_D A (Reader_c E a wx_36) → va_S A s.heap H locs → lv_has ls 2 [(0, .ref (Readera_self a))] → W p l e_ rmX4_readNumber s m args below meth c H locs 0 0 Q (F0 m 36 ls [.int z0_36]) := by
      intro z0_36 wx_36 H locs ls hF hP hD hS hl
      rw [hjd36] at hF
      refine lv_istore_n (lv' := [(1, .int z0_36), (0, .ref (Readera_self a))]) hx hb dX4_readNumber_36 rfl hl (by decide) rfl (fun ls hl => ?_)
      refine lv_iload_n hx hb dX4_readNumber_37 rfl (lv_at hl 0 rfl) ?_
      refine lv_if_lt (tgt := 54) hx hb dX4_readNumber_38 (by decide) (fun c3 => ?_) (fun c3 => ?_)
      · have hF := m_pos c3 hF
        refine lv_iconst (v := 1) hx hb dX4_readNumber_54 (by decide) ?_
        have hF := Option.some.inj hF
        subst hF
        rw [hQ]
        exact W.zret hx hb hr rfl (fun t ht _ => ⟨⟨rfl, by rw [ht]; exact hP, hD⟩, hS.F ht⟩) hS.2.2 dX4_readNumber_55
      · have hF := m_neg c3 hF
        refine lv_aload_n hx hb dX4_readNumber_41 rfl (lv_at hl 1 rfl) ?_
        refine lv_aload_n hx hb dX4_readNumber_42 rfl (lv_at hl 1 rfl) ?_
        refine va_get (D := E.1) (ci := 4) (v := .int (Reader_number wx_36)) (C := RX4) (T := TX4) (N := 5) hx hb hts k2 hown hK hP 0 rfl rfl 3 (by decide) k1 (fun _ h9 => h9) rfl dX4_readNumber_43 ?_
        refine lv_bipush (v := 10) hx hb dX4_readNumber_46 (by decide) ?_
        refine lv_imul hx hb dX4_readNumber_48 ?_
        refine lv_iload_n hx hb dX4_readNumber_49 rfl (lv_at hl 0 rfl) ?_
        refine lv_iadd hx hb dX4_readNumber_50 ?_
        refine va_put (D := E.1) (ci := 4) (v := .int (((Reader_number wx_36) * 10) + z0_36)) (ty := .int) (C := RX4) (T := TX4) (N := 5) hx hb hts k2 tyX4 tyX4_ok nmX4 hown hK hP hD hS 0 rfl rfl 3 (by decide) k1 (fun _ h9 => h9) rfl (by decide +kernel) rfl rfl (Nat.le_of_ble_eq_true rfl) dX4_readNumber_51 (fun H locs hP hD hS => ?_)
        have hP : va_P E.1 vwCl (Reader_c E a (Reader_number_s wx_36 (((Reader_number wx_36) * 10) + z0_36))) H := hP
        have hD : va_D A (Reader_c E a (Reader_number_s wx_36 (((Reader_number wx_36) * 10) + z0_36))) := hD
        refine lv_iconst (v := 1) hx hb dX4_readNumber_54 (by decide) ?_
        have hF := Option.some.inj hF
        subst hF
        rw [hQ]
        exact W.zret hx hb hr rfl (fun t ht _ => ⟨⟨rfl, by rw [ht]; exact hP, hD⟩, hS.F ht⟩) hS.2.2 dX4_readNumber_55
    clear hjd36
    refine lv_if_ne (tgt := 30) hx hb dX4_readNumber_23 (by decide) (fun c4 => ?_) (fun c4 => ?_)
    · have hF := m_pos c4 hF
      refine lv_aload_n hx hb dX4_readNumber_30 rfl (lv_at hl 0 rfl) ?_
      refine va_ldcS hx hb hown k0 dX4_readNumber_31 ?_
      obtain ⟨t5, ht5, hF⟩ := m_bnd hF
      have hPc := hP
      have hDc := hD
      have hFc := va_free (wc := (Reader_c E a (Reader_number_s t1.2 t1.1))) hD hS hA [0, 1, 2, 3, 4, 5] rfl
      refine mVM (ci := 4) (n := 1) (rest := []) (As := [.ref (m_adK E 9)]) CC hKN hGl (c_X4_takeOneOf l E a (Reader_number_s t1.2 t1.1) 9 t5 ht5 _) gX4_readNumber_X4_takeOneOf rfl ⟨rfl, rfl⟩ (by decide +kernel) ⟨Nat.le_of_ble_eq_true rfl, Nat.le_of_ble_eq_true rfl⟩ hPc hDc m_nil m_nilA hS hFc rfl rfl rfl rfl hl.1 rfl (Nat.le_of_ble_eq_true rfl) ⟨Nat.zero_le _, Nat.zero_le _⟩ dX4_readNumber_33 (fun H1 locs hP1 hD1 hz1 hk1 hS => ?_)
      have hP : va_P E.1 vwCl (Reader_c E a t5.2) H1 := hP1
      have hD : va_D A (Reader_c E a t5.2) := m_back hD1 hFc
      generalize H1 = H at hP hS ⊢
      refine W.eq (g2 := F0 m 36 ls [.int t5.1]) rfl ?_
      exact hj36 t5.1 t5.2 H locs ls hF hP hD hS (lv_sub hl [0] rfl)
    · have hF := m_neg (fun n9 => n9 c4) hF
      refine lv_iconst (v := (-1)) hx hb dX4_readNumber_26 (by decide) ?_
      refine lv_goto (tgt := 36) hx hb dX4_readNumber_27 (by decide) ?_
      exact hj36 (-1) (Reader_number_s t1.2 t1.1) H locs ls hF hP hD hS (lv_sub hl [0] rfl)
  · have hF := m_neg c2 hF
    refine lv_iconst (v := 0) hx hb dX4_readNumber_17 (by decide) ?_
    have hF := Option.some.inj hF
    subst hF
    rw [hQ]
    exact W.zret hx hb hr rfl (fun t ht _ => ⟨⟨rfl, by rw [ht]; exact hP, hD⟩, hS.F ht⟩) hS.2.2 dX4_readNumber_18

abbrev rmX4_readWord : Room := { frames := 4, cells := 0, slots := 0, locals := 85 }
set_option maxRecDepth 100000 in
set_option maxHeartbeats 400000 in
theorem c_X4_readWord (l : Launch) (E : mE) (a : ReaderA) (v : ReaderV) (x0 : Nat) (t : (Int32 × ReaderV)) (hF : fn_X4_readWord v x0 = some t) (sz : Nat) : Met l yX4_readWord wsX4_readWord rmX4_readWord (mPm E [.ref (Readera_self a), .ref (m_adK E x0)] sz ((Reader_c E a v)) (([] : va_W))) (mSm E (some (.int t.1)) ((Reader_c E a t.2)) (va_A ((Reader_c E a v)) sz)) 0 0 (va_A ((Reader_c E a v)) sz) := by
  refine mOfM (cc := cX4_readWord) (maxL := 3) (ret := (some .boolean)) (by decide) rfl (Nat.le_of_ble_eq_true rfl) ?_
  intro p e_ s m args below meth c Q A hQ CC hr hlocks hin hA hP hD hKN hGl hR0 hRA ls hl
  have hS : va_S A s.heap s.heap [] := va_S.rf
  have hK := hKN.1
  have hx := CC.1
  have hb := CC.2.1
  have hml := CC.2.2.1
  have hown : s.vm.findClass RX4 = some m.cls := CC.2.2.2.1
  have hts := CC.2.2.2.2
  have hl : lv_has ls 3 [(0, .ref (Readera_self a)), (1, .ref (m_adK E x0))] := hl
  have hP : va_P E.1 vwCl (Reader_c E a v) s.heap := hP
  obtain ⟨H, hH⟩ : ∃ H, H = s.heap := ⟨_, rfl⟩
  obtain ⟨locs, hlc⟩ : ∃ z : List Loc, z = [] := ⟨_, rfl⟩
  rw [← hH] at hP
  rw [← hlc] at hS
  have hS : va_S A s.heap H locs := by rw [hH]; exact hS
  rw [← hH, ← hlc]
  unfold fn_X4_readWord at hF
  refine lv_iconst (v := 0) hx hb dX4_readWord_0 (by decide) ?_
  refine lv_istore_n (lv' := [(2, .int 0), (0, .ref (Readera_self a)), (1, .ref (m_adK E x0))]) hx hb dX4_readWord_1 rfl hl (by decide) rfl (fun ls hl => ?_)
  have hL2 : ∀ (n : Nat) (y2_2 : Int32) (wy_2 : ReaderV) (H : Heap) (locs : List Loc) (ls : Array Slot), lp_X4_readWord_2 x0 n y2_2 wy_2 = some t → va_P E.1 vwCl (Reader_c E a wy_2) H → va_D A (Reader_c E a wy_2) → va_S A s.heap H locs → lv_has ls 3 [(0, .ref (Readera_self a)), (1, .ref (m_adK E x0)), (2, .int y2_2)] → W p l e_ rmX4_readWord s m args below meth c H locs 0 0 Q (F0 m 2 ls []) := by
    intro n
    induction n with
    | zero =>
      intro y2_2 wy_2 H locs ls hF
      exact nomatch (show (none : Option (Int32 × ReaderV)) = some t from hF)
    | succ n ih2 =>
      intro y2_2 wy_2 H locs ls hF hP hD hS hl
      have hF : st_X4_readWord_2 x0 (lp_X4_readWord_2 x0 n) y2_2 wy_2 = some t := hF
      unfold st_X4_readWord_2 at hF
      refine lv_iload_n hx hb dX4_readWord_2 rfl (lv_at hl 2 rfl) ?_
      refine lv_aload_n hx hb dX4_readWord_3 rfl (lv_at hl 1 rfl) ?_
      obtain ⟨h2, hF⟩ := m_chk hF
      obtain ⟨t1, ht1, hF⟩ := m_bnd hF
      refine mVPs (n := 0) (rest := [.int y2_2]) (As := []) CC hKN hGl hS (c_J0_length_8abf5 l E x0 t1 ht1) gX4_readWord_J0_length_8abf5 rfl ⟨rfl, rfl⟩ (by decide +kernel) ⟨Nat.le_of_ble_eq_true rfl, Nat.le_of_ble_eq_true rfl⟩ m_nil (vk_recv hGl.2.2.2.2.1 h2 hS) rfl hl.1 rfl (Nat.le_of_ble_eq_true rfl) ⟨Nat.zero_le _, Nat.zero_le _⟩ dX4_readWord_4 ?_
      refine W.eq (g2 := F0 m 7 ls [.int t1, .int y2_2]) rfl ?_
      refine lv_icmp_ge (tgt := 30) hx hb dX4_readWord_7 (by decide) (fun c3 => ?_) (fun c3 => ?_)
      · have hF := m_pos c3 hF
        refine lv_iconst (v := 1) hx hb dX4_readWord_30 (by decide) ?_
        have hF := Option.some.inj hF
        subst hF
        rw [hQ]
        exact W.zret hx hb hr rfl (fun t ht _ => ⟨⟨rfl, by rw [ht]; exact hP, hD⟩, hS.F ht⟩) hS.2.2 dX4_readWord_31
      · have hF := m_neg c3 hF
        refine lv_aload_n hx hb dX4_readWord_10 rfl (lv_at hl 0 rfl) ?_
        refine lv_aload_n hx hb dX4_readWord_11 rfl (lv_at hl 1 rfl) ?_
        refine lv_iload_n hx hb dX4_readWord_12 rfl (lv_at hl 2 rfl) ?_
        obtain ⟨h5, hF⟩ := m_chk hF
        obtain ⟨t4, ht4, hF⟩ := m_bnd hF
        refine mVPs (n := 1) (rest := [.ref (Readera_self a)]) (As := [.int y2_2]) CC hKN hGl hS (c_J0_charAt_5068e l E x0 y2_2 t4 ht4) gX4_readWord_J0_charAt_5068e rfl ⟨rfl, rfl⟩ (by decide +kernel) ⟨Nat.le_of_ble_eq_true rfl, Nat.le_of_ble_eq_true rfl⟩ m_nil (vk_recv hGl.2.2.2.2.1 h5 hS) rfl hl.1 rfl (Nat.le_of_ble_eq_true rfl) ⟨Nat.zero_le _, Nat.zero_le _⟩ dX4_readWord_13 ?_
        refine W.eq (g2 := F0 m 16 ls [.int t4, .ref (Readera_self a)]) rfl ?_
        obtain ⟨t6, ht6, hF⟩ := m_bnd hF
        have hPc := hP
        have hDc := hD
        have hFc := va_free (wc := (Reader_c E a wy_2)) hD hS hA [0, 1, 2, 3, 4, 5] rfl
        refine mVM (ci := 4) (n := 1) (rest := []) (As := [.int t4]) CC hKN hGl (c_X4_take l E a wy_2 t4 t6 ht6 _) gX4_readWord_X4_take rfl ⟨rfl, rfl⟩ (by decide +kernel) ⟨Nat.le_of_ble_eq_true rfl, Nat.le_of_ble_eq_true rfl⟩ hPc hDc m_nil m_nilA hS hFc rfl rfl rfl rfl hl.1 rfl (Nat.le_of_ble_eq_true rfl) ⟨Nat.zero_le _, Nat.zero_le _⟩ dX4_readWord_16 (fun H1 locs hP1 hD1 hz1 hk1 hS => ?_)
        have hP : va_P E.1 vwCl (Reader_c E a t6.2) H1 := hP1
        have hD : va_D A (Reader_c E a t6.2) := m_back hD1 hFc
        generalize H1 = H at hP hS ⊢
        refine W.eq (g2 := F0 m 19 ls [.int t6.1]) rfl ?_
        refine lv_if_ne (tgt := 24) hx hb dX4_readWord_19 (by decide) (fun c7 => ?_) (fun c7 => ?_)
        · have hF := m_pos c7 hF
          refine lv_iinc (v := (y2_2 + 1)) (lv' := [(2, .int (y2_2 + 1)), (0, .ref (Readera_self a)), (1, .ref (m_adK E x0))]) hx hb dX4_readWord_24 hl (k := 2) rfl rfl (by decide) rfl (fun ls hl => ?_)
          refine lv_goto (tgt := 2) hx hb dX4_readWord_27 (by decide) ?_
          exact ih2 (y2_2 + 1) t6.2 H locs ls hF hP hD hS (lv_sub hl [1, 2, 0] rfl)
        · have hF := m_neg (fun n9 => n9 c7) hF
          refine lv_iconst (v := 0) hx hb dX4_readWord_22 (by decide) ?_
          have hF := Option.some.inj hF
          subst hF
          rw [hQ]
          exact W.zret hx hb hr rfl (fun t ht _ => ⟨⟨rfl, by rw [ht]; exact hP, hD⟩, hS.F ht⟩) hS.2.2 dX4_readWord_23
  exact hL2 m_N 0 v H locs ls hF hP hD hS (lv_sub hl [1, 2, 0] rfl)

abbrev rmX5_copyFrom : Room := { frames := 3, cells := 0, slots := 0, locals := 64 }
set_option maxRecDepth 100000 in
set_option maxHeartbeats 400000 in
theorem c_X5_copyFrom (l : Launch) (E : mE) (a : RoomA) (v : RoomV) (a0 : RoomA) (v0 : RoomV) (RP : va_W) (hRP : ∀ (i r : Nat), Room_lessons v0 i = some r → ∃ (k : Nat) (fs : List Value), RP[k]? = some (r, .inr (3, fs))) (t : RoomV) (hF : fn_X5_copyFrom v v0 = some t) (sz : Nat) : Met l yX5_copyFrom wsX5_copyFrom rmX5_copyFrom (mPm E [.ref (Rooma_self a), .ref (Rooma_self a0)] sz (((Room_c E a v) ++ (Room_c E a0 v0))) (RP)) (mSm E (none) (((Room_c E a t) ++ (Room_c E a0 v0))) (va_A (((Room_c E a v) ++ (Room_c E a0 v0))) sz)) 0 0 (va_A (((Room_c E a v) ++ (Room_c E a0 v0))) sz) := by
  refine mOfM (cc := cX5_copyFrom) (maxL := 3) (ret := none) (by decide) rfl (Nat.le_of_ble_eq_true rfl) ?_
  intro p e_ s m args below meth c Q A hQ CC hr hlocks hin hA hP hD hKN hGl hR0 hRA ls hl
  have hS : va_S A s.heap s.heap [] := va_S.rf
  have hK := hKN.1
  have hx := CC.1
  have hb := CC.2.1
  have hml := CC.2.2.1
  have hown : s.vm.findClass RX5 = some m.cls := CC.2.2.2.1
  have hts := CC.2.2.2.2
  have hl : lv_has ls 3 [(0, .ref (Rooma_self a)), (1, .ref (Rooma_self a0))] := hl
  have k0 := hts (.fieldLink RX5 12 "OneDidAll$Room" "group" "LOneDidAll$Group;") (by decide +kernel)
  have k1 := (show ∀ w ∈ u_ws RX5 TX5 9, w ∈ wsX5_copyFrom by decide +kernel)
  have k2 := hts (.fieldLink RX5 18 "OneDidAll$Room" "tape" "[B") (by decide +kernel)
  have k3 := hts (.methodLink RX5 59 arraycopyName) (by decide +kernel)
  have k4 := hts (.native arraycopyName) (by decide +kernel)
  have k5 := hts (.static arraycopyName) (by decide +kernel)
  have k6 := hts (.initialized "java/lang/System") (by decide +kernel)
  have k7 := hts (.fieldLink RX5 22 "OneDidAll$Room" "signs" "I") (by decide +kernel)
  have k8 := hts (.fieldLink RX5 32 "OneDidAll$Room" "lessonCount" "I") (by decide +kernel)
  have k9 := hts (.fieldLink RX5 45 "OneDidAll$Room" "seen" "LOneDidAll$Rows;") (by decide +kernel)
  have k10 := hts (.fieldLink RX5 49 "OneDidAll$Room" "plan" "LOneDidAll$Rows;") (by decide +kernel)
  have k11 := hts (.fieldLink RX5 52 "OneDidAll$Room" "book" "LOneDidAll$Rows;") (by decide +kernel)
  have k12 := hts (.fieldLink RX5 28 "OneDidAll$Room" "lessons" "[LOneDidAll$Lesson;") (by decide +kernel)
  have hP : va_P E.1 vwCl ((Room_c E a v) ++ (Room_c E a0 v0)) s.heap := hP
  obtain ⟨H, hH⟩ : ∃ H, H = s.heap := ⟨_, rfl⟩
  obtain ⟨locs, hlc⟩ : ∃ z : List Loc, z = [] := ⟨_, rfl⟩
  rw [← hH] at hP
  rw [← hlc] at hS
  have hS : va_S A s.heap H locs := by rw [hH]; exact hS
  rw [← hH, ← hlc]
  unfold fn_X5_copyFrom at hF
  refine lv_aload_n hx hb dX5_copyFrom_0 rfl (lv_at hl 0 rfl) ?_
  refine va_get (D := E.1) (ci := 5) (v := .ref (Groupa_self (Rooma_group a))) (C := RX5) (T := TX5) (N := 9) hx hb hts k1 hown hK hP 0 rfl rfl 0 (by decide) k0 (fun _ h9 => h9) rfl dX5_copyFrom_1 ?_
  refine lv_aload_n hx hb dX5_copyFrom_4 rfl (lv_at hl 1 rfl) ?_
  refine va_get (D := E.1) (ci := 5) (v := .ref (Groupa_self (Rooma_group a0))) (C := RX5) (T := TX5) (N := 9) hx hb hts k1 hown hK hP 21 rfl rfl 0 (by decide) k0 (fun _ h9 => h9) rfl dX5_copyFrom_5 ?_
  obtain ⟨t1, ht1, hF⟩ := m_bnd hF
  have hpm : List.Perm ((Room_c E a v) ++ (Room_c E a0 v0)) (((Group_c E (Rooma_group a) (Room_group v)) ++ (Group_c E (Rooma_group a0) (Room_group v0))) ++ ((List.take 1 ((Room_c E a v) ++ (Room_c E a0 v0))) ++ ((List.take 12 (List.drop 10 ((Room_c E a v) ++ (Room_c E a0 v0)))) ++ (List.drop 31 ((Room_c E a v) ++ (Room_c E a0 v0)))))) := m_p2 (A := (List.take 1 ((Room_c E a v) ++ (Room_c E a0 v0)))) (m1 := (Group_c E (Rooma_group a) (Room_group v))) (B := (List.take 12 (List.drop 10 ((Room_c E a v) ++ (Room_c E a0 v0))))) (m2 := (Group_c E (Rooma_group a0) (Room_group v0))) (C := (List.drop 31 ((Room_c E a v) ++ (Room_c E a0 v0))))
  obtain ⟨hPc, hDc, hFc⟩ := m_pre hpm hP hD hS hA
  refine mVM (ci := 2) (n := 1) (rest := []) (As := [.ref (Groupa_self (Rooma_group a0))]) CC hKN hGl (c_X2_copyFrom l E (Rooma_group a) (Room_group v) (Rooma_group a0) (Room_group v0) t1 ht1 _) gX5_copyFrom_X2_copyFrom rfl ⟨rfl, rfl⟩ (by decide +kernel) ⟨Nat.le_of_ble_eq_true rfl, Nat.le_of_ble_eq_true rfl⟩ hPc hDc m_nil m_nilA hS hFc rfl rfl rfl rfl hl.1 rfl (Nat.le_of_ble_eq_true rfl) ⟨Nat.zero_le _, Nat.zero_le _⟩ dX5_copyFrom_8 (fun H1 locs hP1 hD1 hz1 hk1 hS => ?_)
  have hpn : List.Perm ((Room_c E a (Room_group_s v t1)) ++ (Room_c E a0 v0)) (((Group_c E (Rooma_group a) t1) ++ (Group_c E (Rooma_group a0) (Room_group v0))) ++ ((List.take 1 ((Room_c E a v) ++ (Room_c E a0 v0))) ++ ((List.take 12 (List.drop 10 ((Room_c E a v) ++ (Room_c E a0 v0)))) ++ (List.drop 31 ((Room_c E a v) ++ (Room_c E a0 v0)))))) := m_p2 (A := (List.take 1 ((Room_c E a v) ++ (Room_c E a0 v0)))) (m1 := (Group_c E (Rooma_group a) t1)) (B := (List.take 12 (List.drop 10 ((Room_c E a v) ++ (Room_c E a0 v0))))) (m2 := (Group_c E (Rooma_group a0) (Room_group v0))) (C := (List.drop 31 ((Room_c E a v) ++ (Room_c E a0 v0))))
  obtain ⟨hP, hD⟩ := m_spl hpm hpn hP hD hk1 hFc hP1 hD1
  generalize H1 = H at hP hS ⊢
  refine W.eq (g2 := F0 m 11 ls []) rfl ?_
  refine lv_aload_n hx hb dX5_copyFrom_11 rfl (lv_at hl 1 rfl) ?_
  refine va_get (D := E.1) (ci := 5) (v := .ref (Rooma_tape a0)) (C := RX5) (T := TX5) (N := 9) hx hb hts k1 hown hK hP 21 rfl rfl 1 (by decide) k2 (fun _ h9 => h9) rfl dX5_copyFrom_12 ?_
  refine lv_iconst (v := 0) hx hb dX5_copyFrom_15 (by decide) ?_
  refine lv_aload_n hx hb dX5_copyFrom_16 rfl (lv_at hl 0 rfl) ?_
  refine va_get (D := E.1) (ci := 5) (v := .ref (Rooma_tape a)) (C := RX5) (T := TX5) (N := 9) hx hb hts k1 hown hK hP 0 rfl rfl 1 (by decide) k2 (fun _ h9 => h9) rfl dX5_copyFrom_17 ?_
  refine lv_iconst (v := 0) hx hb dX5_copyFrom_20 (by decide) ?_
  refine lv_bipush (v := 100) hx hb dX5_copyFrom_21 (by decide) ?_
  obtain ⟨h2, hF⟩ := m_chk hF
  refine va_copyi (f := (Room_tape v0)) (g := (Room_tape v)) hx hb (hml.trans hl.1.symm) hown k3 k4 k5 k6 hK hP hD hS 31 10 0 0 rfl rfl rfl rfl rfl (by decide) (by decide) (by decide) (by decide) (by decide) (m_fitB h2) (Nat.le_of_ble_eq_true rfl) (Nat.le_of_ble_eq_true rfl) dX5_copyFrom_23 (fun H locs hP hD hS => ?_)
  have hP : va_P E.1 vwCl ((Room_c E a (Room_tape_s (Room_group_s v t1) (va_cpy (Room_tape v0) (Room_tape v) (0 : Int32).toNatClampNeg (0 : Int32).toNatClampNeg (100 : Int32).toNatClampNeg))) ++ (Room_c E a0 v0)) H := hP
  have hD : va_D A ((Room_c E a (Room_tape_s (Room_group_s v t1) (va_cpy (Room_tape v0) (Room_tape v) (0 : Int32).toNatClampNeg (0 : Int32).toNatClampNeg (100 : Int32).toNatClampNeg))) ++ (Room_c E a0 v0)) := hD
  refine W.eq (g2 := F0 m 26 ls []) rfl ?_
  refine lv_aload_n hx hb dX5_copyFrom_26 rfl (lv_at hl 0 rfl) ?_
  refine lv_aload_n hx hb dX5_copyFrom_27 rfl (lv_at hl 1 rfl) ?_
  refine va_get (D := E.1) (ci := 5) (v := .int (Room_signs v0)) (C := RX5) (T := TX5) (N := 9) hx hb hts k1 hown hK hP 21 rfl rfl 2 (by decide) k7 (fun _ h9 => h9) rfl dX5_copyFrom_28 ?_
  refine va_put (D := E.1) (ci := 5) (v := .int (Room_signs v0)) (ty := .int) (C := RX5) (T := TX5) (N := 9) hx hb hts k1 tyX5 tyX5_ok nmX5 hown hK hP hD hS 0 rfl rfl 2 (by decide) k7 (fun _ h9 => h9) rfl (by decide +kernel) rfl rfl (Nat.le_of_ble_eq_true rfl) dX5_copyFrom_31 (fun H locs hP hD hS => ?_)
  have hP : va_P E.1 vwCl ((Room_c E a (Room_signs_s (Room_tape_s (Room_group_s v t1) (va_cpy (Room_tape v0) (Room_tape v) (0 : Int32).toNatClampNeg (0 : Int32).toNatClampNeg (100 : Int32).toNatClampNeg)) (Room_signs v0))) ++ (Room_c E a0 v0)) H := hP
  have hD : va_D A ((Room_c E a (Room_signs_s (Room_tape_s (Room_group_s v t1) (va_cpy (Room_tape v0) (Room_tape v) (0 : Int32).toNatClampNeg (0 : Int32).toNatClampNeg (100 : Int32).toNatClampNeg)) (Room_signs v0))) ++ (Room_c E a0 v0)) := hD
  refine lv_iconst (v := 0) hx hb dX5_copyFrom_34 (by decide) ?_
  refine lv_istore_n (lv' := [(2, .int 0), (0, .ref (Rooma_self a)), (1, .ref (Rooma_self a0))]) hx hb dX5_copyFrom_35 rfl hl (by decide) rfl (fun ls hl => ?_)
  obtain ⟨j59, hjd59, hF⟩ := m_jp hF
  have hj59 : ∀ (wx_59 : RoomV) (H : Heap) (locs : List Loc) (ls : Array Slot), j59 wx_59 = some t → va_P E.1 vwCl ((Room_c E a wx_59) ++ (Room_c E a0 v0)) H → va_D A ((Room_c E a wx_59) ++ (Room_c E a0 v0)) → va_S A s.heap H locs → lv_has ls 3 [(0, .ref (Rooma_self a)), (1, .ref (Rooma_self a0))] → W p l e_ rmX5_copyFrom s m args below meth c H locs 0 0 Q (F0 m 59 ls []) := by
    intro wx_59 H locs ls hF hP hD hS hl
    rw [hjd59] at hF
    refine lv_aload_n hx hb dX5_copyFrom_59 rfl (lv_at hl 0 rfl) ?_
    refine lv_aload_n hx hb dX5_copyFrom_60 rfl (lv_at hl 1 rfl) ?_
    refine va_get (D := E.1) (ci := 5) (v := .int (Room_lessonCount v0)) (C := RX5) (T := TX5) (N := 9) hx hb hts k1 hown hK hP 21 rfl rfl 4 (by decide) k8 (fun _ h9 => h9) rfl dX5_copyFrom_61 ?_
    refine va_put (D := E.1) (ci := 5) (v := .int (Room_lessonCount v0)) (ty := .int) (C := RX5) (T := TX5) (N := 9) hx hb hts k1 tyX5 tyX5_ok nmX5 hown hK hP hD hS 0 rfl rfl 4 (by decide) k8 (fun _ h9 => h9) rfl (by decide +kernel) rfl rfl (Nat.le_of_ble_eq_true rfl) dX5_copyFrom_64 (fun H locs hP hD hS => ?_)
    have hP : va_P E.1 vwCl ((Room_c E a (Room_lessonCount_s wx_59 (Room_lessonCount v0))) ++ (Room_c E a0 v0)) H := hP
    have hD : va_D A ((Room_c E a (Room_lessonCount_s wx_59 (Room_lessonCount v0))) ++ (Room_c E a0 v0)) := hD
    refine lv_aload_n hx hb dX5_copyFrom_67 rfl (lv_at hl 0 rfl) ?_
    refine va_get (D := E.1) (ci := 5) (v := .ref (Rowsa_self (Rooma_seen a))) (C := RX5) (T := TX5) (N := 9) hx hb hts k1 hown hK hP 0 rfl rfl 6 (by decide) k9 (fun _ h9 => h9) rfl dX5_copyFrom_68 ?_
    refine lv_aload_n hx hb dX5_copyFrom_71 rfl (lv_at hl 1 rfl) ?_
    refine va_get (D := E.1) (ci := 5) (v := .ref (Rowsa_self (Rooma_seen a0))) (C := RX5) (T := TX5) (N := 9) hx hb hts k1 hown hK hP 21 rfl rfl 6 (by decide) k9 (fun _ h9 => h9) rfl dX5_copyFrom_72 ?_
    obtain ⟨t3, ht3, hF⟩ := m_bnd hF
    have hpm : List.Perm ((Room_c E a (Room_lessonCount_s wx_59 (Room_lessonCount v0))) ++ (Room_c E a0 v0)) (((Rows_c E (Rooma_seen a) (Room_seen wx_59)) ++ (Rows_c E (Rooma_seen a0) (Room_seen v0))) ++ ((List.take 12 ((Room_c E a (Room_lessonCount_s wx_59 (Room_lessonCount v0))) ++ (Room_c E a0 v0))) ++ ((List.take 18 (List.drop 15 ((Room_c E a (Room_lessonCount_s wx_59 (Room_lessonCount v0))) ++ (Room_c E a0 v0)))) ++ (List.drop 36 ((Room_c E a (Room_lessonCount_s wx_59 (Room_lessonCount v0))) ++ (Room_c E a0 v0)))))) := m_p2 (A := (List.take 12 ((Room_c E a (Room_lessonCount_s wx_59 (Room_lessonCount v0))) ++ (Room_c E a0 v0)))) (m1 := (Rows_c E (Rooma_seen a) (Room_seen wx_59))) (B := (List.take 18 (List.drop 15 ((Room_c E a (Room_lessonCount_s wx_59 (Room_lessonCount v0))) ++ (Room_c E a0 v0))))) (m2 := (Rows_c E (Rooma_seen a0) (Room_seen v0))) (C := (List.drop 36 ((Room_c E a (Room_lessonCount_s wx_59 (Room_lessonCount v0))) ++ (Room_c E a0 v0))))
    obtain ⟨hPc, hDc, hFc⟩ := m_pre hpm hP hD hS hA
    refine mVM (ci := 6) (n := 1) (rest := []) (As := [.ref (Rowsa_self (Rooma_seen a0))]) CC hKN hGl (c_X6_copyFrom l E (Rooma_seen a) (Room_seen wx_59) (Rooma_seen a0) (Room_seen v0) t3 ht3 _) gX5_copyFrom_X6_copyFrom rfl ⟨rfl, rfl⟩ (by decide +kernel) ⟨Nat.le_of_ble_eq_true rfl, Nat.le_of_ble_eq_true rfl⟩ hPc hDc m_nil m_nilA hS hFc rfl rfl rfl rfl hl.1 rfl (Nat.le_of_ble_eq_true rfl) ⟨Nat.zero_le _, Nat.zero_le _⟩ dX5_copyFrom_75 (fun H1 locs hP1 hD1 hz1 hk1 hS => ?_)
    have hpn : List.Perm ((Room_c E a (Room_seen_s (Room_lessonCount_s wx_59 (Room_lessonCount v0)) t3)) ++ (Room_c E a0 v0)) (((Rows_c E (Rooma_seen a) t3) ++ (Rows_c E (Rooma_seen a0) (Room_seen v0))) ++ ((List.take 12 ((Room_c E a (Room_lessonCount_s wx_59 (Room_lessonCount v0))) ++ (Room_c E a0 v0))) ++ ((List.take 18 (List.drop 15 ((Room_c E a (Room_lessonCount_s wx_59 (Room_lessonCount v0))) ++ (Room_c E a0 v0)))) ++ (List.drop 36 ((Room_c E a (Room_lessonCount_s wx_59 (Room_lessonCount v0))) ++ (Room_c E a0 v0)))))) := m_p2 (A := (List.take 12 ((Room_c E a (Room_lessonCount_s wx_59 (Room_lessonCount v0))) ++ (Room_c E a0 v0)))) (m1 := (Rows_c E (Rooma_seen a) t3)) (B := (List.take 18 (List.drop 15 ((Room_c E a (Room_lessonCount_s wx_59 (Room_lessonCount v0))) ++ (Room_c E a0 v0))))) (m2 := (Rows_c E (Rooma_seen a0) (Room_seen v0))) (C := (List.drop 36 ((Room_c E a (Room_lessonCount_s wx_59 (Room_lessonCount v0))) ++ (Room_c E a0 v0))))
    obtain ⟨hP, hD⟩ := m_spl hpm hpn hP hD hk1 hFc hP1 hD1
    generalize H1 = H at hP hS ⊢
    refine W.eq (g2 := F0 m 78 ls []) rfl ?_
    refine lv_aload_n hx hb dX5_copyFrom_78 rfl (lv_at hl 0 rfl) ?_
    refine va_get (D := E.1) (ci := 5) (v := .ref (Rowsa_self (Rooma_plan a))) (C := RX5) (T := TX5) (N := 9) hx hb hts k1 hown hK hP 0 rfl rfl 7 (by decide) k10 (fun _ h9 => h9) rfl dX5_copyFrom_79 ?_
    refine lv_aload_n hx hb dX5_copyFrom_82 rfl (lv_at hl 1 rfl) ?_
    refine va_get (D := E.1) (ci := 5) (v := .ref (Rowsa_self (Rooma_plan a0))) (C := RX5) (T := TX5) (N := 9) hx hb hts k1 hown hK hP 21 rfl rfl 7 (by decide) k10 (fun _ h9 => h9) rfl dX5_copyFrom_83 ?_
    obtain ⟨t4, ht4, hF⟩ := m_bnd hF
    have hpm : List.Perm ((Room_c E a (Room_seen_s (Room_lessonCount_s wx_59 (Room_lessonCount v0)) t3)) ++ (Room_c E a0 v0)) (((Rows_c E (Rooma_plan a) (Room_plan wx_59)) ++ (Rows_c E (Rooma_plan a0) (Room_plan v0))) ++ ((List.take 15 ((Room_c E a (Room_seen_s (Room_lessonCount_s wx_59 (Room_lessonCount v0)) t3)) ++ (Room_c E a0 v0))) ++ ((List.take 18 (List.drop 18 ((Room_c E a (Room_seen_s (Room_lessonCount_s wx_59 (Room_lessonCount v0)) t3)) ++ (Room_c E a0 v0)))) ++ (List.drop 39 ((Room_c E a (Room_seen_s (Room_lessonCount_s wx_59 (Room_lessonCount v0)) t3)) ++ (Room_c E a0 v0)))))) := m_p2 (A := (List.take 15 ((Room_c E a (Room_seen_s (Room_lessonCount_s wx_59 (Room_lessonCount v0)) t3)) ++ (Room_c E a0 v0)))) (m1 := (Rows_c E (Rooma_plan a) (Room_plan wx_59))) (B := (List.take 18 (List.drop 18 ((Room_c E a (Room_seen_s (Room_lessonCount_s wx_59 (Room_lessonCount v0)) t3)) ++ (Room_c E a0 v0))))) (m2 := (Rows_c E (Rooma_plan a0) (Room_plan v0))) (C := (List.drop 39 ((Room_c E a (Room_seen_s (Room_lessonCount_s wx_59 (Room_lessonCount v0)) t3)) ++ (Room_c E a0 v0))))
    obtain ⟨hPc, hDc, hFc⟩ := m_pre hpm hP hD hS hA
    refine mVM (ci := 6) (n := 1) (rest := []) (As := [.ref (Rowsa_self (Rooma_plan a0))]) CC hKN hGl (c_X6_copyFrom l E (Rooma_plan a) (Room_plan wx_59) (Rooma_plan a0) (Room_plan v0) t4 ht4 _) gX5_copyFrom_X6_copyFrom rfl ⟨rfl, rfl⟩ (by decide +kernel) ⟨Nat.le_of_ble_eq_true rfl, Nat.le_of_ble_eq_true rfl⟩ hPc hDc m_nil m_nilA hS hFc rfl rfl rfl rfl hl.1 rfl (Nat.le_of_ble_eq_true rfl) ⟨Nat.zero_le _, Nat.zero_le _⟩ dX5_copyFrom_86 (fun H1 locs hP1 hD1 hz1 hk1 hS => ?_)
    have hpn : List.Perm ((Room_c E a (Room_plan_s (Room_seen_s (Room_lessonCount_s wx_59 (Room_lessonCount v0)) t3) t4)) ++ (Room_c E a0 v0)) (((Rows_c E (Rooma_plan a) t4) ++ (Rows_c E (Rooma_plan a0) (Room_plan v0))) ++ ((List.take 15 ((Room_c E a (Room_seen_s (Room_lessonCount_s wx_59 (Room_lessonCount v0)) t3)) ++ (Room_c E a0 v0))) ++ ((List.take 18 (List.drop 18 ((Room_c E a (Room_seen_s (Room_lessonCount_s wx_59 (Room_lessonCount v0)) t3)) ++ (Room_c E a0 v0)))) ++ (List.drop 39 ((Room_c E a (Room_seen_s (Room_lessonCount_s wx_59 (Room_lessonCount v0)) t3)) ++ (Room_c E a0 v0)))))) := m_p2 (A := (List.take 15 ((Room_c E a (Room_seen_s (Room_lessonCount_s wx_59 (Room_lessonCount v0)) t3)) ++ (Room_c E a0 v0)))) (m1 := (Rows_c E (Rooma_plan a) t4)) (B := (List.take 18 (List.drop 18 ((Room_c E a (Room_seen_s (Room_lessonCount_s wx_59 (Room_lessonCount v0)) t3)) ++ (Room_c E a0 v0))))) (m2 := (Rows_c E (Rooma_plan a0) (Room_plan v0))) (C := (List.drop 39 ((Room_c E a (Room_seen_s (Room_lessonCount_s wx_59 (Room_lessonCount v0)) t3)) ++ (Room_c E a0 v0))))
    obtain ⟨hP, hD⟩ := m_spl hpm hpn hP hD hk1 hFc hP1 hD1
    generalize H1 = H at hP hS ⊢
    refine W.eq (g2 := F0 m 89 ls []) rfl ?_
    refine lv_aload_n hx hb dX5_copyFrom_89 rfl (lv_at hl 0 rfl) ?_
    refine va_get (D := E.1) (ci := 5) (v := .ref (Rowsa_self (Rooma_book a))) (C := RX5) (T := TX5) (N := 9) hx hb hts k1 hown hK hP 0 rfl rfl 8 (by decide) k11 (fun _ h9 => h9) rfl dX5_copyFrom_90 ?_
    refine lv_aload_n hx hb dX5_copyFrom_93 rfl (lv_at hl 1 rfl) ?_
    refine va_get (D := E.1) (ci := 5) (v := .ref (Rowsa_self (Rooma_book a0))) (C := RX5) (T := TX5) (N := 9) hx hb hts k1 hown hK hP 21 rfl rfl 8 (by decide) k11 (fun _ h9 => h9) rfl dX5_copyFrom_94 ?_
    obtain ⟨t5, ht5, hF⟩ := m_bnd hF
    have hpm : List.Perm ((Room_c E a (Room_plan_s (Room_seen_s (Room_lessonCount_s wx_59 (Room_lessonCount v0)) t3) t4)) ++ (Room_c E a0 v0)) (((Rows_c E (Rooma_book a) (Room_book wx_59)) ++ (Rows_c E (Rooma_book a0) (Room_book v0))) ++ ((List.take 18 ((Room_c E a (Room_plan_s (Room_seen_s (Room_lessonCount_s wx_59 (Room_lessonCount v0)) t3) t4)) ++ (Room_c E a0 v0))) ++ ((List.take 18 (List.drop 21 ((Room_c E a (Room_plan_s (Room_seen_s (Room_lessonCount_s wx_59 (Room_lessonCount v0)) t3) t4)) ++ (Room_c E a0 v0)))) ++ (List.drop 42 ((Room_c E a (Room_plan_s (Room_seen_s (Room_lessonCount_s wx_59 (Room_lessonCount v0)) t3) t4)) ++ (Room_c E a0 v0)))))) := m_p2 (A := (List.take 18 ((Room_c E a (Room_plan_s (Room_seen_s (Room_lessonCount_s wx_59 (Room_lessonCount v0)) t3) t4)) ++ (Room_c E a0 v0)))) (m1 := (Rows_c E (Rooma_book a) (Room_book wx_59))) (B := (List.take 18 (List.drop 21 ((Room_c E a (Room_plan_s (Room_seen_s (Room_lessonCount_s wx_59 (Room_lessonCount v0)) t3) t4)) ++ (Room_c E a0 v0))))) (m2 := (Rows_c E (Rooma_book a0) (Room_book v0))) (C := (List.drop 42 ((Room_c E a (Room_plan_s (Room_seen_s (Room_lessonCount_s wx_59 (Room_lessonCount v0)) t3) t4)) ++ (Room_c E a0 v0))))
    obtain ⟨hPc, hDc, hFc⟩ := m_pre hpm hP hD hS hA
    refine mVM (ci := 6) (n := 1) (rest := []) (As := [.ref (Rowsa_self (Rooma_book a0))]) CC hKN hGl (c_X6_copyFrom l E (Rooma_book a) (Room_book wx_59) (Rooma_book a0) (Room_book v0) t5 ht5 _) gX5_copyFrom_X6_copyFrom rfl ⟨rfl, rfl⟩ (by decide +kernel) ⟨Nat.le_of_ble_eq_true rfl, Nat.le_of_ble_eq_true rfl⟩ hPc hDc m_nil m_nilA hS hFc rfl rfl rfl rfl hl.1 rfl (Nat.le_of_ble_eq_true rfl) ⟨Nat.zero_le _, Nat.zero_le _⟩ dX5_copyFrom_97 (fun H1 locs hP1 hD1 hz1 hk1 hS => ?_)
    have hpn : List.Perm ((Room_c E a (Room_book_s (Room_plan_s (Room_seen_s (Room_lessonCount_s wx_59 (Room_lessonCount v0)) t3) t4) t5)) ++ (Room_c E a0 v0)) (((Rows_c E (Rooma_book a) t5) ++ (Rows_c E (Rooma_book a0) (Room_book v0))) ++ ((List.take 18 ((Room_c E a (Room_plan_s (Room_seen_s (Room_lessonCount_s wx_59 (Room_lessonCount v0)) t3) t4)) ++ (Room_c E a0 v0))) ++ ((List.take 18 (List.drop 21 ((Room_c E a (Room_plan_s (Room_seen_s (Room_lessonCount_s wx_59 (Room_lessonCount v0)) t3) t4)) ++ (Room_c E a0 v0)))) ++ (List.drop 42 ((Room_c E a (Room_plan_s (Room_seen_s (Room_lessonCount_s wx_59 (Room_lessonCount v0)) t3) t4)) ++ (Room_c E a0 v0)))))) := m_p2 (A := (List.take 18 ((Room_c E a (Room_plan_s (Room_seen_s (Room_lessonCount_s wx_59 (Room_lessonCount v0)) t3) t4)) ++ (Room_c E a0 v0)))) (m1 := (Rows_c E (Rooma_book a) t5)) (B := (List.take 18 (List.drop 21 ((Room_c E a (Room_plan_s (Room_seen_s (Room_lessonCount_s wx_59 (Room_lessonCount v0)) t3) t4)) ++ (Room_c E a0 v0))))) (m2 := (Rows_c E (Rooma_book a0) (Room_book v0))) (C := (List.drop 42 ((Room_c E a (Room_plan_s (Room_seen_s (Room_lessonCount_s wx_59 (Room_lessonCount v0)) t3) t4)) ++ (Room_c E a0 v0))))
    obtain ⟨hP, hD⟩ := m_spl hpm hpn hP hD hk1 hFc hP1 hD1
    generalize H1 = H at hP hS ⊢
    refine W.eq (g2 := F0 m 100 ls []) rfl ?_
    have hF := Option.some.inj hF
    subst hF
    rw [hQ]
    exact W.vret hx hb hr (fun t ht _ => ⟨⟨rfl, by rw [ht]; exact hP, hD⟩, hS.F ht⟩) hS.2.2 dX5_copyFrom_100
  clear hjd59
  have hL36 : ∀ (n : Nat) (y2_36 : Int32) (wy_36 : RoomV) (H : Heap) (locs : List Loc) (ls : Array Slot), lp_X5_copyFrom_36 v0 j59 n y2_36 wy_36 = some t → va_P E.1 vwCl ((Room_c E a wy_36) ++ (Room_c E a0 v0)) H → va_D A ((Room_c E a wy_36) ++ (Room_c E a0 v0)) → va_S A s.heap H locs → lv_has ls 3 [(0, .ref (Rooma_self a)), (1, .ref (Rooma_self a0)), (2, .int y2_36)] → W p l e_ rmX5_copyFrom s m args below meth c H locs 0 0 Q (F0 m 36 ls []) := by
    intro n
    induction n with
    | zero =>
      intro y2_36 wy_36 H locs ls hF
      exact nomatch (show (none : Option RoomV) = some t from hF)
    | succ n ih36 =>
      intro y2_36 wy_36 H locs ls hF hP hD hS hl
      have hF : st_X5_copyFrom_36 v0 j59 (lp_X5_copyFrom_36 v0 j59 n) y2_36 wy_36 = some t := hF
      unfold st_X5_copyFrom_36 at hF
      refine lv_iload_n hx hb dX5_copyFrom_36 rfl (lv_at hl 2 rfl) ?_
      refine lv_iconst (v := 5) hx hb dX5_copyFrom_37 (by decide) ?_
      refine lv_icmp_ge (tgt := 59) hx hb dX5_copyFrom_38 (by decide) (fun c6 => ?_) (fun c6 => ?_)
      · have hF := m_pos c6 hF
        exact hj59 wy_36 H locs ls hF hP hD hS (lv_sub hl [0, 1] rfl)
      · have hF := m_neg c6 hF
        refine lv_aload_n hx hb dX5_copyFrom_41 rfl (lv_at hl 0 rfl) ?_
        refine va_get (D := E.1) (ci := 5) (v := .ref (Rooma_lessons a)) (C := RX5) (T := TX5) (N := 9) hx hb hts k1 hown hK hP 0 rfl rfl 3 (by decide) k12 (fun _ h9 => h9) rfl dX5_copyFrom_42 ?_
        refine lv_iload_n hx hb dX5_copyFrom_45 rfl (lv_at hl 2 rfl) ?_
        refine lv_aload_n hx hb dX5_copyFrom_46 rfl (lv_at hl 1 rfl) ?_
        refine va_get (D := E.1) (ci := 5) (v := .ref (Rooma_lessons a0)) (C := RX5) (T := TX5) (N := 9) hx hb hts k1 hown hK hP 21 rfl rfl 3 (by decide) k12 (fun _ h9 => h9) rfl dX5_copyFrom_47 ?_
        refine lv_iload_n hx hb dX5_copyFrom_50 rfl (lv_at hl 2 rfl) ?_
        obtain ⟨h7, hF⟩ := m_chk hF
        refine va_aldq (f := (Room_lessons v0)) hx hb hK hP 32 3 rfl rfl (mIn_ok h7) dX5_copyFrom_51 ?_
        rcases qr8 : ((Room_lessons v0) (y2_36).toNatClampNeg) with _ | r8
        · rw [qr8] at hF
          replace hF := m_on hF
          refine W.eq (g2 := F0 m 52 ls [.null, .int y2_36, .ref (Rooma_lessons a)]) (by first | rfl | (rw [qr8]; rfl)) ?_
          obtain ⟨h9, hF⟩ := m_chk hF
          refine va_astqN (f := (Room_lessons wy_36)) hx hb hK hP hD hS 11 3 rfl rfl (mIn_ok h9) dX5_copyFrom_52 (fun H locs hP hD hS => ?_)
          have hP : va_P E.1 vwCl ((Room_c E a (Room_lessons_s wy_36 (va_up (Room_lessons wy_36) (y2_36).toNatClampNeg none))) ++ (Room_c E a0 v0)) H := hP
          have hD : va_D A ((Room_c E a (Room_lessons_s wy_36 (va_up (Room_lessons wy_36) (y2_36).toNatClampNeg none))) ++ (Room_c E a0 v0)) := hD
          refine lv_iinc (v := (y2_36 + 1)) (lv' := [(2, .int (y2_36 + 1)), (0, .ref (Rooma_self a)), (1, .ref (Rooma_self a0))]) hx hb dX5_copyFrom_53 hl (k := 2) rfl rfl (by decide) rfl (fun ls hl => ?_)
          refine lv_goto (tgt := 36) hx hb dX5_copyFrom_56 (by decide) ?_
          exact ih36 (y2_36 + 1) (Room_lessons_s wy_36 (va_up (Room_lessons wy_36) (y2_36).toNatClampNeg none)) H locs ls hF hP hD hS (lv_sub hl [1, 2, 0] rfl)
        · rw [qr8] at hF
          replace hF := m_os hF
          refine W.eq (g2 := F0 m 52 ls [.ref r8, .int y2_36, .ref (Rooma_lessons a)]) (by first | rfl | (rw [qr8]; rfl)) ?_
          obtain ⟨h10, hF⟩ := m_chk hF
          obtain ⟨k9, fs9, hk9⟩ := hRP _ _ qr8
          have hany := m_any hK (m_ro hR0 hRA hS) hk9
          refine va_astqM (f := (Room_lessons wy_36)) hx hb hK hP hD hS 11 3 rfl rfl hany (mIn_ok h10) dX5_copyFrom_52 (fun H locs hP hD hS => ?_)
          have hP : va_P E.1 vwCl ((Room_c E a (Room_lessons_s wy_36 (va_up (Room_lessons wy_36) (y2_36).toNatClampNeg (some r8)))) ++ (Room_c E a0 v0)) H := hP
          have hD : va_D A ((Room_c E a (Room_lessons_s wy_36 (va_up (Room_lessons wy_36) (y2_36).toNatClampNeg (some r8)))) ++ (Room_c E a0 v0)) := hD
          refine lv_iinc (v := (y2_36 + 1)) (lv' := [(2, .int (y2_36 + 1)), (0, .ref (Rooma_self a)), (1, .ref (Rooma_self a0))]) hx hb dX5_copyFrom_53 hl (k := 2) rfl rfl (by decide) rfl (fun ls hl => ?_)
          refine lv_goto (tgt := 36) hx hb dX5_copyFrom_56 (by decide) ?_
          exact ih36 (y2_36 + 1) (Room_lessons_s wy_36 (va_up (Room_lessons wy_36) (y2_36).toNatClampNeg (some r8))) H locs ls hF hP hD hS (lv_sub hl [1, 2, 0] rfl)
  exact hL36 m_N 0 (Room_signs_s (Room_tape_s (Room_group_s v t1) (va_cpy (Room_tape v0) (Room_tape v) (0 : Int32).toNatClampNeg (0 : Int32).toNatClampNeg (100 : Int32).toNatClampNeg)) (Room_signs v0)) H locs ls hF hP hD hS (lv_sub hl [1, 2, 0] rfl)

abbrev rmX7_pupil : Room := { frames := 1, cells := 0, slots := 0, locals := 25 }
set_option maxRecDepth 100000 in
set_option maxHeartbeats 400000 in
theorem c_X7_pupil (l : Launch) (E : mE) (a : OneA) (v : OneV) (x0 : Int32) (x1 : Int32) (x2 : Int32) (x3 : Int32) (t : (Int32 × OneV)) (hF : fn_X7_pupil v x0 x1 x2 x3 = some t) (sz : Nat) : Met l yX7_pupil wsX7_pupil rmX7_pupil (mPm E [.ref (Onea_self a), .int x0, .int x1, .int x2, .int x3] sz ((One_c E a v)) (([] : va_W))) (mSm E (some (.int t.1)) ((One_c E a t.2)) (va_A ((One_c E a v)) sz)) 0 0 (va_A ((One_c E a v)) sz) := by
  refine mOfM (cc := cX7_pupil) (maxL := 5) (ret := (some .int)) (by decide) rfl (Nat.le_of_ble_eq_true rfl) ?_
  intro p e_ s m args below meth c Q A hQ CC hr hlocks hin hA hP hD hKN hGl hR0 hRA ls hl
  have hS : va_S A s.heap s.heap [] := va_S.rf
  have hK := hKN.1
  have hx := CC.1
  have hb := CC.2.1
  have hml := CC.2.2.1
  have hown : s.vm.findClass RX7 = some m.cls := CC.2.2.2.1
  have hts := CC.2.2.2.2
  have hl : lv_has ls 5 [(0, .ref (Onea_self a)), (1, .int x0), (2, .int x1), (3, .int x2), (4, .int x3)] := hl
  have k0 := hts (.fieldLink RX7 12 "OneDidAll" "now" "LOneDidAll$Room;") (by decide +kernel)
  have k1 := (show ∀ w ∈ u_ws RX7 TX7 5, w ∈ wsX7_pupil by decide +kernel)
  have k2 := (va_Nw.use rfl (hKN.2.1 ("OneDidAll", 74, "OneDidAll$Room", "group", "LOneDidAll$Group;", "OneDidAll") (by decide +kernel)) : (Cond.fieldLinkNest "OneDidAll" 74 "OneDidAll$Room" "group" "LOneDidAll$Group;" "OneDidAll").before args s = true)
  have k3 := (show ∀ w ∈ u_ws RX5 TX5 9, w ∈ wsX7_pupil by decide +kernel)
  have k4 := (va_Nw.use rfl (hKN.2.1 ("OneDidAll", 78, "OneDidAll$Group", "size", "I", "OneDidAll") (by decide +kernel)) : (Cond.fieldLinkNest "OneDidAll" 78 "OneDidAll$Group" "size" "I" "OneDidAll").before args s = true)
  have k5 := (show ∀ w ∈ u_ws RX2 TX2 11, w ∈ wsX7_pupil by decide +kernel)
  have hP : va_P E.1 vwCl (One_c E a v) s.heap := hP
  obtain ⟨H, hH⟩ : ∃ H, H = s.heap := ⟨_, rfl⟩
  obtain ⟨locs, hlc⟩ : ∃ z : List Loc, z = [] := ⟨_, rfl⟩
  rw [← hH] at hP
  rw [← hlc] at hS
  have hS : va_S A s.heap H locs := by rw [hH]; exact hS
  rw [← hH, ← hlc]
  unfold fn_X7_pupil at hF
  refine lv_iload_n hx hb dX7_pupil_0 rfl (lv_at hl 1 rfl) ?_
  obtain ⟨t1, ht1, hF⟩ := m_bnd hF
  refine mSP (n := 1) (rest := []) (As := [.int x0]) CC hKN hGl hS (c_X7_isKind l E x0 t1 ht1) gX7_pupil_X7_isKind rfl ⟨rfl, rfl⟩ (by decide +kernel) ⟨Nat.le_of_ble_eq_true rfl, Nat.le_of_ble_eq_true rfl⟩ m_nil rfl hl.1 rfl (Nat.le_of_ble_eq_true rfl) ⟨Nat.zero_le _, Nat.zero_le _⟩ dX7_pupil_1 ?_
  refine W.eq (g2 := F0 m 4 ls [.int t1]) rfl ?_
  refine lv_if_ne (tgt := 9) hx hb dX7_pupil_4 (by decide) (fun c2 => ?_) (fun c2 => ?_)
  · have hF := m_pos c2 hF
    refine lv_iload_n hx hb dX7_pupil_9 rfl (lv_at hl 2 rfl) ?_
    refine lv_if_lt (tgt := 42) hx hb dX7_pupil_10 (by decide) (fun c3 => ?_) (fun c3 => ?_)
    · have hF := m_pos c3 hF
      refine lv_bipush (v := (-2)) hx hb dX7_pupil_42 (by decide) ?_
      have hF := Option.some.inj hF
      subst hF
      rw [hQ]
      exact W.iret hx hb hr (fun t ht _ => ⟨⟨rfl, by rw [ht]; exact hP, hD⟩, hS.F ht⟩) hS.2.2 dX7_pupil_44
    · have hF := m_neg c3 hF
      refine lv_iload_n hx hb dX7_pupil_13 rfl (lv_at hl 2 rfl) ?_
      refine lv_bipush (v := 9) hx hb dX7_pupil_14 (by decide) ?_
      refine lv_icmp_gt (tgt := 42) hx hb dX7_pupil_16 (by decide) (fun c4 => ?_) (fun c4 => ?_)
      · have hF := m_pos c4 hF
        refine lv_bipush (v := (-2)) hx hb dX7_pupil_42 (by decide) ?_
        have hF := Option.some.inj hF
        subst hF
        rw [hQ]
        exact W.iret hx hb hr (fun t ht _ => ⟨⟨rfl, by rw [ht]; exact hP, hD⟩, hS.F ht⟩) hS.2.2 dX7_pupil_44
      · have hF := m_neg c4 hF
        refine lv_iload_n hx hb dX7_pupil_19 rfl (lv_at hl 3 rfl) ?_
        refine lv_iconst (v := 1) hx hb dX7_pupil_20 (by decide) ?_
        refine lv_icmp_lt (tgt := 42) hx hb dX7_pupil_21 (by decide) (fun c5 => ?_) (fun c5 => ?_)
        · have hF := m_pos c5 hF
          refine lv_bipush (v := (-2)) hx hb dX7_pupil_42 (by decide) ?_
          have hF := Option.some.inj hF
          subst hF
          rw [hQ]
          exact W.iret hx hb hr (fun t ht _ => ⟨⟨rfl, by rw [ht]; exact hP, hD⟩, hS.F ht⟩) hS.2.2 dX7_pupil_44
        · have hF := m_neg c5 hF
          refine lv_iload_n hx hb dX7_pupil_24 rfl (lv_at hl 3 rfl) ?_
          refine lv_bipush (v := 9) hx hb dX7_pupil_25 (by decide) ?_
          refine lv_icmp_gt (tgt := 42) hx hb dX7_pupil_27 (by decide) (fun c6 => ?_) (fun c6 => ?_)
          · have hF := m_pos c6 hF
            refine lv_bipush (v := (-2)) hx hb dX7_pupil_42 (by decide) ?_
            have hF := Option.some.inj hF
            subst hF
            rw [hQ]
            exact W.iret hx hb hr (fun t ht _ => ⟨⟨rfl, by rw [ht]; exact hP, hD⟩, hS.F ht⟩) hS.2.2 dX7_pupil_44
          · have hF := m_neg c6 hF
            refine lv_iload hx hb dX7_pupil_30 (lv_at hl 4 rfl) ?_
            refine lv_if_lt (tgt := 42) hx hb dX7_pupil_32 (by decide) (fun c7 => ?_) (fun c7 => ?_)
            · have hF := m_pos c7 hF
              refine lv_bipush (v := (-2)) hx hb dX7_pupil_42 (by decide) ?_
              have hF := Option.some.inj hF
              subst hF
              rw [hQ]
              exact W.iret hx hb hr (fun t ht _ => ⟨⟨rfl, by rw [ht]; exact hP, hD⟩, hS.F ht⟩) hS.2.2 dX7_pupil_44
            · have hF := m_neg c7 hF
              refine lv_iload hx hb dX7_pupil_35 (lv_at hl 4 rfl) ?_
              refine lv_bipush (v := 99) hx hb dX7_pupil_37 (by decide) ?_
              refine lv_icmp_le (tgt := 45) hx hb dX7_pupil_39 (by decide) (fun c8 => ?_) (fun c8 => ?_)
              · have hF := m_pos c8 hF
                refine lv_aload_n hx hb dX7_pupil_45 rfl (lv_at hl 0 rfl) ?_
                refine va_get (D := E.1) (ci := 7) (v := .ref (Rooma_self (Onea_now a))) (C := RX7) (T := TX7) (N := 5) hx hb hts k1 hown hK hP 0 rfl rfl 0 (by decide) k0 (fun _ h9 => h9) rfl dX7_pupil_46 ?_
                refine va_getN (D := E.1) (ci := 5) (v := .ref (Groupa_self (Rooma_group (Onea_now a)))) (C := RX5) (T := TX5) (N := 9) hx hb hts k3 hown hK hP 1 rfl rfl 0 (by decide) k2 (fun _ h9 => h9) rfl dX7_pupil_49 ?_
                refine va_getN (D := E.1) (ci := 2) (v := .int (Group_size (Room_group (One_now v)))) (C := RX2) (T := TX2) (N := 11) hx hb hts k5 hown hK hP 2 rfl rfl 0 (by decide) k4 (fun _ h9 => h9) rfl dX7_pupil_52 ?_
                refine lv_bipush (v := 6) hx hb dX7_pupil_55 (by decide) ?_
                refine lv_icmp_lt (tgt := 63) hx hb dX7_pupil_57 (by decide) (fun c9 => ?_) (fun c9 => ?_)
                · have hF := m_pos c9 hF
                  refine lv_aload_n hx hb dX7_pupil_63 rfl (lv_at hl 0 rfl) ?_
                  refine va_get (D := E.1) (ci := 7) (v := .ref (Rooma_self (Onea_now a))) (C := RX7) (T := TX7) (N := 5) hx hb hts k1 hown hK hP 0 rfl rfl 0 (by decide) k0 (fun _ h9 => h9) rfl dX7_pupil_64 ?_
                  refine va_getN (D := E.1) (ci := 5) (v := .ref (Groupa_self (Rooma_group (Onea_now a)))) (C := RX5) (T := TX5) (N := 9) hx hb hts k3 hown hK hP 1 rfl rfl 0 (by decide) k2 (fun _ h9 => h9) rfl dX7_pupil_67 ?_
                  refine lv_iload_n hx hb dX7_pupil_70 rfl (lv_at hl 1 rfl) ?_
                  refine lv_iload_n hx hb dX7_pupil_71 rfl (lv_at hl 2 rfl) ?_
                  refine lv_iload_n hx hb dX7_pupil_72 rfl (lv_at hl 3 rfl) ?_
                  refine lv_iload hx hb dX7_pupil_73 (lv_at hl 4 rfl) ?_
                  obtain ⟨t10, ht10, hF⟩ := m_bnd hF
                  have hpm : List.Perm (One_c E a v) ((Group_c E (Rooma_group (Onea_now a)) (Room_group (One_now v))) ++ ((List.take 2 (One_c E a v)) ++ (List.drop 11 (One_c E a v)))) := m_p1 (A := (List.take 2 (One_c E a v))) (m := (Group_c E (Rooma_group (Onea_now a)) (Room_group (One_now v)))) (C := (List.drop 11 (One_c E a v)))
                  obtain ⟨hPc, hDc, hFc⟩ := m_pre hpm hP hD hS hA
                  refine mVM (ci := 2) (n := 4) (rest := []) (As := [.int x0, .int x1, .int x2, .int x3]) CC hKN hGl (c_X2_add l E (Rooma_group (Onea_now a)) (Room_group (One_now v)) x0 x1 x2 x3 t10 ht10 _) gX7_pupil_X2_add rfl ⟨rfl, rfl⟩ (by decide +kernel) ⟨Nat.le_of_ble_eq_true rfl, Nat.le_of_ble_eq_true rfl⟩ hPc hDc m_nil m_nilA hS hFc rfl rfl rfl rfl hl.1 rfl (Nat.le_of_ble_eq_true rfl) ⟨Nat.zero_le _, Nat.zero_le _⟩ dX7_pupil_75 (fun H1 locs hP1 hD1 hz1 hk1 hS => ?_)
                  have hpn : List.Perm (One_c E a (One_now_s v (Room_group_s (One_now v) t10.2))) ((Group_c E (Rooma_group (Onea_now a)) t10.2) ++ ((List.take 2 (One_c E a v)) ++ (List.drop 11 (One_c E a v)))) := m_p1 (A := (List.take 2 (One_c E a v))) (m := (Group_c E (Rooma_group (Onea_now a)) t10.2)) (C := (List.drop 11 (One_c E a v)))
                  obtain ⟨hP, hD⟩ := m_spl hpm hpn hP hD hk1 hFc hP1 hD1
                  generalize H1 = H at hP hS ⊢
                  refine W.eq (g2 := F0 m 78 ls [.int t10.1]) rfl ?_
                  have hF := Option.some.inj hF
                  subst hF
                  rw [hQ]
                  exact W.iret hx hb hr (fun t ht _ => ⟨⟨rfl, by rw [ht]; exact hP, hD⟩, hS.F ht⟩) hS.2.2 dX7_pupil_78
                · have hF := m_neg c9 hF
                  refine lv_bipush (v := (-4)) hx hb dX7_pupil_60 (by decide) ?_
                  have hF := Option.some.inj hF
                  subst hF
                  rw [hQ]
                  exact W.iret hx hb hr (fun t ht _ => ⟨⟨rfl, by rw [ht]; exact hP, hD⟩, hS.F ht⟩) hS.2.2 dX7_pupil_62
              · have hF := m_neg c8 hF
                refine lv_bipush (v := (-2)) hx hb dX7_pupil_42 (by decide) ?_
                have hF := Option.some.inj hF
                subst hF
                rw [hQ]
                exact W.iret hx hb hr (fun t ht _ => ⟨⟨rfl, by rw [ht]; exact hP, hD⟩, hS.F ht⟩) hS.2.2 dX7_pupil_44
  · have hF := m_neg (fun n9 => n9 c2) hF
    refine lv_iconst (v := (-1)) hx hb dX7_pupil_7 (by decide) ?_
    have hF := Option.some.inj hF
    subst hF
    rw [hQ]
    exact W.iret hx hb hr (fun t ht _ => ⟨⟨rfl, by rw [ht]; exact hP, hD⟩, hS.F ht⟩) hS.2.2 dX7_pupil_8

abbrev rmX7_row : Room := { frames := 1, cells := 0, slots := 0, locals := 21 }
set_option maxRecDepth 100000 in
set_option maxHeartbeats 400000 in
theorem c_X7_row (l : Launch) (E : mE) (a : OneA) (v : OneV) (x0 : Int32) (x1 : Int32) (x2 : Int32) (t : (Int32 × OneV)) (hF : fn_X7_row v x0 x1 x2 = some t) (sz : Nat) : Met l yX7_row wsX7_row rmX7_row (mPm E [.ref (Onea_self a), .int x0, .int x1, .int x2] sz ((One_c E a v)) (([] : va_W))) (mSm E (some (.int t.1)) ((One_c E a t.2)) (va_A ((One_c E a v)) sz)) 0 0 (va_A ((One_c E a v)) sz) := by
  refine mOfM (cc := cX7_row) (maxL := 6) (ret := (some .int)) (by decide) rfl (Nat.le_of_ble_eq_true rfl) ?_
  intro p e_ s m args below meth c Q A hQ CC hr hlocks hin hA hP hD hKN hGl hR0 hRA ls hl
  have hS : va_S A s.heap s.heap [] := va_S.rf
  have hK := hKN.1
  have hx := CC.1
  have hb := CC.2.1
  have hml := CC.2.2.1
  have hown : s.vm.findClass RX7 = some m.cls := CC.2.2.2.1
  have hts := CC.2.2.2.2
  have hl : lv_has ls 6 [(0, .ref (Onea_self a)), (1, .int x0), (2, .int x1), (3, .int x2)] := hl
  have k0 := hts (.fieldLink RX7 12 "OneDidAll" "now" "LOneDidAll$Room;") (by decide +kernel)
  have k1 := (show ∀ w ∈ u_ws RX7 TX7 5, w ∈ wsX7_row by decide +kernel)
  have k2 := (va_Nw.use rfl (hKN.2.1 ("OneDidAll", 74, "OneDidAll$Room", "group", "LOneDidAll$Group;", "OneDidAll") (by decide +kernel)) : (Cond.fieldLinkNest "OneDidAll" 74 "OneDidAll$Room" "group" "LOneDidAll$Group;" "OneDidAll").before args s = true)
  have k3 := (show ∀ w ∈ u_ws RX5 TX5 9, w ∈ wsX7_row by decide +kernel)
  have k4 := (va_Nw.use rfl (hKN.2.1 ("OneDidAll", 90, "OneDidAll$Group", "kinds", "[I", "OneDidAll") (by decide +kernel)) : (Cond.fieldLinkNest "OneDidAll" 90 "OneDidAll$Group" "kinds" "[I" "OneDidAll").before args s = true)
  have k5 := (show ∀ w ∈ u_ws RX2 TX2 11, w ∈ wsX7_row by decide +kernel)
  have k6 := (va_Nw.use rfl (hKN.2.1 ("OneDidAll", 130, "OneDidAll$Group", "rows", "[I", "OneDidAll") (by decide +kernel)) : (Cond.fieldLinkNest "OneDidAll" 130 "OneDidAll$Group" "rows" "[I" "OneDidAll").before args s = true)
  have hP : va_P E.1 vwCl (One_c E a v) s.heap := hP
  obtain ⟨H, hH⟩ : ∃ H, H = s.heap := ⟨_, rfl⟩
  obtain ⟨locs, hlc⟩ : ∃ z : List Loc, z = [] := ⟨_, rfl⟩
  rw [← hH] at hP
  rw [← hlc] at hS
  have hS : va_S A s.heap H locs := by rw [hH]; exact hS
  rw [← hH, ← hlc]
  unfold fn_X7_row at hF
  refine lv_aload_n hx hb dX7_row_0 rfl (lv_at hl 0 rfl) ?_
  refine lv_iload_n hx hb dX7_row_1 rfl (lv_at hl 1 rfl) ?_
  obtain ⟨t1, ht1, hF⟩ := m_bnd hF
  refine mVP (ci := 7) (n := 1) (rest := []) (As := [.int x0]) CC hKN hGl hS (c_X7_isPupil l E a v x0 t1 ht1) gX7_row_X7_isPupil rfl ⟨rfl, rfl⟩ (by decide +kernel) ⟨Nat.le_of_ble_eq_true rfl, Nat.le_of_ble_eq_true rfl⟩ hP rfl rfl rfl rfl hl.1 rfl (Nat.le_of_ble_eq_true rfl) ⟨Nat.zero_le _, Nat.zero_le _⟩ dX7_row_2 ?_
  refine W.eq (g2 := F0 m 5 ls [.int t1]) rfl ?_
  refine lv_if_eq (tgt := 17) hx hb dX7_row_5 (by decide) (fun c2 => ?_) (fun c2 => ?_)
  · have hF := m_pos c2 hF
    refine lv_iconst (v := (-1)) hx hb dX7_row_17 (by decide) ?_
    have hF := Option.some.inj hF
    subst hF
    rw [hQ]
    exact W.iret hx hb hr (fun t ht _ => ⟨⟨rfl, by rw [ht]; exact hP, hD⟩, hS.F ht⟩) hS.2.2 dX7_row_18
  · have hF := m_neg c2 hF
    refine lv_iload_n hx hb dX7_row_8 rfl (lv_at hl 2 rfl) ?_
    refine lv_if_lt (tgt := 17) hx hb dX7_row_9 (by decide) (fun c3 => ?_) (fun c3 => ?_)
    · have hF := m_pos c3 hF
      refine lv_iconst (v := (-1)) hx hb dX7_row_17 (by decide) ?_
      have hF := Option.some.inj hF
      subst hF
      rw [hQ]
      exact W.iret hx hb hr (fun t ht _ => ⟨⟨rfl, by rw [ht]; exact hP, hD⟩, hS.F ht⟩) hS.2.2 dX7_row_18
    · have hF := m_neg c3 hF
      refine lv_iload_n hx hb dX7_row_12 rfl (lv_at hl 2 rfl) ?_
      refine lv_iconst (v := 4) hx hb dX7_row_13 (by decide) ?_
      refine lv_icmp_lt (tgt := 19) hx hb dX7_row_14 (by decide) (fun c4 => ?_) (fun c4 => ?_)
      · have hF := m_pos c4 hF
        refine lv_iload_n hx hb dX7_row_19 rfl (lv_at hl 3 rfl) ?_
        refine lv_if_lt (tgt := 29) hx hb dX7_row_20 (by decide) (fun c5 => ?_) (fun c5 => ?_)
        · have hF := m_pos c5 hF
          refine lv_bipush (v := (-2)) hx hb dX7_row_29 (by decide) ?_
          have hF := Option.some.inj hF
          subst hF
          rw [hQ]
          exact W.iret hx hb hr (fun t ht _ => ⟨⟨rfl, by rw [ht]; exact hP, hD⟩, hS.F ht⟩) hS.2.2 dX7_row_31
        · have hF := m_neg c5 hF
          refine lv_iload_n hx hb dX7_row_23 rfl (lv_at hl 3 rfl) ?_
          refine lv_bipush (v := 9) hx hb dX7_row_24 (by decide) ?_
          refine lv_icmp_le (tgt := 32) hx hb dX7_row_26 (by decide) (fun c6 => ?_) (fun c6 => ?_)
          · have hF := m_pos c6 hF
            refine lv_aload_n hx hb dX7_row_32 rfl (lv_at hl 0 rfl) ?_
            refine va_get (D := E.1) (ci := 7) (v := .ref (Rooma_self (Onea_now a))) (C := RX7) (T := TX7) (N := 5) hx hb hts k1 hown hK hP 0 rfl rfl 0 (by decide) k0 (fun _ h9 => h9) rfl dX7_row_33 ?_
            refine va_getN (D := E.1) (ci := 5) (v := .ref (Groupa_self (Rooma_group (Onea_now a)))) (C := RX5) (T := TX5) (N := 9) hx hb hts k3 hown hK hP 1 rfl rfl 0 (by decide) k2 (fun _ h9 => h9) rfl dX7_row_36 ?_
            refine va_getN (D := E.1) (ci := 2) (v := .ref (Groupa_kinds (Rooma_group (Onea_now a)))) (C := RX2) (T := TX2) (N := 11) hx hb hts k5 hown hK hP 2 rfl rfl 3 (by decide) k4 (fun _ h9 => h9) rfl dX7_row_39 ?_
            refine lv_iload_n hx hb dX7_row_42 rfl (lv_at hl 1 rfl) ?_
            obtain ⟨h7, hF⟩ := m_chk hF
            refine va_iald (f := (Group_kinds (Room_group (One_now v)))) hx hb hK hP 3 1 rfl rfl (mIn_ok h7) dX7_row_43 ?_
            refine W.eq (g2 := F0 m 44 ls [.int ((Group_kinds (Room_group (One_now v))) (x0).toNatClampNeg)]) rfl ?_
            refine lv_bipush (v := 6) hx hb dX7_row_44 (by decide) ?_
            refine lv_icmp_eq (tgt := 52) hx hb dX7_row_46 (by decide) (fun c8 => ?_) (fun c8 => ?_)
            · have hF := m_pos c8 hF
              refine lv_iload_n hx hb dX7_row_52 rfl (lv_at hl 1 rfl) ?_
              refine lv_iconst (v := 4) hx hb dX7_row_53 (by decide) ?_
              refine lv_imul hx hb dX7_row_54 ?_
              refine lv_iload_n hx hb dX7_row_55 rfl (lv_at hl 2 rfl) ?_
              refine lv_iadd hx hb dX7_row_56 ?_
              refine lv_istore (lv' := [(4, .int ((x0 * 4) + x1)), (0, .ref (Onea_self a)), (1, .int x0), (2, .int x1), (3, .int x2)]) hx hb dX7_row_57 hl (by decide) rfl (fun ls hl => ?_)
              refine lv_aload_n hx hb dX7_row_59 rfl (lv_at hl 1 rfl) ?_
              refine va_get (D := E.1) (ci := 7) (v := .ref (Rooma_self (Onea_now a))) (C := RX7) (T := TX7) (N := 5) hx hb hts k1 hown hK hP 0 rfl rfl 0 (by decide) k0 (fun _ h9 => h9) rfl dX7_row_60 ?_
              refine va_getN (D := E.1) (ci := 5) (v := .ref (Groupa_self (Rooma_group (Onea_now a)))) (C := RX5) (T := TX5) (N := 9) hx hb hts k3 hown hK hP 1 rfl rfl 0 (by decide) k2 (fun _ h9 => h9) rfl dX7_row_63 ?_
              refine va_getN (D := E.1) (ci := 2) (v := .ref (Groupa_rows (Rooma_group (Onea_now a)))) (C := RX2) (T := TX2) (N := 11) hx hb hts k5 hown hK hP 2 rfl rfl 9 (by decide) k6 (fun _ h9 => h9) rfl dX7_row_66 ?_
              refine lv_iload hx hb dX7_row_69 (lv_at hl 0 rfl) ?_
              obtain ⟨h9, hF⟩ := m_chk hF
              refine va_iald (f := (Group_rows (Room_group (One_now v)))) hx hb hK hP 9 1 rfl rfl (mIn_ok h9) dX7_row_71 ?_
              refine W.eq (g2 := F0 m 72 ls [.int ((Group_rows (Room_group (One_now v))) (((x0 * 4) + x1)).toNatClampNeg)]) rfl ?_
              refine lv_istore (lv' := [(5, .int ((Group_rows (Room_group (One_now v))) (((x0 * 4) + x1)).toNatClampNeg)), (4, .int ((x0 * 4) + x1)), (0, .ref (Onea_self a)), (1, .int x0), (2, .int x1), (3, .int x2)]) hx hb dX7_row_72 hl (by decide) rfl (fun ls hl => ?_)
              refine lv_aload_n hx hb dX7_row_74 rfl (lv_at hl 2 rfl) ?_
              refine va_get (D := E.1) (ci := 7) (v := .ref (Rooma_self (Onea_now a))) (C := RX7) (T := TX7) (N := 5) hx hb hts k1 hown hK hP 0 rfl rfl 0 (by decide) k0 (fun _ h9 => h9) rfl dX7_row_75 ?_
              refine va_getN (D := E.1) (ci := 5) (v := .ref (Groupa_self (Rooma_group (Onea_now a)))) (C := RX5) (T := TX5) (N := 9) hx hb hts k3 hown hK hP 1 rfl rfl 0 (by decide) k2 (fun _ h9 => h9) rfl dX7_row_78 ?_
              refine va_getN (D := E.1) (ci := 2) (v := .ref (Groupa_rows (Rooma_group (Onea_now a)))) (C := RX2) (T := TX2) (N := 11) hx hb hts k5 hown hK hP 2 rfl rfl 9 (by decide) k6 (fun _ h9 => h9) rfl dX7_row_81 ?_
              refine lv_iload hx hb dX7_row_84 (lv_at hl 1 rfl) ?_
              refine lv_iload_n hx hb dX7_row_86 rfl (lv_at hl 5 rfl) ?_
              obtain ⟨h10, hF⟩ := m_chk hF
              refine va_iast (f := (Group_rows (Room_group (One_now v)))) hx hb hK hP hD hS 9 1 rfl rfl (mIn_ok h10) dX7_row_87 (fun H locs hP hD hS => ?_)
              have hP : va_P E.1 vwCl (One_c E a (One_now_s v (Room_group_s (One_now v) (Group_rows_s (Room_group (One_now v)) (upd (Group_rows (Room_group (One_now v))) (((x0 * 4) + x1)).toNatClampNeg x2))))) H := hP
              have hD : va_D A (One_c E a (One_now_s v (Room_group_s (One_now v) (Group_rows_s (Room_group (One_now v)) (upd (Group_rows (Room_group (One_now v))) (((x0 * 4) + x1)).toNatClampNeg x2))))) := hD
              refine lv_iload hx hb dX7_row_88 (lv_at hl 0 rfl) ?_
              have hF := Option.some.inj hF
              subst hF
              rw [hQ]
              exact W.iret hx hb hr (fun t ht _ => ⟨⟨rfl, by rw [ht]; exact hP, hD⟩, hS.F ht⟩) hS.2.2 dX7_row_90
            · have hF := m_neg c8 hF
              refine lv_bipush (v := (-3)) hx hb dX7_row_49 (by decide) ?_
              have hF := Option.some.inj hF
              subst hF
              rw [hQ]
              exact W.iret hx hb hr (fun t ht _ => ⟨⟨rfl, by rw [ht]; exact hP, hD⟩, hS.F ht⟩) hS.2.2 dX7_row_51
          · have hF := m_neg c6 hF
            refine lv_bipush (v := (-2)) hx hb dX7_row_29 (by decide) ?_
            have hF := Option.some.inj hF
            subst hF
            rw [hQ]
            exact W.iret hx hb hr (fun t ht _ => ⟨⟨rfl, by rw [ht]; exact hP, hD⟩, hS.F ht⟩) hS.2.2 dX7_row_31
      · have hF := m_neg c4 hF
        refine lv_iconst (v := (-1)) hx hb dX7_row_17 (by decide) ?_
        have hF := Option.some.inj hF
        subst hF
        rw [hQ]
        exact W.iret hx hb hr (fun t ht _ => ⟨⟨rfl, by rw [ht]; exact hP, hD⟩, hS.F ht⟩) hS.2.2 dX7_row_18

abbrev rmX7_will : Room := { frames := 1, cells := 0, slots := 0, locals := 21 }
set_option maxRecDepth 100000 in
set_option maxHeartbeats 400000 in
theorem c_X7_will (l : Launch) (E : mE) (a : OneA) (v : OneV) (x0 : Int32) (x1 : Int32) (t : (Int32 × OneV)) (hF : fn_X7_will v x0 x1 = some t) (sz : Nat) : Met l yX7_will wsX7_will rmX7_will (mPm E [.ref (Onea_self a), .int x0, .int x1] sz ((One_c E a v)) (([] : va_W))) (mSm E (some (.int t.1)) ((One_c E a t.2)) (va_A ((One_c E a v)) sz)) 0 0 (va_A ((One_c E a v)) sz) := by
  refine mOfM (cc := cX7_will) (maxL := 4) (ret := (some .int)) (by decide) rfl (Nat.le_of_ble_eq_true rfl) ?_
  intro p e_ s m args below meth c Q A hQ CC hr hlocks hin hA hP hD hKN hGl hR0 hRA ls hl
  have hS : va_S A s.heap s.heap [] := va_S.rf
  have hK := hKN.1
  have hx := CC.1
  have hb := CC.2.1
  have hml := CC.2.2.1
  have hown : s.vm.findClass RX7 = some m.cls := CC.2.2.2.1
  have hts := CC.2.2.2.2
  have hl : lv_has ls 4 [(0, .ref (Onea_self a)), (1, .int x0), (2, .int x1)] := hl
  have k0 := hts (.fieldLink RX7 12 "OneDidAll" "now" "LOneDidAll$Room;") (by decide +kernel)
  have k1 := (show ∀ w ∈ u_ws RX7 TX7 5, w ∈ wsX7_will by decide +kernel)
  have k2 := (va_Nw.use rfl (hKN.2.1 ("OneDidAll", 74, "OneDidAll$Room", "group", "LOneDidAll$Group;", "OneDidAll") (by decide +kernel)) : (Cond.fieldLinkNest "OneDidAll" 74 "OneDidAll$Room" "group" "LOneDidAll$Group;" "OneDidAll").before args s = true)
  have k3 := (show ∀ w ∈ u_ws RX5 TX5 9, w ∈ wsX7_will by decide +kernel)
  have k4 := (va_Nw.use rfl (hKN.2.1 ("OneDidAll", 100, "OneDidAll$Group", "wills", "[I", "OneDidAll") (by decide +kernel)) : (Cond.fieldLinkNest "OneDidAll" 100 "OneDidAll$Group" "wills" "[I" "OneDidAll").before args s = true)
  have k5 := (show ∀ w ∈ u_ws RX2 TX2 11, w ∈ wsX7_will by decide +kernel)
  have hP : va_P E.1 vwCl (One_c E a v) s.heap := hP
  obtain ⟨H, hH⟩ : ∃ H, H = s.heap := ⟨_, rfl⟩
  obtain ⟨locs, hlc⟩ : ∃ z : List Loc, z = [] := ⟨_, rfl⟩
  rw [← hH] at hP
  rw [← hlc] at hS
  have hS : va_S A s.heap H locs := by rw [hH]; exact hS
  rw [← hH, ← hlc]
  unfold fn_X7_will at hF
  refine lv_aload_n hx hb dX7_will_0 rfl (lv_at hl 0 rfl) ?_
  refine lv_iload_n hx hb dX7_will_1 rfl (lv_at hl 1 rfl) ?_
  obtain ⟨t1, ht1, hF⟩ := m_bnd hF
  refine mVP (ci := 7) (n := 1) (rest := []) (As := [.int x0]) CC hKN hGl hS (c_X7_isPupil l E a v x0 t1 ht1) gX7_will_X7_isPupil rfl ⟨rfl, rfl⟩ (by decide +kernel) ⟨Nat.le_of_ble_eq_true rfl, Nat.le_of_ble_eq_true rfl⟩ hP rfl rfl rfl rfl hl.1 rfl (Nat.le_of_ble_eq_true rfl) ⟨Nat.zero_le _, Nat.zero_le _⟩ dX7_will_2 ?_
  refine W.eq (g2 := F0 m 5 ls [.int t1]) rfl ?_
  refine lv_if_ne (tgt := 10) hx hb dX7_will_5 (by decide) (fun c2 => ?_) (fun c2 => ?_)
  · have hF := m_pos c2 hF
    refine lv_iload_n hx hb dX7_will_10 rfl (lv_at hl 2 rfl) ?_
    refine lv_if_lt (tgt := 20) hx hb dX7_will_11 (by decide) (fun c3 => ?_) (fun c3 => ?_)
    · have hF := m_pos c3 hF
      refine lv_bipush (v := (-2)) hx hb dX7_will_20 (by decide) ?_
      have hF := Option.some.inj hF
      subst hF
      rw [hQ]
      exact W.iret hx hb hr (fun t ht _ => ⟨⟨rfl, by rw [ht]; exact hP, hD⟩, hS.F ht⟩) hS.2.2 dX7_will_22
    · have hF := m_neg c3 hF
      refine lv_iload_n hx hb dX7_will_14 rfl (lv_at hl 2 rfl) ?_
      refine lv_bipush (v := 99) hx hb dX7_will_15 (by decide) ?_
      refine lv_icmp_le (tgt := 23) hx hb dX7_will_17 (by decide) (fun c4 => ?_) (fun c4 => ?_)
      · have hF := m_pos c4 hF
        refine lv_aload_n hx hb dX7_will_23 rfl (lv_at hl 0 rfl) ?_
        refine va_get (D := E.1) (ci := 7) (v := .ref (Rooma_self (Onea_now a))) (C := RX7) (T := TX7) (N := 5) hx hb hts k1 hown hK hP 0 rfl rfl 0 (by decide) k0 (fun _ h9 => h9) rfl dX7_will_24 ?_
        refine va_getN (D := E.1) (ci := 5) (v := .ref (Groupa_self (Rooma_group (Onea_now a)))) (C := RX5) (T := TX5) (N := 9) hx hb hts k3 hown hK hP 1 rfl rfl 0 (by decide) k2 (fun _ h9 => h9) rfl dX7_will_27 ?_
        refine va_getN (D := E.1) (ci := 2) (v := .ref (Groupa_wills (Rooma_group (Onea_now a)))) (C := RX2) (T := TX2) (N := 11) hx hb hts k5 hown hK hP 2 rfl rfl 6 (by decide) k4 (fun _ h9 => h9) rfl dX7_will_30 ?_
        refine lv_iload_n hx hb dX7_will_33 rfl (lv_at hl 1 rfl) ?_
        obtain ⟨h5, hF⟩ := m_chk hF
        refine va_iald (f := (Group_wills (Room_group (One_now v)))) hx hb hK hP 6 1 rfl rfl (mIn_ok h5) dX7_will_34 ?_
        refine W.eq (g2 := F0 m 35 ls [.int ((Group_wills (Room_group (One_now v))) (x0).toNatClampNeg)]) rfl ?_
        refine lv_istore_n (lv' := [(3, .int ((Group_wills (Room_group (One_now v))) (x0).toNatClampNeg)), (0, .ref (Onea_self a)), (1, .int x0), (2, .int x1)]) hx hb dX7_will_35 rfl hl (by decide) rfl (fun ls hl => ?_)
        refine lv_aload_n hx hb dX7_will_36 rfl (lv_at hl 1 rfl) ?_
        refine va_get (D := E.1) (ci := 7) (v := .ref (Rooma_self (Onea_now a))) (C := RX7) (T := TX7) (N := 5) hx hb hts k1 hown hK hP 0 rfl rfl 0 (by decide) k0 (fun _ h9 => h9) rfl dX7_will_37 ?_
        refine va_getN (D := E.1) (ci := 5) (v := .ref (Groupa_self (Rooma_group (Onea_now a)))) (C := RX5) (T := TX5) (N := 9) hx hb hts k3 hown hK hP 1 rfl rfl 0 (by decide) k2 (fun _ h9 => h9) rfl dX7_will_40 ?_
        refine va_getN (D := E.1) (ci := 2) (v := .ref (Groupa_wills (Rooma_group (Onea_now a)))) (C := RX2) (T := TX2) (N := 11) hx hb hts k5 hown hK hP 2 rfl rfl 6 (by decide) k4 (fun _ h9 => h9) rfl dX7_will_43 ?_
        refine lv_iload_n hx hb dX7_will_46 rfl (lv_at hl 2 rfl) ?_
        refine lv_iload_n hx hb dX7_will_47 rfl (lv_at hl 3 rfl) ?_
        obtain ⟨h6, hF⟩ := m_chk hF
        refine va_iast (f := (Group_wills (Room_group (One_now v)))) hx hb hK hP hD hS 6 1 rfl rfl (mIn_ok h6) dX7_will_48 (fun H locs hP hD hS => ?_)
        have hP : va_P E.1 vwCl (One_c E a (One_now_s v (Room_group_s (One_now v) (Group_wills_s (Room_group (One_now v)) (upd (Group_wills (Room_group (One_now v))) (x0).toNatClampNeg x1))))) H := hP
        have hD : va_D A (One_c E a (One_now_s v (Room_group_s (One_now v) (Group_wills_s (Room_group (One_now v)) (upd (Group_wills (Room_group (One_now v))) (x0).toNatClampNeg x1))))) := hD
        refine lv_iload_n hx hb dX7_will_49 rfl (lv_at hl 0 rfl) ?_
        have hF := Option.some.inj hF
        subst hF
        rw [hQ]
        exact W.iret hx hb hr (fun t ht _ => ⟨⟨rfl, by rw [ht]; exact hP, hD⟩, hS.F ht⟩) hS.2.2 dX7_will_50
      · have hF := m_neg c4 hF
        refine lv_bipush (v := (-2)) hx hb dX7_will_20 (by decide) ?_
        have hF := Option.some.inj hF
        subst hF
        rw [hQ]
        exact W.iret hx hb hr (fun t ht _ => ⟨⟨rfl, by rw [ht]; exact hP, hD⟩, hS.F ht⟩) hS.2.2 dX7_will_22
  · have hF := m_neg (fun n9 => n9 c2) hF
    refine lv_iconst (v := (-1)) hx hb dX7_will_8 (by decide) ?_
    have hF := Option.some.inj hF
    subst hF
    rw [hQ]
    exact W.iret hx hb hr (fun t ht _ => ⟨⟨rfl, by rw [ht]; exact hP, hD⟩, hS.F ht⟩) hS.2.2 dX7_will_9

abbrev rmX7_out : Room := { frames := 1, cells := 0, slots := 0, locals := 21 }
set_option maxRecDepth 100000 in
set_option maxHeartbeats 400000 in
theorem c_X7_out (l : Launch) (E : mE) (a : OneA) (v : OneV) (x0 : Int32) (x1 : Int32) (t : (Int32 × OneV)) (hF : fn_X7_out v x0 x1 = some t) (sz : Nat) : Met l yX7_out wsX7_out rmX7_out (mPm E [.ref (Onea_self a), .int x0, .int x1] sz ((One_c E a v)) (([] : va_W))) (mSm E (some (.int t.1)) ((One_c E a t.2)) (va_A ((One_c E a v)) sz)) 0 0 (va_A ((One_c E a v)) sz) := by
  refine mOfM (cc := cX7_out) (maxL := 4) (ret := (some .int)) (by decide) rfl (Nat.le_of_ble_eq_true rfl) ?_
  intro p e_ s m args below meth c Q A hQ CC hr hlocks hin hA hP hD hKN hGl hR0 hRA ls hl
  have hS : va_S A s.heap s.heap [] := va_S.rf
  have hK := hKN.1
  have hx := CC.1
  have hb := CC.2.1
  have hml := CC.2.2.1
  have hown : s.vm.findClass RX7 = some m.cls := CC.2.2.2.1
  have hts := CC.2.2.2.2
  have hl : lv_has ls 4 [(0, .ref (Onea_self a)), (1, .int x0), (2, .int x1)] := hl
  have k0 := hts (.fieldLink RX7 12 "OneDidAll" "now" "LOneDidAll$Room;") (by decide +kernel)
  have k1 := (show ∀ w ∈ u_ws RX7 TX7 5, w ∈ wsX7_out by decide +kernel)
  have k2 := (va_Nw.use rfl (hKN.2.1 ("OneDidAll", 74, "OneDidAll$Room", "group", "LOneDidAll$Group;", "OneDidAll") (by decide +kernel)) : (Cond.fieldLinkNest "OneDidAll" 74 "OneDidAll$Room" "group" "LOneDidAll$Group;" "OneDidAll").before args s = true)
  have k3 := (show ∀ w ∈ u_ws RX5 TX5 9, w ∈ wsX7_out by decide +kernel)
  have k4 := (va_Nw.use rfl (hKN.2.1 ("OneDidAll", 106, "OneDidAll$Group", "outs", "[Z", "OneDidAll") (by decide +kernel)) : (Cond.fieldLinkNest "OneDidAll" 106 "OneDidAll$Group" "outs" "[Z" "OneDidAll").before args s = true)
  have k5 := (show ∀ w ∈ u_ws RX2 TX2 11, w ∈ wsX7_out by decide +kernel)
  have hP : va_P E.1 vwCl (One_c E a v) s.heap := hP
  obtain ⟨H, hH⟩ : ∃ H, H = s.heap := ⟨_, rfl⟩
  obtain ⟨locs, hlc⟩ : ∃ z : List Loc, z = [] := ⟨_, rfl⟩
  rw [← hH] at hP
  rw [← hlc] at hS
  have hS : va_S A s.heap H locs := by rw [hH]; exact hS
  rw [← hH, ← hlc]
  unfold fn_X7_out at hF
  refine lv_aload_n hx hb dX7_out_0 rfl (lv_at hl 0 rfl) ?_
  refine lv_iload_n hx hb dX7_out_1 rfl (lv_at hl 1 rfl) ?_
  obtain ⟨t1, ht1, hF⟩ := m_bnd hF
  refine mVP (ci := 7) (n := 1) (rest := []) (As := [.int x0]) CC hKN hGl hS (c_X7_isPupil l E a v x0 t1 ht1) gX7_out_X7_isPupil rfl ⟨rfl, rfl⟩ (by decide +kernel) ⟨Nat.le_of_ble_eq_true rfl, Nat.le_of_ble_eq_true rfl⟩ hP rfl rfl rfl rfl hl.1 rfl (Nat.le_of_ble_eq_true rfl) ⟨Nat.zero_le _, Nat.zero_le _⟩ dX7_out_2 ?_
  refine W.eq (g2 := F0 m 5 ls [.int t1]) rfl ?_
  refine lv_if_ne (tgt := 10) hx hb dX7_out_5 (by decide) (fun c2 => ?_) (fun c2 => ?_)
  · have hF := m_pos c2 hF
    refine lv_aload_n hx hb dX7_out_10 rfl (lv_at hl 0 rfl) ?_
    refine va_get (D := E.1) (ci := 7) (v := .ref (Rooma_self (Onea_now a))) (C := RX7) (T := TX7) (N := 5) hx hb hts k1 hown hK hP 0 rfl rfl 0 (by decide) k0 (fun _ h9 => h9) rfl dX7_out_11 ?_
    refine va_getN (D := E.1) (ci := 5) (v := .ref (Groupa_self (Rooma_group (Onea_now a)))) (C := RX5) (T := TX5) (N := 9) hx hb hts k3 hown hK hP 1 rfl rfl 0 (by decide) k2 (fun _ h9 => h9) rfl dX7_out_14 ?_
    refine va_getN (D := E.1) (ci := 2) (v := .ref (Groupa_outs (Rooma_group (Onea_now a)))) (C := RX2) (T := TX2) (N := 11) hx hb hts k5 hown hK hP 2 rfl rfl 8 (by decide) k4 (fun _ h9 => h9) rfl dX7_out_17 ?_
    refine lv_iload_n hx hb dX7_out_20 rfl (lv_at hl 1 rfl) ?_
    obtain ⟨h3, hF⟩ := m_chk hF
    refine va_zald (f := (Group_outs (Room_group (One_now v)))) hx hb hK hP 8 2 rfl rfl (mIn_ok h3) dX7_out_21 ?_
    refine W.eq (g2 := F0 m 22 ls [.int ((Group_outs (Room_group (One_now v))) (x0).toNatClampNeg)]) rfl ?_
    refine lv_istore_n (lv' := [(3, .int ((Group_outs (Room_group (One_now v))) (x0).toNatClampNeg)), (0, .ref (Onea_self a)), (1, .int x0), (2, .int x1)]) hx hb dX7_out_22 rfl hl (by decide) rfl (fun ls hl => ?_)
    refine lv_aload_n hx hb dX7_out_23 rfl (lv_at hl 1 rfl) ?_
    refine va_get (D := E.1) (ci := 7) (v := .ref (Rooma_self (Onea_now a))) (C := RX7) (T := TX7) (N := 5) hx hb hts k1 hown hK hP 0 rfl rfl 0 (by decide) k0 (fun _ h9 => h9) rfl dX7_out_24 ?_
    refine va_getN (D := E.1) (ci := 5) (v := .ref (Groupa_self (Rooma_group (Onea_now a)))) (C := RX5) (T := TX5) (N := 9) hx hb hts k3 hown hK hP 1 rfl rfl 0 (by decide) k2 (fun _ h9 => h9) rfl dX7_out_27 ?_
    refine va_getN (D := E.1) (ci := 2) (v := .ref (Groupa_outs (Rooma_group (Onea_now a)))) (C := RX2) (T := TX2) (N := 11) hx hb hts k5 hown hK hP 2 rfl rfl 8 (by decide) k4 (fun _ h9 => h9) rfl dX7_out_30 ?_
    refine lv_iload_n hx hb dX7_out_33 rfl (lv_at hl 2 rfl) ?_
    refine lv_iload_n hx hb dX7_out_34 rfl (lv_at hl 3 rfl) ?_
    obtain ⟨h4, hF⟩ := m_chk hF
    refine va_zast (f := (Group_outs (Room_group (One_now v)))) hx hb hK hP hD hS 8 2 rfl rfl (mIn_ok h4) dX7_out_35 (fun H locs hP hD hS => ?_)
    have hP : va_P E.1 vwCl (One_c E a (One_now_s v (Room_group_s (One_now v) (Group_outs_s (Room_group (One_now v)) (upd (Group_outs (Room_group (One_now v))) (x0).toNatClampNeg (vp_nar .boolean x1)))))) H := hP
    have hD : va_D A (One_c E a (One_now_s v (Room_group_s (One_now v) (Group_outs_s (Room_group (One_now v)) (upd (Group_outs (Room_group (One_now v))) (x0).toNatClampNeg (vp_nar .boolean x1)))))) := hD
    refine lv_iload_n hx hb dX7_out_36 rfl (lv_at hl 0 rfl) ?_
    refine lv_if_eq (tgt := 44) hx hb dX7_out_37 (by decide) (fun c5 => ?_) (fun c5 => ?_)
    · have hF := m_pos c5 hF
      refine lv_iconst (v := 0) hx hb dX7_out_44 (by decide) ?_
      have hF := Option.some.inj hF
      subst hF
      rw [hQ]
      exact W.iret hx hb hr (fun t ht _ => ⟨⟨rfl, by rw [ht]; exact hP, hD⟩, hS.F ht⟩) hS.2.2 dX7_out_45
    · have hF := m_neg c5 hF
      refine lv_iconst (v := 1) hx hb dX7_out_40 (by decide) ?_
      refine lv_goto (tgt := 45) hx hb dX7_out_41 (by decide) ?_
      have hF := Option.some.inj hF
      subst hF
      rw [hQ]
      exact W.iret hx hb hr (fun t ht _ => ⟨⟨rfl, by rw [ht]; exact hP, hD⟩, hS.F ht⟩) hS.2.2 dX7_out_45
  · have hF := m_neg (fun n9 => n9 c2) hF
    refine lv_iconst (v := (-1)) hx hb dX7_out_8 (by decide) ?_
    have hF := Option.some.inj hF
    subst hF
    rw [hQ]
    exact W.iret hx hb hr (fun t ht _ => ⟨⟨rfl, by rw [ht]; exact hP, hD⟩, hS.F ht⟩) hS.2.2 dX7_out_9

