abbrev ReaderOV : Type := Nat × Int32 × Int32 × Int32 × Nat
abbrev ReaderO_c (E : mE) (a : Nat) (v : ReaderOV) : va_W := [(a, .inr (4, [.ref v.1, .int v.2.1, .int v.2.2.1, .int v.2.2.2.1, .ref v.2.2.2.2]))]
theorem m_p3 {A t C o Ls : va_W} : ((A ++ (t ++ C)) ++ (o ++ Ls)).Perm ((o ++ (t ++ Ls)) ++ (A ++ C)) := by
  have h1 : ((A ++ (t ++ C)) ++ (o ++ Ls)).Perm ((o ++ Ls) ++ (A ++ (t ++ C))) := List.perm_append_comm
  refine h1.trans ?_
  rw [List.append_assoc, List.append_assoc, List.append_assoc]
  refine List.Perm.append_left o ?_
  refine List.Perm.trans (List.Perm.append_left Ls m_p1) ?_
  exact List.perm_append_comm_assoc Ls t (A ++ C)
theorem m_dropP {D : va_G} {cl : List vw_C} {A B C : va_W} {H : Heap} (h : va_P D cl (A ++ (B ++ C)) H) : va_P D cl (A ++ C) H := vaP_iff.mpr (fun q hq => vaP_iff.mp h q (by
  rcases List.mem_append.mp hq with h | h
  · exact List.mem_append_left _ h
  · exact List.mem_append_right _ (List.mem_append_right _ h)))
theorem m_dropD {A0 : Nat → Prop} {A B C : va_W} (h : va_D A0 (A ++ (B ++ C))) : va_D A0 (A ++ C) := by
  obtain ⟨h1, h2⟩ := vaD_iff.mp h
  obtain ⟨g1, g2, g3⟩ := List.pairwise_append.mp h1
  obtain ⟨k1, k2, k3⟩ := List.pairwise_append.mp g2
  refine vaD_iff.mpr ⟨List.pairwise_append.mpr ⟨g1, k2, fun x hx y hy => g3 x hx y (List.mem_append_right _ hy)⟩, fun q hq => h2 q ?_⟩
  rcases List.mem_append.mp hq with h | h
  · exact List.mem_append_left _ h
  · exact List.mem_append_right _ (List.mem_append_right _ h)
abbrev rmX7_school : Room := { frames := 33, cells := 5, slots := 132, locals := 752 }
set_option maxRecDepth 100000 in
set_option maxHeartbeats 400000 in
theorem c_X7_school (l : Launch) (E : mE) (a : OneA) (v : OneV) (hc : Room_lessonCount (One_now v) < 5) (t : Nat → Int32 × OneV × LessonV) (hF : ∀ q : Nat, fn_X7_school v q = some (t q)) (sz : Nat) : Met l yX7_school wsX7_school rmX7_school (mPm E [.ref (Onea_self a)] sz (One_c E a v) []) (mSx E (fun e : LessonA => some (.int (t (Lessona_self e)).1)) (fun e : LessonA => (One_c E a (t (Lessona_self e)).2.1) ++ (Lesson_c E e (t (Lessona_self e)).2.2)) (fun _ : LessonA => True) (va_A (One_c E a v) sz)) 5 132 (va_A (One_c E a v) sz) := by
  refine mOfX (QA := fun A => mSx E (fun e : LessonA => some (.int (t (Lessona_self e)).1)) (fun e : LessonA => (One_c E a (t (Lessona_self e)).2.1) ++ (Lesson_c E e (t (Lessona_self e)).2.2)) (fun _ : LessonA => True) A) (cc := cX7_school) (maxL := 3) (ret := (some .int)) (by decide) rfl (Nat.le_of_ble_eq_true rfl) ?_
  intro p e_ s m args below meth c Q A hQ CC hr hlocks hin hA hP hD hKN hGl hR0 hRA ls hl
  have hS : va_S A s.heap s.heap [] := va_S.rf
  have hK := hKN.1
  have hx := CC.1
  have hb := CC.2.1
  have hml := CC.2.2.1
  have hown : s.vm.findClass RX7 = some m.cls := CC.2.2.2.1
  have hts := CC.2.2.2.2
  have hl : lv_has ls 3 [(0, .ref (Onea_self a))] := hl
  have k0 := hts (.fieldLink RX7 12 "OneDidAll" "now" "LOneDidAll$Room;") (by decide +kernel)
  have k1 := (show ∀ w ∈ u_ws RX7 TX7 5, w ∈ wsX7_school by decide +kernel)
  have k2 := (va_Nw.use rfl (hKN.2.1 ("OneDidAll", 47, "OneDidAll$Room", "lessonCount", "I", "OneDidAll") (by decide +kernel)) : (Cond.fieldLinkNest "OneDidAll" 47 "OneDidAll$Room" "lessonCount" "I" "OneDidAll").before args s = true)
  have k3 := (show ∀ w ∈ u_ws RX5 TX5 9, w ∈ wsX7_school by decide +kernel)
  have k4 := (show ∀ w ∈ u_ws RX4 TX4 5, w ∈ wsX7_school by decide +kernel)
  have k5 := (va_Nw.use rfl (hKN.2.1 ("OneDidAll", 43, "OneDidAll$Room", "tape", "[B", "OneDidAll") (by decide +kernel)) : (Cond.fieldLinkNest "OneDidAll" 43 "OneDidAll$Room" "tape" "[B" "OneDidAll").before args s = true)
  have k6 := (va_Nw.use rfl (hKN.2.1 ("OneDidAll", 39, "OneDidAll$Room", "signs", "I", "OneDidAll") (by decide +kernel)) : (Cond.fieldLinkNest "OneDidAll" 39 "OneDidAll$Room" "signs" "I" "OneDidAll").before args s = true)
  have k7 := (va_Nw.use rfl (hKN.2.1 ("OneDidAll", 62, "OneDidAll$Room", "lessons", "[LOneDidAll$Lesson;", "OneDidAll") (by decide +kernel)) : (Cond.fieldLinkNest "OneDidAll" 62 "OneDidAll$Room" "lessons" "[LOneDidAll$Lesson;" "OneDidAll").before args s = true)
  have k8 := (va_Nw.use rfl (hKN.2.1 ("OneDidAll", 66, "OneDidAll$Reader", "lesson", "LOneDidAll$Lesson;", "OneDidAll") (by decide +kernel)) : (Cond.fieldLinkNest "OneDidAll" 66 "OneDidAll$Reader" "lesson" "LOneDidAll$Lesson;" "OneDidAll").before args s = true)
  have k9 := (va_Nw.use rfl (hKN.2.1 ("OneDidAll", 59, "OneDidAll$Reader", "place", "I", "OneDidAll") (by decide +kernel)) : (Cond.fieldLinkNest "OneDidAll" 59 "OneDidAll$Reader" "place" "I" "OneDidAll").before args s = true)
  have hP : va_P E.1 vwCl (One_c E a v) s.heap := hP
  obtain ⟨H, hH⟩ : ∃ H, H = s.heap := ⟨_, rfl⟩
  obtain ⟨locs, hlc⟩ : ∃ z : List Loc, z = [] := ⟨_, rfl⟩
  rw [← hH] at hP
  rw [← hlc] at hS
  have hS : va_S A s.heap H locs := by rw [hH]; exact hS
  rw [← hH, ← hlc]
  refine lv_aload_n hx hb dX7_school_0 rfl (lv_at hl 0 rfl) ?_
  refine va_get (D := E.1) (ci := 7) (v := .ref (Rooma_self (Onea_now a))) (C := RX7) (T := TX7) (N := 5) hx hb hts k1 hown hK hP 0 rfl rfl 0 (by decide) k0 (fun _ h9 => h9) rfl dX7_school_1 ?_
  refine va_getN (D := E.1) (ci := 5) (v := .int (Room_lessonCount (One_now v))) (C := RX5) (T := TX5) (N := 9) hx hb hts k3 hown hK hP 1 rfl rfl 4 (by decide) k2 (fun _ h9 => h9) rfl dX7_school_4 ?_
  refine lv_iconst (v := 5) hx hb dX7_school_7 (by decide) ?_
  refine lv_icmp_lt (tgt := 14) hx hb dX7_school_8 (by decide) (fun c1 => ?_) (fun c1 => ?_)
  rotate_left
  · exact absurd hc c1
  refine va_new (ci := 4) (fs := [.null, .int 0, .int 0, .int 0, .null]) (C := RX4) (T := TX4) (N := 5) hx hb hts k4 tyX4 tyX4_ok hown (hts (.classLink RX7 50 RX4) (by decide +kernel)) (hts (.instantiable RX4 5) (by decide +kernel)) (hts (.initialized RX4) (by decide +kernel)) hK hP hD hS hA rfl (by decide +kernel) (Nat.le_of_ble_eq_true rfl) (Nat.le_of_ble_eq_true rfl) dX7_school_14 (fun q H hP hD hS => ?_)
  have hP : va_P E.1 vwCl ((One_c E a v) ++ ([(q, .inr (4, [.null, .int 0, .int 0, .int 0, .null]))] : va_W)) H := hP
  have hD : va_D A ((One_c E a v) ++ ([(q, .inr (4, [.null, .int 0, .int 0, .int 0, .null]))] : va_W)) := hD
  refine W.widen (k := 1) (n := 5) (Nat.le_of_ble_eq_true rfl) (Nat.le_of_ble_eq_true rfl) ?_
  refine W.eq (g2 := F0 m 17 ls [.ref q]) rfl ?_
  have hP0 := hP
  refine lv_dup hx hb dX7_school_17 rfl ?_
  refine lv_aload_n hx hb dX7_school_18 rfl (lv_at hl 0 rfl) ?_
  refine va_get (D := E.1) (ci := 7) (v := .ref (Rooma_self (Onea_now a))) (C := RX7) (T := TX7) (N := 5) hx hb hts k1 hown hK hP 0 rfl rfl 0 (by decide) k0 (fun _ h9 => h9) rfl dX7_school_19 ?_
  refine va_getN (D := E.1) (ci := 5) (v := .ref (Rooma_tape (Onea_now a))) (C := RX5) (T := TX5) (N := 9) hx hb hts k3 hown hK hP 1 rfl rfl 1 (by decide) k5 (fun _ h9 => h9) rfl dX7_school_22 ?_
  refine lv_aload_n hx hb dX7_school_25 rfl (lv_at hl 0 rfl) ?_
  refine va_get (D := E.1) (ci := 7) (v := .ref (Rooma_self (Onea_now a))) (C := RX7) (T := TX7) (N := 5) hx hb hts k1 hown hK hP 0 rfl rfl 0 (by decide) k0 (fun _ h9 => h9) rfl dX7_school_26 ?_
  refine va_getN (D := E.1) (ci := 5) (v := .int (Room_signs (One_now v))) (C := RX5) (T := TX5) (N := 9) hx hb hts k3 hown hK hP 1 rfl rfl 2 (by decide) k6 (fun _ h9 => h9) rfl dX7_school_29 ?_
  have hpm : List.Perm ((One_c E a v) ++ ([(q, .inr (4, [.null, .int 0, .int 0, .int 0, .null]))] : va_W)) (([(q, .inr (4, [.null, .int 0, .int 0, .int 0, .null]))] : va_W) ++ (One_c E a v)) := List.perm_append_comm
  obtain ⟨hPc, hDc, hFc⟩ := m_pre hpm hP hD hS hA
  have hRt := m_cutP (mid := ([((Rooma_tape (Onea_now a)), .inl (E.2.1, 100, .inl (Room_tape (One_now v))))] : va_W)) hP 11 1 rfl
  have hRa := m_apart2 (wr := ([((Rooma_tape (Onea_now a)), .inl (E.2.1, 100, .inl (Room_tape (One_now v))))] : va_W)) hpm hP hD 11 1 rfl
  refine mIX (n := 2) (rest := [.ref q]) (As := [.ref (Rooma_tape (Onea_now a)), .int (Room_signs (One_now v))]) CC hKN hGl (c_X4_init l E q _ (Rooma_tape (Onea_now a)) (Room_tape (One_now v)) (Room_signs (One_now v))) gX7_school_X4_init rfl ⟨rfl, rfl⟩ (hts (.initialized RX4) (by decide +kernel)) (hts (.methodLink RX7 52 yX4_init) (by decide +kernel)) (hts (.instanceMethod yX4_init) (by decide +kernel)) rfl (by decide +kernel) ⟨Nat.le_of_ble_eq_true rfl, Nat.le_of_ble_eq_true rfl⟩ hPc hDc hRt hRa hS hFc rfl hl.1 rfl (Nat.le_of_ble_eq_true rfl) ⟨Nat.le_of_ble_eq_true rfl, Nat.le_of_ble_eq_true rfl⟩ dX7_school_32 (fun u H1 locs hu hP1 hD1 hz1 hk1 hS => ?_)
  have hpn : List.Perm ((One_c E a v) ++ ((([(q, .inr (4, [.ref (Rooma_tape (Onea_now a)), .int (mMin (Room_signs (One_now v)) 100), .int 0, .int 0, .ref (Lessona_self u)]))] : va_W)) ++ (Lesson_c E u Lesson_0))) ((([(q, .inr (4, [.ref (Rooma_tape (Onea_now a)), .int (mMin (Room_signs (One_now v)) 100), .int 0, .int 0, .ref (Lessona_self u)]))] : va_W) ++ (Lesson_c E u Lesson_0)) ++ (One_c E a v)) := List.perm_append_comm
  obtain ⟨hP, hD⟩ := m_spl hpm hpn hP hD hk1 hFc hP1 hD1
  generalize H1 = H at hP hS ⊢
  refine W.widen (k := 5) (n := 132) (Nat.le_of_ble_eq_true rfl) (Nat.le_of_ble_eq_true rfl) ?_
  refine W.eq (g2 := F0 m 35 ls [.ref q]) rfl ?_
  refine lv_astore_n (lv' := [(1, .ref q), (0, .ref (Onea_self a))]) hx hb dX7_school_35 rfl hl (by decide) rfl (fun ls hl => ?_)
  refine lv_aload_n hx hb dX7_school_36 rfl (lv_at hl 0 rfl) ?_
  replace hF := hF (Lessona_self u)
  unfold fn_X7_school at hF
  obtain ⟨t1, ht1, hF⟩ := m_bnd hF
  have hpm : List.Perm ((One_c E a v) ++ ((([(q, .inr (4, [.ref (Rooma_tape (Onea_now a)), .int (mMin (Room_signs (One_now v)) 100), .int 0, .int 0, .ref (Lessona_self u)]))] : va_W)) ++ (Lesson_c E u Lesson_0))) ((Reader_c E ((q, (Rooma_tape (Onea_now a)), u) : ReaderA) ((Room_tape (One_now v), mMin (Room_signs (One_now v)) 100, 0, 0, Lesson_0) : ReaderV)) ++ ((List.take 11 (One_c E a v)) ++ (List.drop 12 (One_c E a v)))) := m_p3 (A := (List.take 11 (One_c E a v))) (t := ([((Rooma_tape (Onea_now a)), .inl (E.2.1, 100, .inl (Room_tape (One_now v))))] : va_W)) (C := (List.drop 12 (One_c E a v))) (o := ([(q, .inr (4, [.ref (Rooma_tape (Onea_now a)), .int (mMin (Room_signs (One_now v)) 100), .int 0, .int 0, .ref (Lessona_self u)]))] : va_W)) (Ls := Lesson_c E u Lesson_0)
  obtain ⟨hPc, hDc, hFc⟩ := m_pre hpm hP hD hS hA
  refine mVM (ci := 4) (n := 0) (rest := []) (As := []) CC hKN hGl (c_X4_readLesson l E ((q, (Rooma_tape (Onea_now a)), u) : ReaderA) ((Room_tape (One_now v), mMin (Room_signs (One_now v)) 100, 0, 0, Lesson_0) : ReaderV) t1 ht1 _) gX7_school_X4_readLesson rfl ⟨rfl, rfl⟩ (by decide +kernel) ⟨Nat.le_of_ble_eq_true rfl, Nat.le_of_ble_eq_true rfl⟩ hPc hDc m_nil m_nilA hS hFc rfl rfl rfl rfl hl.1 rfl (Nat.le_of_ble_eq_true rfl) ⟨Nat.le_of_ble_eq_true rfl, Nat.le_of_ble_eq_true rfl⟩ dX7_school_37 (fun H1 locs hP1 hD1 hz1 hk1 hS => ?_)
  have hpn : List.Perm ((One_c E a (One_now_s v (Room_tape_s (One_now v) (Reader_tape t1.2)))) ++ ((([(q, .inr (4, [.ref (Rooma_tape (Onea_now a)), .int (Reader_size t1.2), .int (Reader_place t1.2), .int (Reader_number t1.2), .ref (Lessona_self u)]))] : va_W)) ++ (Lesson_c E u (Reader_lesson t1.2)))) (Reader_c E ((q, (Rooma_tape (Onea_now a)), u) : ReaderA) t1.2 ++ ((List.take 11 (One_c E a v)) ++ (List.drop 12 (One_c E a v)))) := m_p3 (A := (List.take 11 (One_c E a v))) (t := ([((Rooma_tape (Onea_now a)), .inl (E.2.1, 100, .inl (Reader_tape t1.2)))] : va_W)) (C := (List.drop 12 (One_c E a v))) (o := ([(q, .inr (4, [.ref (Rooma_tape (Onea_now a)), .int (Reader_size t1.2), .int (Reader_place t1.2), .int (Reader_number t1.2), .ref (Lessona_self u)]))] : va_W)) (Ls := Lesson_c E u (Reader_lesson t1.2))
  obtain ⟨hP, hD⟩ := m_spl hpm hpn hP hD hk1 hFc hP1 hD1
  generalize H1 = H at hP hS ⊢
  refine W.eq (g2 := F0 m 40 ls [.int t1.1]) rfl ?_
  refine lv_istore_n (lv' := [(2, .int t1.1), (1, .ref q), (0, .ref (Onea_self a))]) hx hb dX7_school_40 rfl hl (by decide) rfl (fun ls hl => ?_)
  refine lv_aload_n hx hb dX7_school_41 rfl (lv_at hl 2 rfl) ?_
  refine va_get (D := E.1) (ci := 7) (v := .ref (Rooma_self (Onea_now a))) (C := RX7) (T := TX7) (N := 5) hx hb hts k1 hown hK hP 0 rfl rfl 0 (by decide) k0 (fun _ h9 => h9) rfl dX7_school_42 ?_
  refine lv_iconst (v := 0) hx hb dX7_school_45 (by decide) ?_
  refine va_putN (D := E.1) (ci := 5) (v := .int 0) (ty := .int) (C := RX5) (T := TX5) (N := 9) hx hb hts k3 tyX5 tyX5_ok nmX5 hown hK hP hD hS 1 rfl rfl 2 (by decide) k6 (fun _ h9 => h9) rfl (by decide +kernel) rfl rfl (Nat.le_of_ble_eq_true rfl) dX7_school_46 (fun H locs hP hD hS => ?_)
  have hP : va_P E.1 vwCl ((One_c E a (One_now_s v (Room_signs_s (Room_tape_s (One_now v) (Reader_tape t1.2)) 0))) ++ ((([(q, .inr (4, [.ref (Rooma_tape (Onea_now a)), .int (Reader_size t1.2), .int (Reader_place t1.2), .int (Reader_number t1.2), .ref (Lessona_self u)]))] : va_W)) ++ (Lesson_c E u (Reader_lesson t1.2)))) H := hP
  have hD : va_D A ((One_c E a (One_now_s v (Room_signs_s (Room_tape_s (One_now v) (Reader_tape t1.2)) 0))) ++ ((([(q, .inr (4, [.ref (Rooma_tape (Onea_now a)), .int (Reader_size t1.2), .int (Reader_place t1.2), .int (Reader_number t1.2), .ref (Lessona_self u)]))] : va_W)) ++ (Lesson_c E u (Reader_lesson t1.2)))) := hD
  refine lv_iload_n hx hb dX7_school_49 rfl (lv_at hl 0 rfl) ?_
  refine lv_if_ne (tgt := 61) hx hb dX7_school_50 (by decide) (fun c1 => ?_) (fun c1 => ?_)
  · have hF := m_pos c1 hF
    refine lv_aload_n hx hb dX7_school_61 rfl (lv_at hl 2 rfl) ?_
    refine va_get (D := E.1) (ci := 7) (v := .ref (Rooma_self (Onea_now a))) (C := RX7) (T := TX7) (N := 5) hx hb hts k1 hown hK hP 0 rfl rfl 0 (by decide) k0 (fun _ h9 => h9) rfl dX7_school_62 ?_
    refine va_getN (D := E.1) (ci := 5) (v := .ref (Rooma_lessons (Onea_now a))) (C := RX5) (T := TX5) (N := 9) hx hb hts k3 hown hK hP 1 rfl rfl 3 (by decide) k7 (fun _ h9 => h9) rfl dX7_school_65 ?_
    refine lv_aload_n hx hb dX7_school_68 rfl (lv_at hl 2 rfl) ?_
    refine va_get (D := E.1) (ci := 7) (v := .ref (Rooma_self (Onea_now a))) (C := RX7) (T := TX7) (N := 5) hx hb hts k1 hown hK hP 0 rfl rfl 0 (by decide) k0 (fun _ h9 => h9) rfl dX7_school_69 ?_
    refine va_getN (D := E.1) (ci := 5) (v := .int (Room_lessonCount (One_now v))) (C := RX5) (T := TX5) (N := 9) hx hb hts k3 hown hK hP 1 rfl rfl 4 (by decide) k2 (fun _ h9 => h9) rfl dX7_school_72 ?_
    refine lv_aload_n hx hb dX7_school_75 rfl (lv_at hl 1 rfl) ?_
    refine va_getN (D := E.1) (ci := 4) (v := .ref (Lessona_self u)) (C := RX4) (T := TX4) (N := 5) hx hb hts k4 hown hK hP 64 rfl rfl 4 (by decide) k8 (fun _ h9 => h9) rfl dX7_school_76 ?_
    obtain ⟨h2, hF⟩ := m_chk hF
    refine va_astq (r := (RX3, TX3, 7)) (f := (Room_lessons (One_now v))) hx hb hK hP hD hS 12 3 65 3 rfl rfl rfl rfl (mIn_ok h2) dX7_school_79 (fun H locs hP hD hS => ?_)
    have hP : va_P E.1 vwCl ((One_c E a (One_now_s v (Room_lessons_s (Room_signs_s (Room_tape_s (One_now v) (Reader_tape t1.2)) 0) (va_up (Room_lessons (One_now v)) ((Room_lessonCount (One_now v))).toNatClampNeg (some (Lessona_self u)))))) ++ ((([(q, .inr (4, [.ref (Rooma_tape (Onea_now a)), .int (Reader_size t1.2), .int (Reader_place t1.2), .int (Reader_number t1.2), .ref (Lessona_self u)]))] : va_W)) ++ (Lesson_c E u (Reader_lesson t1.2)))) H := hP
    have hD : va_D A ((One_c E a (One_now_s v (Room_lessons_s (Room_signs_s (Room_tape_s (One_now v) (Reader_tape t1.2)) 0) (va_up (Room_lessons (One_now v)) ((Room_lessonCount (One_now v))).toNatClampNeg (some (Lessona_self u)))))) ++ ((([(q, .inr (4, [.ref (Rooma_tape (Onea_now a)), .int (Reader_size t1.2), .int (Reader_place t1.2), .int (Reader_number t1.2), .ref (Lessona_self u)]))] : va_W)) ++ (Lesson_c E u (Reader_lesson t1.2)))) := hD
    refine lv_aload_n hx hb dX7_school_80 rfl (lv_at hl 2 rfl) ?_
    refine va_get (D := E.1) (ci := 7) (v := .ref (Rooma_self (Onea_now a))) (C := RX7) (T := TX7) (N := 5) hx hb hts k1 hown hK hP 0 rfl rfl 0 (by decide) k0 (fun _ h9 => h9) rfl dX7_school_81 ?_
    refine lv_dup hx hb dX7_school_84 rfl ?_
    refine va_getN (D := E.1) (ci := 5) (v := .int (Room_lessonCount (One_now v))) (C := RX5) (T := TX5) (N := 9) hx hb hts k3 hown hK hP 1 rfl rfl 4 (by decide) k2 (fun _ h9 => h9) rfl dX7_school_85 ?_
    refine lv_iconst (v := 1) hx hb dX7_school_88 (by decide) ?_
    refine lv_iadd hx hb dX7_school_89 ?_
    refine va_putN (D := E.1) (ci := 5) (v := .int ((Room_lessonCount (One_now v)) + 1)) (ty := .int) (C := RX5) (T := TX5) (N := 9) hx hb hts k3 tyX5 tyX5_ok nmX5 hown hK hP hD hS 1 rfl rfl 4 (by decide) k2 (fun _ h9 => h9) rfl (by decide +kernel) rfl rfl (Nat.le_of_ble_eq_true rfl) dX7_school_90 (fun H locs hP hD hS => ?_)
    have hP : va_P E.1 vwCl ((One_c E a (One_now_s v (Room_lessonCount_s (Room_lessons_s (Room_signs_s (Room_tape_s (One_now v) (Reader_tape t1.2)) 0) (va_up (Room_lessons (One_now v)) ((Room_lessonCount (One_now v))).toNatClampNeg (some (Lessona_self u)))) ((Room_lessonCount (One_now v)) + 1)))) ++ ((([(q, .inr (4, [.ref (Rooma_tape (Onea_now a)), .int (Reader_size t1.2), .int (Reader_place t1.2), .int (Reader_number t1.2), .ref (Lessona_self u)]))] : va_W)) ++ (Lesson_c E u (Reader_lesson t1.2)))) H := hP
    have hD : va_D A ((One_c E a (One_now_s v (Room_lessonCount_s (Room_lessons_s (Room_signs_s (Room_tape_s (One_now v) (Reader_tape t1.2)) 0) (va_up (Room_lessons (One_now v)) ((Room_lessonCount (One_now v))).toNatClampNeg (some (Lessona_self u)))) ((Room_lessonCount (One_now v)) + 1)))) ++ ((([(q, .inr (4, [.ref (Rooma_tape (Onea_now a)), .int (Reader_size t1.2), .int (Reader_place t1.2), .int (Reader_number t1.2), .ref (Lessona_self u)]))] : va_W)) ++ (Lesson_c E u (Reader_lesson t1.2)))) := hD
    refine lv_aload_n hx hb dX7_school_93 rfl (lv_at hl 2 rfl) ?_
    refine va_get (D := E.1) (ci := 7) (v := .ref (Rooma_self (Onea_now a))) (C := RX7) (T := TX7) (N := 5) hx hb hts k1 hown hK hP 0 rfl rfl 0 (by decide) k0 (fun _ h9 => h9) rfl dX7_school_94 ?_
    refine va_getN (D := E.1) (ci := 5) (v := .int ((Room_lessonCount (One_now v)) + 1)) (C := RX5) (T := TX5) (N := 9) hx hb hts k3 hown hK hP 1 rfl rfl 4 (by decide) k2 (fun _ h9 => h9) rfl dX7_school_97 ?_
    refine lv_iconst (v := 1) hx hb dX7_school_100 (by decide) ?_
    refine lv_isub hx hb dX7_school_101 ?_
    have hF := Option.some.inj hF
    have hP := m_dropP hP
    have hD := m_dropD hD
    rw [hQ]
    exact W.iret hx hb hr (fun t9 ht _ => ⟨⟨u, by dsimp only; rw [← hF], trivial, by rw [ht]; dsimp only; rw [← hF]; exact hP, by dsimp only; rw [← hF]; exact hD⟩, hS.F ht⟩) hS.2.2 dX7_school_102
  · have hF := m_neg (fun n9 => n9 c1) hF
    refine lv_bipush (v := (-10)) hx hb dX7_school_53 (by decide) ?_
    refine lv_aload_n hx hb dX7_school_55 rfl (lv_at hl 1 rfl) ?_
    refine va_getN (D := E.1) (ci := 4) (v := .int (Reader_place t1.2)) (C := RX4) (T := TX4) (N := 5) hx hb hts k4 hown hK hP 64 rfl rfl 2 (by decide) k9 (fun _ h9 => h9) rfl dX7_school_56 ?_
    refine lv_isub hx hb dX7_school_59 ?_
    have hF := Option.some.inj hF
    have hP := m_dropP hP
    have hD := m_dropD hD
    rw [hQ]
    exact W.iret hx hb hr (fun t9 ht _ => ⟨⟨u, by dsimp only; rw [← hF], trivial, by rw [ht]; dsimp only; rw [← hF]; exact hP, by dsimp only; rw [← hF]; exact hD⟩, hS.F ht⟩) hS.2.2 dX7_school_60
set_option maxRecDepth 100000 in
set_option maxHeartbeats 400000 in
theorem c_X7_school_full (l : Launch) (E : mE) (a : OneA) (v : OneV) (hc : ¬ Room_lessonCount (One_now v) < 5) (sz : Nat) : Met l yX7_school wsX7_school rmX7_school (mPm E [.ref (Onea_self a)] sz (One_c E a v) []) (mSm E (some (.int (-4))) (One_c E a v) (va_A (One_c E a v) sz)) 5 132 (va_A (One_c E a v) sz) := by
  refine mOfM (cc := cX7_school) (maxL := 3) (ret := (some .int)) (by decide) rfl (Nat.le_of_ble_eq_true rfl) ?_
  intro p e_ s m args below meth c Q A hQ CC hr hlocks hin hA hP hD hKN hGl hR0 hRA ls hl
  have hS : va_S A s.heap s.heap [] := va_S.rf
  have hK := hKN.1
  have hx := CC.1
  have hb := CC.2.1
  have hml := CC.2.2.1
  have hown : s.vm.findClass RX7 = some m.cls := CC.2.2.2.1
  have hts := CC.2.2.2.2
  have hl : lv_has ls 3 [(0, .ref (Onea_self a))] := hl
  have k0 := hts (.fieldLink RX7 12 "OneDidAll" "now" "LOneDidAll$Room;") (by decide +kernel)
  have k1 := (show ∀ w ∈ u_ws RX7 TX7 5, w ∈ wsX7_school by decide +kernel)
  have k2 := (va_Nw.use rfl (hKN.2.1 ("OneDidAll", 47, "OneDidAll$Room", "lessonCount", "I", "OneDidAll") (by decide +kernel)) : (Cond.fieldLinkNest "OneDidAll" 47 "OneDidAll$Room" "lessonCount" "I" "OneDidAll").before args s = true)
  have k3 := (show ∀ w ∈ u_ws RX5 TX5 9, w ∈ wsX7_school by decide +kernel)
  have k4 := (show ∀ w ∈ u_ws RX4 TX4 5, w ∈ wsX7_school by decide +kernel)
  have k5 := (va_Nw.use rfl (hKN.2.1 ("OneDidAll", 43, "OneDidAll$Room", "tape", "[B", "OneDidAll") (by decide +kernel)) : (Cond.fieldLinkNest "OneDidAll" 43 "OneDidAll$Room" "tape" "[B" "OneDidAll").before args s = true)
  have k6 := (va_Nw.use rfl (hKN.2.1 ("OneDidAll", 39, "OneDidAll$Room", "signs", "I", "OneDidAll") (by decide +kernel)) : (Cond.fieldLinkNest "OneDidAll" 39 "OneDidAll$Room" "signs" "I" "OneDidAll").before args s = true)
  have k7 := (va_Nw.use rfl (hKN.2.1 ("OneDidAll", 62, "OneDidAll$Room", "lessons", "[LOneDidAll$Lesson;", "OneDidAll") (by decide +kernel)) : (Cond.fieldLinkNest "OneDidAll" 62 "OneDidAll$Room" "lessons" "[LOneDidAll$Lesson;" "OneDidAll").before args s = true)
  have k8 := (va_Nw.use rfl (hKN.2.1 ("OneDidAll", 66, "OneDidAll$Reader", "lesson", "LOneDidAll$Lesson;", "OneDidAll") (by decide +kernel)) : (Cond.fieldLinkNest "OneDidAll" 66 "OneDidAll$Reader" "lesson" "LOneDidAll$Lesson;" "OneDidAll").before args s = true)
  have k9 := (va_Nw.use rfl (hKN.2.1 ("OneDidAll", 59, "OneDidAll$Reader", "place", "I", "OneDidAll") (by decide +kernel)) : (Cond.fieldLinkNest "OneDidAll" 59 "OneDidAll$Reader" "place" "I" "OneDidAll").before args s = true)
  have hP : va_P E.1 vwCl (One_c E a v) s.heap := hP
  obtain ⟨H, hH⟩ : ∃ H, H = s.heap := ⟨_, rfl⟩
  obtain ⟨locs, hlc⟩ : ∃ z : List Loc, z = [] := ⟨_, rfl⟩
  rw [← hH] at hP
  rw [← hlc] at hS
  have hS : va_S A s.heap H locs := by rw [hH]; exact hS
  rw [← hH, ← hlc]
  refine lv_aload_n hx hb dX7_school_0 rfl (lv_at hl 0 rfl) ?_
  refine va_get (D := E.1) (ci := 7) (v := .ref (Rooma_self (Onea_now a))) (C := RX7) (T := TX7) (N := 5) hx hb hts k1 hown hK hP 0 rfl rfl 0 (by decide) k0 (fun _ h9 => h9) rfl dX7_school_1 ?_
  refine va_getN (D := E.1) (ci := 5) (v := .int (Room_lessonCount (One_now v))) (C := RX5) (T := TX5) (N := 9) hx hb hts k3 hown hK hP 1 rfl rfl 4 (by decide) k2 (fun _ h9 => h9) rfl dX7_school_4 ?_
  refine lv_iconst (v := 5) hx hb dX7_school_7 (by decide) ?_
  refine lv_icmp_lt (tgt := 14) hx hb dX7_school_8 (by decide) (fun c1 => ?_) (fun c1 => ?_)
  · exact absurd c1 hc
  refine lv_bipush (v := (-4)) hx hb dX7_school_11 (by decide) ?_
  rw [hQ]
  refine W.widen (k := 5) (n := 132) (Nat.le_of_ble_eq_true rfl) (Nat.le_of_ble_eq_true rfl) ?_
  exact W.iret hx hb hr (fun t ht _ => ⟨⟨rfl, by rw [ht]; exact hP, hD⟩, hS.F ht⟩) hS.2.2 dX7_school_13
