/-! The law from its entry. -/
theorem lw_lq0 : lq Lesson_0 [] (nI 60) 2 := ⟨⟨rfl, fun i hi => absurd hi (by simp [lz_c]), fun j hj => absurd hj (by simp [lz_c, lc_len])⟩, ⟨⟨by simp [lz_c], by simp [lz_c, lc_len], fun q hq => absurd hq (by simp [lz_c])⟩, fun q hq => absurd hq (by simp)⟩, rfl, rfl, by omega⟩
theorem lw_rws0 {len o1 o2 c : Nat} {s : Nat → Int32} (h : s c = 0) : rws (Rows_0 len) len o1 o2 c s := ⟨rfl, 0, Nat.zero_le _, rfl, h, fun j hj => absurd hj (by omega)⟩
theorem lw_0 {k : Nat} (hk : k ≤ 8) (h : (0 : Int32) = nI k) : k = 0 := ((nI_eq (a := 0) (b := k) (by omega) (by omega)).mp h).symm
theorem lw_s0 : (fun (s : Nat → Int32) => s 0 = 0 ∧ s 1 = 0 ∧ s 20 = 0 ∧ s 21 = 0 ∧ s 22 = 0 ∧ s 23 = 0 ∧ s 24 = 0 ∧ s 25 = 0 ∧ s 26 = -1) (upd (fun _ => 0) (26 : Int32).toNatClampNeg (-1)) := by
  refine ⟨?_, ?_, ?_, ?_, ?_, ?_, ?_, ?_, ?_⟩ <;> decide
theorem lw_R0 {Q : Nat → Option LessonV} {n1 n2 n3 : Nat} (h1 : Q n1 = some Lesson_0) (h2 : Q n2 = some Lesson_0) : R Q (One_0 n1 n2 n3) Model_0 := by
  obtain ⟨s0, s1, s20, s21, s22, s23, s24, s25, s26⟩ := lw_s0
  refine ⟨⟨0, ⟨⟨s20, s0, s1, fun k hk => absurd hk (by omega)⟩, ⟨by omega, rfl, fun k hk => absurd hk (by omega)⟩, ⟨0, by omega, rfl⟩, ⟨0, by omega, rfl⟩, fun k hk => absurd hk (by omega)⟩, ⟨0, by omega, rfl, s25, fun j hj => absurd hj (by omega), fun j hj => ⟨0, by omega, rfl⟩⟩, ⟨0, by omega, rfl, s21, s26, fun i hi => absurd hi (by omega)⟩, ⟨Lesson_0, h1, lw_lq0⟩, lw_rws0 s22, lw_rws0 s23, lw_rws0 s24, fun k hk e j hj => ?_, fun k hk e j hj => ?_⟩, ⟨⟨Lesson_0, h2, lw_lq0⟩, rfl, rfl, rfl, Or.inl ⟨rfl, rfl⟩⟩, ⟨0, by omega, rfl, rfl, fun j hj => absurd hj (by omega)⟩⟩
  · exact absurd hj (by rw [lw_0 hk e]; omega)
  · exact absurd hj (by rw [lw_0 hk e]; omega)
theorem lw_L0 {ps : lwPS} {n1 n2 n3 : Nat} : lwL ps (One_0 n1 n2 n3) := ⟨fun i q h => (nomatch (show (none : Option Nat) = some q from h)), fun i q h => (nomatch (show (none : Option Nat) = some q from h))⟩
theorem lw_Q0 {u1 u2 u3 : LessonA} : lwQ [(u1, Lesson_0), (u2, Lesson_0), (u3, Lesson_0)] (Lessona_self u1) = some Lesson_0 ∧ lwQ [(u1, Lesson_0), (u2, Lesson_0), (u3, Lesson_0)] (Lessona_self u2) = some Lesson_0 := by
  refine ⟨if_pos rfl, ?_⟩
  show (if Lessona_self u2 = Lessona_self u1 then some Lesson_0 else if Lessona_self u2 = Lessona_self u2 then some Lesson_0 else _) = some Lesson_0
  by_cases h : Lessona_self u2 = Lessona_self u1
  · rw [if_pos h]
  · rw [if_neg h, if_pos rfl]
set_option maxRecDepth 100000 in
set_option maxHeartbeats 4000000 in
theorem whole_start {p : Program} {e : Env} {s : State} {m : MethodId} {below : List Frame} {meth : Method} {c : Code} (l : Launch) (hflags : l.flags = flags0) {b L : Nat} {xs : Nat → Int32} (hL : L ≤ 2560) (C0 : lw_At p s m meth c b L xs) : W p l e room_1 s m #[Value.ref b] below meth c s.heap [] 0 0 (lw_Z below #[Value.ref b] s) (entryFrame m ([Value.ref b] : List Value).toArray 4) := by
  obtain ⟨E, hK, hGl⟩ := lw_env C0
  have CC : lwG E p s m meth c b L xs := ⟨C0, hK, hGl, hL⟩
  obtain ⟨hx, hb, hr, hml, hown, hts, hX, hbl, hlocks, hgv⟩ := id C0
  have hA : ∀ q : Nat, s.heap.size ≤ q → (fun q : Nat => s.heap.size ≤ q) q := fun _ h => h
  have CF : CallFix p m c cL_law 4 s #[Value.ref b] wsL_law RL := ⟨hx, hb, hml, hown, fun w h => hts w (wsL_law_in w h)⟩
  have hS : va_S (fun q : Nat => s.heap.size ≤ q) s.heap s.heap [] := va_S.rf
  have hP : va_P E.1 vwCl [] s.heap := m_nil
  have hD : va_D (fun q : Nat => s.heap.size ≤ q) [] := ⟨fun i j p q h => by simp at h, fun k q h => by simp at h⟩
  have hl := lv_entry ([.ref b]) (n := 4) (Nat.le_of_ble_eq_true rfl)
  rw [lg_entry_eq]
  generalize (lg_sl ([.ref b]) ++ List.replicate (4 - (lg_sl ([.ref b])).length) Slot.unset).toArray = ls at hl ⊢
  have hl : lv_has ls 4 [(0, .ref b)] := hl
  refine va_new (ci := 7) (fs := [.null, .null, .int 0, .null, .null]) (C := RX7) (T := TX7) (N := 5) hx hb hts inX7 tyX7 tyX7_ok hown (hts (.classLink RL 7 RX7) (by decide +kernel)) (hts (.instantiable RX7 5) (by decide +kernel)) (hts (.initialized RX7) (by decide +kernel)) hK.1 hP hD hS hA rfl (by decide +kernel) (Nat.le_of_ble_eq_true rfl) (Nat.le_of_ble_eq_true rfl) dL_law_0 (fun q0 H hP hD hS => ?_)
  have hP : va_P E.1 vwCl ([(q0, .inr (7, [.null, .null, .int 0, .null, .null]))] : va_W) H := hP
  have hD : va_D (fun q : Nat => s.heap.size ≤ q) ([(q0, .inr (7, [.null, .null, .int 0, .null, .null]))] : va_W) := hD
  refine W.widen (k := 1) (n := 5) (Nat.le_of_ble_eq_true rfl) (Nat.le_of_ble_eq_true rfl) ?_
  refine lv_dup hx hb dL_law_3 rfl ?_
  obtain ⟨hPc, hDc, hF⟩ := m_pre (rest := []) (by rw [List.append_nil]) hP hD hS hA
  refine mIX (n := 0) (rest := [.ref q0]) (As := []) CF hK hGl (c_X7_init l E q0 _) gL_law_X7_init rfl ⟨rfl, rfl⟩ (hts (.initialized RX7) (by decide +kernel)) (hts (.methodLink RL 9 yX7_init) (by decide +kernel)) (hts (.instanceMethod yX7_init) (by decide +kernel)) rfl (by decide +kernel) ⟨Nat.le_of_ble_eq_true rfl, Nat.le_of_ble_eq_true rfl⟩ hPc hDc m_nil m_nilA hS hF rfl hl.1 rfl (Nat.le_of_ble_eq_true rfl) ⟨Nat.le_of_ble_eq_true rfl, Nat.le_of_ble_eq_true rfl⟩ dL_law_4 (fun u H locs hu hP1 hD1 hz1 hk1 hS => ?_)
  subst hu
  have hP := hP1
  have hD := m_back hD1 hF
  refine W.widen (k := 76) (n := 1052) (Nat.le_of_ble_eq_true rfl) (Nat.le_of_ble_eq_true rfl) ?_
  refine W.eq (g2 := F0 m 7 ls [.ref (Onea_self u.1)]) rfl ?_
  refine lv_astore_n (lv' := [(1, .ref (Onea_self u.1)), (0, .ref b)]) hx hb dL_law_7 rfl hl (by decide) rfl (fun ls hl => ?_)
  refine va_new (ci := 8) (fs := [.int 0, .null, .null, .null, .int 0, .int 0, .int 0, .int 0, .int 0, .int 0, .null, .null, .null, .int 0, .int 0, .null, .int 0, .int 0, .int 0, .int 0]) (C := RX8) (T := TX8) (N := 20) hx hb hts inX8 tyX8 tyX8_ok hown (hts (.classLink RL 10 RX8) (by decide +kernel)) (hts (.instantiable RX8 20) (by decide +kernel)) (hts (.initialized RX8) (by decide +kernel)) hK.1 hP hD hS hA rfl (by decide +kernel) (Nat.le_of_ble_eq_true rfl) (Nat.le_of_ble_eq_true rfl) dL_law_8 (fun q1 H hP hD hS => ?_)
  refine W.widen (k := 77) (n := 1072) (Nat.le_of_ble_eq_true rfl) (Nat.le_of_ble_eq_true rfl) ?_
  refine lv_dup hx hb dL_law_11 rfl ?_
  obtain ⟨hPc, hDc, hF⟩ := m_pre List.perm_append_comm hP hD hS hA
  refine mIX (n := 0) (rest := [.ref q1]) (As := []) CF hK hGl (c_X8_init l E q1 _) gL_law_X8_init rfl ⟨rfl, rfl⟩ (hts (.initialized RX8) (by decide +kernel)) (hts (.methodLink RL 12 yX8_init) (by decide +kernel)) (hts (.instanceMethod yX8_init) (by decide +kernel)) rfl (by decide +kernel) ⟨Nat.le_of_ble_eq_true rfl, Nat.le_of_ble_eq_true rfl⟩ hPc hDc m_nil m_nilA hS hF rfl hl.1 rfl (Nat.le_of_ble_eq_true rfl) ⟨Nat.le_of_ble_eq_true rfl, Nat.le_of_ble_eq_true rfl⟩ dL_law_12 (fun um H locs hu hP1 hD1 hz1 hk1 hS => ?_)
  subst hu
  have hpc : lwPc E [(u.2.1, Lesson_0), (u.2.2.1, Lesson_0), (u.2.2.2, Lesson_0)] = (Lesson_c E u.2.1 Lesson_0) ++ ((Lesson_c E u.2.2.1 Lesson_0) ++ (Lesson_c E u.2.2.2 Lesson_0)) := by
    unfold lwPc
    rw [List.flatMap_cons, List.flatMap_cons, List.flatMap_cons, List.flatMap_nil, List.append_nil]
  have hW : lwD E (fun q : Nat => s.heap.size ≤ q) u.1 (One_0 (Lessona_self u.2.1) (Lessona_self u.2.2.1) (Lessona_self u.2.2.2)) um Model_0 [(u.2.1, Lesson_0), (u.2.2.1, Lesson_0), (u.2.2.2, Lesson_0)] H := by
    refine m_spl List.perm_append_comm ?_ hP hD hk1 hF hP1 hD1
    rw [← hpc]
    exact lw_perm
  refine W.widen (k := 84 + 5 * 0) (n := 3200 + 132 * 0) (Nat.le_of_ble_eq_true rfl) (Nat.le_of_ble_eq_true rfl) ?_
  refine W.eq (g2 := F0 m 15 ls [.ref (Modela_self um)]) rfl ?_
  refine lv_astore_n (lv' := [(2, .ref (Modela_self um)), (1, .ref (Onea_self u.1)), (0, .ref b)]) hx hb dL_law_15 rfl hl (by decide) rfl (fun ls hl => ?_)
  refine lv_iconst (v := 0) hx hb dL_law_16 (by decide) ?_
  refine lv_istore_n (lv' := [(3, .int 0), (2, .ref (Modela_self um)), (1, .ref (Onea_self u.1)), (0, .ref b)]) hx hb dL_law_17 rfl hl (by decide) rfl (fun ls hl => ?_)
  exact lw_loop CC (L + 1) 0 (Nat.zero_le _) (by omega) _ _ _ H locs ls (lw_R0 lw_Q0.1 lw_Q0.2) lw_L0 hW hS (lv_sub hl [3, 2, 1, 0] rfl)
