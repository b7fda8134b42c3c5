/-! image, undo. -/
theorem lm_lt {s s' : Nat → Int32} {a : Nat} {z : LZ} (h : lm_in s a z) (hz : lz_ok z) (ha : a < 5) (he : ∀ j, j < 926 → s' j = s j) : lm_in s' a z := by
  have := lz_small hz
  exact ⟨by rw [he _ (by omega)]; exact h.1, fun j hj => by rw [he _ (by omega)]; exact h.2 j hj⟩
theorem x6_copy {x y : RowsV} {len o1 o2 c : Nat} {s : Nat → Int32} (hl : len < 100) (h : rws y len o1 o2 c s) (hx : Rows_len x = len) : ∃ x', fn_X6_copyFrom x y = some x' ∧ rws x' len o1 o2 c s ∧ Rows_size x' = Rows_size y ∧ ∀ k j, Rows_size y = nI k → k ≤ len → j < k → Rows_firsts x' j = Rows_firsts y j ∧ Rows_seconds x' j = Rows_seconds y j := by
  obtain ⟨h0, K, h1, h2, h3, h4⟩ := h
  have main : ∃ x', fn_X6_copyFrom x y = some x' ∧ Rows_len x' = len ∧ Rows_size x' = nI K ∧ ∀ j, j < K → Rows_firsts x' j = Rows_firsts y j ∧ Rows_seconds x' j = Rows_seconds y j := by
    refine n_loopI (fun f q (s : RowsV) => lp_X6_copyFrom_7 y f q s) (fun k s => Rows_len s = len ∧ Rows_size s = nI k ∧ ∀ j, j < k → Rows_firsts s j = Rows_firsts y j ∧ Rows_seconds s j = Rows_seconds y j) K (fun r => ∃ x', r = some x' ∧ Rows_len x' = len ∧ Rows_size x' = nI K ∧ ∀ j, j < K → Rows_firsts x' j = Rows_firsts y j ∧ Rows_seconds x' j = Rows_seconds y j) (fun f s hi => ⟨s, ?_, hi⟩) (fun f k s hk hi => ?_) m_N (Rows_size_s x 0) (by rw [m_N_val]; omega) ⟨hx, rfl, fun j hj => absurd hj (by omega)⟩
    · show st_X6_copyFrom_7 y _ _ _ = _
      unfold st_X6_copyFrom_7
      rw [h2, if_pos (nI_le (Nat.le_refl K) (by omega))]
    · obtain ⟨i1, i2, i3⟩ := hi
      refine ⟨rput s k (Rows_firsts y k) (Rows_seconds y k), ⟨i1, rfl, fun j hj => ?_⟩, ?_⟩
      · show upd (Rows_firsts s) k (Rows_firsts y k) j = _ ∧ upd (Rows_seconds s) k (Rows_seconds y k) j = _
        by_cases q : j = k
        · subst q; exact ⟨pk_us, pk_us⟩
        · rw [pk_un q, pk_un q]; exact i3 j (by omega)
      · show st_X6_copyFrom_7 y _ _ _ = _
        unfold st_X6_copyFrom_7
        rw [h2, if_neg (nI_ge hk (by omega)), h0, if_pos (mIn_nI (by omega) (by omega)), if_pos (mIn_nI (by omega) (by omega)), q_n (by omega), x6_add _ _ i1 i2 (by omega) hl, m_bind_some, ← nI_succ]
  obtain ⟨x', a1, a2, a3, a4⟩ := main
  refine ⟨x', a1, ⟨a2, K, h1, a3, h3, fun j hj => ?_⟩, a3.trans h2.symm, fun k j hk hkl hj => ?_⟩
  · rw [(a4 j hj).1, (a4 j hj).2]
    exact h4 j hj
  · have : k = K := (nI_eq (by omega) (by omega)).mp (hk.symm.trans h2)
    subst this
    exact a4 j hj
theorem allB_ok {f : Nat → Int32} (h : ∀ j, j < 100 → ∃ c, c < 128 ∧ f j = nI c) : m_allB f 100 = true := by
  unfold m_allB
  rw [List.all_eq_true]
  intro j hj
  have hj2 : j < 100 := by
    have := List.mem_range.mp hj
    have e : (100 : Int32).toNatClampNeg = 100 := by decide
    omega
  obtain ⟨c, hc, he⟩ := h j hj2
  rw [he]
  have : ∀ c, c < 128 → fits .byte (.int (nI c)) = true := by decide +kernel
  exact this c hc
/-- a room copied holds the same -/
theorem x5_copy {Q : Nat → Option LessonV} {n : Nat} {r img : RoomV} {s s' : Nat → Int32} (h : rr Q n r s) (hi : rn Q img ∧ Rows_len (Room_seen img) = 5 ∧ Rows_len (Room_plan img) = 8 ∧ Rows_len (Room_book img) = 8) (he : ∀ j, j < 926 → s' j = s j) : ∃ r', fn_X5_copyFrom img r = some r' ∧ rr Q n r' s' := by
  obtain ⟨hg, ht, hl, hn, hs, hp, hb, hpe, hbe⟩ := h
  have hn6 := hg.2.1.1
  obtain ⟨g, a1, a2⟩ := x2_copyFrom (n := n) (Room_group img) (Room_group r) hg.2.1.2.1 hn6 (fun k hk => (hg.2.1.2.2 k hk).1)
  obtain ⟨t, t1, t2, t3, t4, t5⟩ := ht
  obtain ⟨x1, b1, b2, b3, b4⟩ := x6_copy (x := Room_seen img) (by omega) hs hi.2.1
  obtain ⟨x2, c1, c2, c3, c4⟩ := x6_copy (x := Room_plan img) (by omega) hp hi.2.2.1
  obtain ⟨x3, d1, d2, d3, d4⟩ := x6_copy (x := Room_book img) (by omega) hb hi.2.2.2
  let base : RoomV := Room_signs_s (Room_tape_s (Room_group_s img g) (va_cpy (Room_tape r) (Room_tape img) (0 : Int32).toNatClampNeg (0 : Int32).toNatClampNeg (100 : Int32).toNatClampNeg)) (Room_signs r)
  have hL : ∀ J : RoomV → Option RoomV, ∃ ls, lp_X5_copyFrom_36 r J m_N 0 base = J (Room_lessons_s base ls) ∧ ∀ i, i < 5 → ls i = Room_lessons r i := by
    intro J
    refine n_loopI (fun f y (s : RoomV) => lp_X5_copyFrom_36 r J f y s) (fun k s => ∃ ls, s = Room_lessons_s base ls ∧ ∀ i, i < k → ls i = Room_lessons r i) 5 (fun q => ∃ ls, q = J (Room_lessons_s base ls) ∧ ∀ i, i < 5 → ls i = Room_lessons r i) (fun f s hi => ?_) (fun f k s hk hi => ?_) m_N base (by rw [m_N_val]; omega) ⟨Room_lessons img, rfl, fun i hi => absurd hi (by omega)⟩
    · obtain ⟨ls, rfl, i2⟩ := hi
      refine ⟨ls, ?_, i2⟩
      show st_X5_copyFrom_36 r J _ _ _ = _
      unfold st_X5_copyFrom_36
      rw [if_pos (show (5 : Int32) ≤ nI 5 by decide)]
    · obtain ⟨ls, rfl, i2⟩ := hi
      refine ⟨Room_lessons_s base (va_up ls k (Room_lessons r k)), ⟨_, rfl, fun i hi => ?_⟩, ?_⟩
      · show (if i = k then Room_lessons r k else ls i) = _
        by_cases q : i = k
        · rw [if_pos q, q]
        · rw [if_neg q]; exact i2 i (by omega)
      · show st_X5_copyFrom_36 r J _ _ _ = _
        unfold st_X5_copyFrom_36
        rw [if_neg (show ¬ (5 : Int32) ≤ nI k from nI_ge (b := 5) hk (by omega)), if_pos (mIn_nI (by omega) (by omega)), if_pos (mIn_nI (by omega) (by omega)), q_n (by omega), ← nI_succ]
        simp only [mIn_nI (show k < 5 from hk) (by omega), if_true]
        cases Room_lessons r k <;> rfl
  obtain ⟨ls, e1, e2⟩ := hL (fun (wx_59 : RoomV) => (Option.bind (fn_X6_copyFrom (Room_seen wx_59) (Room_seen r)) (fun t3 => (Option.bind (fn_X6_copyFrom (Room_plan wx_59) (Room_plan r)) (fun t4 => (Option.bind (fn_X6_copyFrom (Room_book wx_59) (Room_book r)) (fun t5 => some (Room_book_s (Room_plan_s (Room_seen_s (Room_lessonCount_s wx_59 (Room_lessonCount r)) t3) t4) t5))))))))
  refine ⟨Room_book_s (Room_plan_s (Room_seen_s (Room_lessonCount_s (Room_lessons_s base ls) (Room_lessonCount r)) x1) x2) x3, ?_, ?_⟩
  · unfold fn_X5_copyFrom
    rw [a1, m_bind_some, if_pos (allB_ok t5), m_jp_eq]
    refine e1.trans ?_
    show Option.bind (fn_X6_copyFrom (Room_seen img) (Room_seen r)) (fun t3 => Option.bind (fn_X6_copyFrom (Room_plan img) (Room_plan r)) _) = _
    rw [b1, m_bind_some]
    show Option.bind (fn_X6_copyFrom (Room_plan img) (Room_plan r)) (fun t4 => Option.bind (fn_X6_copyFrom (Room_book img) (Room_book r)) _) = _
    rw [c1, m_bind_some]
    show Option.bind (fn_X6_copyFrom (Room_book img) (Room_book r)) _ = _
    rw [d1, m_bind_some]
  · have hc : (100 : Int32).toNatClampNeg = 100 := by decide
    refine ⟨?_, ⟨t, t1, t2, (he 25 (by omega)).trans t3, fun j hj => ?_, fun j hj => ?_⟩, ?_, hi.1, rws_same b2 (fun j hj => he j (by omega)), rws_same c2 (fun j hj => he j (by omega)), rws_same d2 (fun j hj => he j (by omega)), ?_, ?_⟩
    · exact rg_same (r := Room_group_s r g) ⟨ag_trans (ag_symm a2) hg.1, gr_ag a2 hg.2⟩ (fun j hj => he j (by omega))
    · rw [he _ (by omega), t4 j hj]
      show _ = va_cpy (Room_tape r) (Room_tape img) (0 : Int32).toNatClampNeg (0 : Int32).toNatClampNeg (100 : Int32).toNatClampNeg j
      rw [hc, q_c0, cpy_at (by omega)]
    · show ∃ c, c < 128 ∧ va_cpy (Room_tape r) (Room_tape img) (0 : Int32).toNatClampNeg (0 : Int32).toNatClampNeg (100 : Int32).toNatClampNeg j = nI c
      rw [hc, q_c0, cpy_at hj]
      exact t5 j hj
    · obtain ⟨L, l1, l2, l3, l4, l5⟩ := hl
      refine ⟨L, l1, l2, (he 21 (by omega)).trans l3, (he 26 (by omega)).trans l4, fun i hi => ?_⟩
      obtain ⟨a, le, z, γ, f, g1, g2, g3, g4, g5, g6, g7⟩ := l5 i hi
      exact ⟨a, le, z, γ, f, (e2 i (by omega)).trans g1, g2, g3, g4, lm_lt g5 g3.2.1 (by omega) he, (he _ (by omega)).trans g6, (he _ (by omega)).trans g7⟩
    · intro k hk hke j hj
      have hke : Rows_size x2 = nI k := hke
      rw [c3] at hke
      obtain ⟨w, w1, w2, w3⟩ := hpe k hk hke j hj
      obtain ⟨f1, f2⟩ := c4 k j hke hk hj
      exact ⟨w, w1, f1.trans w2, fun z => by
        obtain ⟨p, p1, p2⟩ := w3 z
        exact ⟨p, p1, f2.trans p2⟩⟩
    · intro k hk hke j hj
      have hke : Rows_size x3 = nI k := hke
      rw [d3] at hke
      obtain ⟨p, p1, p2⟩ := hbe k hk hke j hj
      obtain ⟨f1, f2⟩ := d4 k j hke hk hj
      exact ⟨p, p1, f1.trans p2⟩
section IM
variable {Q : Nat → Option LessonV} {v : OneV} {m : ModelV}
theorem rr_len {n : Nat} {r : RoomV} {s : Nat → Int32} (h : rr Q n r s) : rn Q r ∧ Rows_len (Room_seen r) = 5 ∧ Rows_len (Room_plan r) = 8 ∧ Rows_len (Room_book r) = 8 := by
  obtain ⟨hg, ht, hl, hn, hs, hp, hb, hpe, hbe⟩ := h
  exact ⟨hn, hs.1, hp.1, hb.1⟩
theorem sim_image (h : R Q v m) : SIM Q (fn_X7_image v) (fn_X8_image m) := by
  obtain ⟨⟨n, hr⟩, hi, ha⟩ := h
  have eg : Group_size (Room_group (One_now v)) = nI n := hr.1.2.1.2.1
  have e20 : Model_s m 20 = nI n := hr.1.1.1.trans eg
  have hM : ∃ im, lp_X8_image_2 (fun (wx_27 : ModelV) => (if mIn 20 926 = true then some (((Model_s wx_27) (20 : Int32).toNatClampNeg), (Model_hasImage_s wx_27 1)) else none)) m_N 0 m = some (nI n, Model_hasImage_s (Model_image_s m im) 1) ∧ ∀ j, j < 926 → im j = Model_s m j := by
    refine n_loopI (fun f y (s : ModelV) => lp_X8_image_2 _ f y s) (fun k s => ∃ im, s = Model_image_s m im ∧ ∀ j, j < k → im j = Model_s m j) 926 (fun r => ∃ im, r = some (nI n, Model_hasImage_s (Model_image_s m im) 1) ∧ ∀ j, j < 926 → im j = Model_s m j) (fun f s hi => ?_) (fun f k s hk hi => ?_) m_N m (by rw [m_N_val]; omega) ⟨Model_image m, rfl, fun j hj => absurd hj (by omega)⟩
    · obtain ⟨im, rfl, i2⟩ := hi
      refine ⟨im, ?_, i2⟩
      show st_X8_image_2 _ _ _ _ = _
      unfold st_X8_image_2
      rw [if_pos (show (926 : Int32) ≤ nI 926 by decide)]
      show (if mIn 20 926 = true then some ((Model_s m) (20 : Int32).toNatClampNeg, _) else none) = _
      rw [if_pos q_j20, q_c20, e20]
    · obtain ⟨im, rfl, i2⟩ := hi
      refine ⟨Model_image_s m (upd im k (Model_s m k)), ⟨_, rfl, fun j hj => ?_⟩, ?_⟩
      · by_cases q : j = k
        · subst q; exact pk_us
        · rw [pk_un q]; exact i2 j (by omega)
      · show st_X8_image_2 _ _ _ _ = _
        unfold st_X8_image_2
        rw [if_neg (show ¬ (926 : Int32) ≤ nI k from nI_ge (b := 926) hk (by omega)), if_pos (mIn_nI hk (by omega)), if_pos (mIn_nI hk (by omega)), q_n (by omega), ← nI_succ]
  obtain ⟨im, a1, a2⟩ := hM
  obtain ⟨h1, h2, h3, h4, h5⟩ := hi
  obtain ⟨r', b1, b2⟩ := x5_copy (img := One_image v) hr ⟨h1, h2, h3, h4⟩ a2
  refine ⟨nI n, One_imageIsTaken_s (One_image_s v r') 1, Model_hasImage_s (Model_image_s m im) 1, ?_, ?_, ⟨n, hr⟩, ?_, ha⟩
  · unfold fn_X7_image
    rw [b1, m_bind_some, eg]
  · unfold fn_X8_image
    rw [m_jp_eq]
    exact a1
  · obtain ⟨c1, c2, c3, c4⟩ := rr_len b2
    exact ⟨c1, c2, c3, c4, Or.inr ⟨rfl, rfl, n, b2⟩⟩
theorem sim_undo (h : R Q v m) : SIM Q (fn_X7_undo v) (fn_X8_undo m) := by
  have h0 := h
  obtain ⟨⟨n, hr⟩, ⟨h1, h2, h3, h4, h5⟩, ha⟩ := h
  unfold fn_X7_undo fn_X8_undo
  rcases h5 with ⟨t1, t2⟩ | ⟨t1, t2, n', hr'⟩
  · have t2 : Model_hasImage m = 0 := t2
    rw [t1, t2, if_neg n00, if_neg n00]
    exact ⟨_, v, m, rfl, rfl, h0⟩
  · have t2 : Model_hasImage m = 1 := t2
    have hr'' : rr Q n' (One_image v) (Model_image m) := hr'
    have eg : Group_size (Room_group (One_image v)) = nI n' := hr''.1.2.1.2.1
    have hM : ∃ s, lp_X8_undo_12 (fun (wx_37 : ModelV) => (if mIn 20 926 = true then some (((Model_s wx_37) (20 : Int32).toNatClampNeg), wx_37) else none)) m_N 0 m = some (nI n', Model_s_s m s) ∧ ∀ j, j < 926 → s j = Model_image m j := by
      refine n_loopI (fun f y (s : ModelV) => lp_X8_undo_12 _ f y s) (fun k w => ∃ s, w = Model_s_s m s ∧ ∀ j, j < k → s j = Model_image m j) 926 (fun r => ∃ s, r = some (nI n', Model_s_s m s) ∧ ∀ j, j < 926 → s j = Model_image m j) (fun f w hi => ?_) (fun f k w hk hi => ?_) m_N m (by rw [m_N_val]; omega) ⟨Model_s m, rfl, fun j hj => absurd hj (by omega)⟩
      · obtain ⟨s, rfl, i2⟩ := hi
        refine ⟨s, ?_, i2⟩
        show st_X8_undo_12 _ _ _ _ = _
        unfold st_X8_undo_12
        rw [if_pos (show (926 : Int32) ≤ nI 926 by decide)]
        show (if mIn 20 926 = true then some (s (20 : Int32).toNatClampNeg, _) else none) = _
        rw [if_pos q_j20, q_c20, i2 20 (by omega), show Model_image m 20 = nI n' from hr''.1.1.1.trans eg]
      · obtain ⟨s, rfl, i2⟩ := hi
        refine ⟨Model_s_s m (upd s k (Model_image m k)), ⟨_, rfl, fun j hj => ?_⟩, ?_⟩
        · by_cases q : j = k
          · subst q; exact pk_us
          · rw [pk_un q]; exact i2 j (by omega)
        · show st_X8_undo_12 _ _ _ _ = _
          unfold st_X8_undo_12
          rw [if_neg (show ¬ (926 : Int32) ≤ nI k from nI_ge (b := 926) hk (by omega)), if_pos (mIn_nI hk (by omega)), if_pos (mIn_nI hk (by omega)), q_n (by omega), ← nI_succ]
    obtain ⟨s, a1, a2⟩ := hM
    obtain ⟨r', b1, b2⟩ := x5_copy (img := One_now v) hr'' (rr_len hr) a2
    rw [t1, t2, if_pos n10, if_pos n10, b1, m_bind_some, m_jp_eq, a1, b2.1.2.1.2.1]
    exact ⟨nI n', _, _, rfl, rfl, ⟨n', b2⟩, ⟨h1, h2, h3, h4, Or.inr ⟨t1, t2, n', hr'⟩⟩, ha⟩
end IM
