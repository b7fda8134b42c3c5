/-! The relation between the class's cells and the reference's. -/
def rg (n : Nat) (r : RoomV) (s : Nat → Int32) : Prop := ag n (Room_group r) (sv s) ∧ gr n (Room_group r)
def rt (r : RoomV) (s : Nat → Int32) : Prop := ∃ t, t ≤ 100 ∧ Room_signs r = nI t ∧ s 25 = nI t ∧ (∀ j, j < t → s (111 + j) = Room_tape r j) ∧ ∀ j, j < 100 → ∃ c, c < 128 ∧ Room_tape r j = nI c
def rlx (Q : Nat → Option LessonV) (r : RoomV) (s : Nat → Int32) (i : Nat) : Prop := ∃ a le z γ f, Room_lessons r i = some a ∧ Q a = some le ∧ lq le z (nI γ) f ∧ γ < 100 ∧ lm_in s i z ∧ s (211 + i) = nI γ ∧ s (216 + i) = nI f
def rl (Q : Nat → Option LessonV) (r : RoomV) (s : Nat → Int32) : Prop := ∃ L, L ≤ 5 ∧ Room_lessonCount r = nI L ∧ s 21 = nI L ∧ s 26 = (if L = 0 then -1 else nI (L - 1)) ∧ ∀ i, i < L → rlx Q r s i
def rn (Q : Nat → Option LessonV) (r : RoomV) : Prop := ∃ le, Q (Room_none r) = some le ∧ lq le [] (nI 60) 2
def rws (x : RowsV) (len o1 o2 c : Nat) (s : Nat → Int32) : Prop := Rows_len x = len ∧ ∃ k, k ≤ len ∧ Rows_size x = nI k ∧ s c = nI k ∧ ∀ j, j < k → s (o1 + j) = Rows_firsts x j ∧ s (o2 + j) = Rows_seconds x j
def pe (n : Nat) (x : RowsV) : Prop := ∀ k, k ≤ 8 → Rows_size x = nI k → ∀ j, j < k → ∃ w, w ≤ 3 ∧ Rows_firsts x j = nI w ∧ (w ≠ 0 → ∃ p, p < n ∧ Rows_seconds x j = nI p)
def be (n : Nat) (x : RowsV) : Prop := ∀ k, k ≤ 8 → Rows_size x = nI k → ∀ j, j < k → ∃ p, p < n ∧ Rows_firsts x j = nI p
def rr (Q : Nat → Option LessonV) (n : Nat) (r : RoomV) (s : Nat → Int32) : Prop := rg n r s ∧ rt r s ∧ rl Q r s ∧ rn Q r ∧ rws (Room_seen r) 5 69 74 22 s ∧ rws (Room_plan r) 8 79 87 23 s ∧ rws (Room_book r) 8 95 103 24 s ∧ pe n (Room_plan r) ∧ be n (Room_book r)
def rim (Q : Nat → Option LessonV) (r : RoomV) (tk : Int32) (c : (Nat → Int32) × Int32 × (Nat → Int32) × Int32 × Int32 × Int32) : Prop := rn Q r ∧ Rows_len (Room_seen r) = 5 ∧ Rows_len (Room_plan r) = 8 ∧ Rows_len (Room_book r) = 8 ∧ (tk = 0 ∧ c.2.1 = 0 ∨ tk = 1 ∧ c.2.1 = 1 ∧ ∃ n, rr Q n r c.1)
def rac (a : ActsV) (c : (Nat → Int32) × Int32 × (Nat → Int32) × Int32 × Int32 × Int32) : Prop := ∃ k, k ≤ 30 ∧ Acts_ran a = nI k ∧ c.2.2.2.1 = nI k ∧ ∀ j, j < k → j < 20 → Acts_kept a j = c.2.2.1 j
def RR (Q : Nat → Option LessonV) (now img : RoomV) (tk : Int32) (a : ActsV) (s : Nat → Int32) (c : (Nat → Int32) × Int32 × (Nat → Int32) × Int32 × Int32 × Int32) : Prop := (∃ n, rr Q n now s) ∧ rim Q img tk c ∧ rac a c
/-- the relation -/
def R (Q : Nat → Option LessonV) (v : OneV) (m : ModelV) : Prop := RR Q (One_now v) (One_image v) (One_imageIsTaken v) (One_acts v) (Model_s m) (core m)
theorem R_4 {Q : Nat → Option LessonV} {v v' : OneV} {m m' : ModelV} (h : R Q v m) (e0 : Model_s m' = Model_s m) (c1 : Model_image m' = Model_image m) (c2 : Model_hasImage m' = Model_hasImage m) (c3 : Model_bodies m' = Model_bodies m) (c4 : Model_ran m' = Model_ran m) (e1 : One_now v' = One_now v) (e2 : One_image v' = One_image v) (e3 : One_imageIsTaken v' = One_imageIsTaken v) (e4 : One_acts v' = One_acts v) : R Q v' m' := by
  unfold R RR rim rac core at h ⊢
  rw [e0, c1, c2, c3, c4, e1, e2, e3, e4]
  exact h
/-- two answers, and the relation behind them -/
def SIM (Q : Nat → Option LessonV) (x : Option (Int32 × OneV)) (y : Option (Int32 × ModelV)) : Prop := ∃ a v' m', x = some (a, v') ∧ y = some (a, m') ∧ R Q v' m'
def SIML (Q : Nat → Option LessonV) (x : Option (Int64 × OneV)) (y : Option (Int64 × ModelV)) : Prop := ∃ a v' m', x = some (a, v') ∧ y = some (a, m') ∧ R Q v' m'
/-- where nothing changes -/
def SIP (x y : Option Int32) : Prop := ∃ a, x = some a ∧ y = some a
/-- the lesson that is asked -/
def HL (Q : Nat → Option LessonV) (r : RoomV) (s : Nat → Int32) (ea : Nat) (le : LessonV) : Prop := fn_X5_lesson r = some ea ∧ Q ea = some le ∧ ∃ z γ f, γ < 100 ∧ lq le z (nI γ) f ∧ lh s z (nI γ) (nI f)
section RL
variable {Q : Nat → Option LessonV} {n : Nat} {r : RoomV} {s s' : Nat → Int32}
theorem rg_same (h : rg n r s) (e : ∀ j, j ≤ 20 ∨ (27 ≤ j ∧ j < 69) → s' j = s j) : rg n r s' := by
  obtain ⟨a, b⟩ := h
  have hn := b.1.1
  refine ⟨⟨(e 20 (by omega)).trans a.1, (e 0 (by omega)).trans a.2.1, (e 1 (by omega)).trans a.2.2.1, fun k hk => ⟨⟨(e (27 + k) (by omega)).trans (ag_kinds a hk), (e (33 + k) (by omega)).trans (ag_vs a hk), (e (39 + k) (by omega)).trans (ag_skills a hk), (e (8 + k) (by omega)).trans (ag_wills a hk), (e (2 + k) (by omega)).trans (ag_hours a hk), (e (14 + k) (by omega)).trans (ag_outs a hk)⟩, fun i hi => (e (45 + (4 * k + i)) (by omega)).trans (ag_rows a hk hi)⟩⟩, b⟩
theorem rt_same (h : rt r s) (e : ∀ j, j = 25 ∨ (111 ≤ j ∧ j < 211) → s' j = s j) : rt r s' := by
  obtain ⟨t, h1, h2, h3, h4, h5⟩ := h
  exact ⟨t, h1, h2, (e 25 (by omega)).trans h3, fun j hj => (e _ (by omega)).trans (h4 j hj), h5⟩
theorem rlx_same {i : Nat} (h : rlx Q r s i) (e : ∀ j, 211 ≤ j → s' j = s j) : rlx Q r s' i := by
  obtain ⟨a, le, z, γ, f, h1, h2, h3, h4, h5, h6, h7⟩ := h
  exact ⟨a, le, z, γ, f, h1, h2, h3, h4, lm_same h5 (fun j hj => e j (by omega)), (e _ (by omega)).trans h6, (e _ (by omega)).trans h7⟩
theorem rl_same (h : rl Q r s) (e : ∀ j, j = 21 ∨ j = 26 ∨ 211 ≤ j → s' j = s j) : rl Q r s' := by
  obtain ⟨L, h1, h2, h3, h4, h5⟩ := h
  exact ⟨L, h1, h2, (e 21 (by omega)).trans h3, (e 26 (by omega)).trans h4, fun i hi => rlx_same (h5 i hi) (fun j hj => e j (by omega))⟩
theorem rws_same {x : RowsV} {len o1 o2 c : Nat} (h : rws x len o1 o2 c s) (e : ∀ j, j = c ∨ (o1 ≤ j ∧ j < o1 + len) ∨ (o2 ≤ j ∧ j < o2 + len) → s' j = s j) : rws x len o1 o2 c s' := by
  obtain ⟨h0, k, h1, h2, h3, h4⟩ := h
  exact ⟨h0, k, h1, h2, (e c (by omega)).trans h3, fun j hj => ⟨(e _ (by omega)).trans (h4 j hj).1, (e _ (by omega)).trans (h4 j hj).2⟩⟩
theorem room_lesson (hl : rl Q r s) (hn : rn Q r) : ∃ ea le, HL Q r s ea le := by
  obtain ⟨L, h1, h2, h3, h4, h5⟩ := hl
  by_cases q : L = 0
  · subst q
    obtain ⟨le, a1, a2⟩ := hn
    refine ⟨Room_none r, le, ?_, a1, [], 60, 2, by omega, a2, Or.inl ⟨h4, rfl, rfl, rfl⟩⟩
    unfold fn_X5_lesson
    rw [h2, m_jp_eq, if_pos (show nI 0 < 1 by decide)]
  · obtain ⟨a, le, z, γ, f, g1, g2, g3, g4, g5, g6, g7⟩ := h5 (L - 1) (by omega)
    rw [if_neg q] at h4
    refine ⟨a, le, ?_, g2, z, γ, f, g4, g3, Or.inr ⟨L - 1, by omega, h4, g5, g6, g7⟩⟩
    unfold fn_X5_lesson
    have e : nI L - 1 = nI (L - 1) := pk_sub (b := 1) (by omega)
    rw [h2, m_jp_eq, if_neg (show ¬ nI L < 1 from nI_nlt (b := 1) (by omega) (by omega)), if_pos (show nI L ≤ 5 from nI_le (b := 5) h1 (by omega)), e, if_pos (mIn_nI (by omega) (by omega)), q_n (by omega), g1]
    rfl
theorem in_yes {j hi : Nat} (h : j ≤ hi) (hh : hi < 2 ^ 31) : fn_X8_in (nI j) 0 (nI hi) = some 1 := by
  rw [x8_in, if_pos ⟨nI_pos0 (by omega), nI_le h hh⟩]
theorem in_no {j hi : Nat} (h : hi < j) (hh : j < 2 ^ 31) : fn_X8_in (nI j) 0 (nI hi) = some 0 := by
  rw [x8_in, if_neg (fun q => nI_ge h hh q.2)]
theorem in_neg {x hi : Int32} (h : x < 0) : fn_X8_in x 0 hi = some 0 := by
  rw [x8_in, if_neg (fun q => absurd h (Int32.not_lt.mpr q.1))]
theorem pupil_c {v : OneV} {m : ModelV} (hg : rg n (One_now v) (Model_s m)) (x : Int32) : (∃ p, p < n ∧ x = nI p ∧ fn_X7_isPupil v x = some 1 ∧ fn_X8_isPupil m x = some 1) ∨ (fn_X7_isPupil v x = some 0 ∧ fn_X8_isPupil m x = some 0) := by
  have hn := hg.2.1.1
  have e1 : Group_size (Room_group (One_now v)) = nI n := hg.2.1.2.1
  have e2 : Model_s m 20 = nI n := hg.1.1.trans e1
  have hm : (nI n - 1).toInt = (n : Int) - 1 := pk_sub_toInt (a := n) (b := 1) (by omega) (by omega)
  unfold fn_X7_isPupil fn_X8_isPupil
  rw [e1, if_pos q_j20, q_c20, e2, x8_in]
  rcases c_cases x with h | ⟨j, hj, rfl⟩
  · refine Or.inr ⟨if_pos h, ?_⟩
    rw [if_neg (fun q => absurd h (Int32.not_lt.mpr q.1))]
    rfl
  · by_cases q : j < n
    · refine Or.inl ⟨j, q, rfl, ?_, ?_⟩
      · rw [if_neg (nI_pos hj), if_neg (nI_ge q (by omega)), if_neg (show ¬ (6 : Int32) ≤ nI j from nI_ge (b := 6) (by omega) (by omega))]
      · rw [if_pos ⟨nI_pos0 hj, by rw [Int32.le_iff_toInt_le, hm, nI_toInt hj]; omega⟩]
        rfl
    · refine Or.inr ⟨?_, ?_⟩
      · rw [if_neg (nI_pos hj), if_pos (nI_le (by omega) hj)]
      · rw [if_neg (fun z => by
          have := z.2
          rw [Int32.le_iff_toInt_le, hm, nI_toInt hj] at this
          omega)]
        rfl
end RL
