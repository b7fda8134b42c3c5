/-! act. -/
def AA (κ i w : Int32) (k : Nat) (m0 : ModelV) (a : ActsV) (m : ModelV) : Prop := Acts_ran a = nI k ∧ Model_ran m = nI k ∧ (∀ j, j < k → j < 20 → Acts_kept a j = Model_bodies m j) ∧ (Acts_kind a = κ ∧ Model_kind m = κ) ∧ (Acts_i a = i ∧ Model_number m = i) ∧ (Acts_v a = w ∧ Model_tellsV m = w) ∧ Model_s m = Model_s m0 ∧ Model_image m = Model_image m0 ∧ Model_hasImage m = Model_hasImage m0
def RUN (κ i w : Int32) (m0 : ModelV) (B : Nat) (x : Option (Int32 × ActsV)) (y : Option (Int32 × ModelV)) : Prop := ∃ r a' m' k', x = some (r, a') ∧ y = some (r, m') ∧ k' ≤ B ∧ AA κ i w k' m0 a' m'
theorem iu : ∀ x, x < 7 → fn_X8_isUnder (nI x) 1 = some (if x = 1 ∨ x = 4 then 1 else 0) ∧ fn_X8_isUnder (nI x) 2 = some (if x = 2 ∨ x = 5 then 1 else 0) ∧ fn_X8_isUnder (nI x) 3 = some (if x = 3 ∨ x = 6 then 1 else 0) := by decide +kernel
/-- how deep an act's body is -/
def DP (c : Nat) (z : Int32) : Prop := z = nI c ∧ c ≤ 9
theorem DP.le {c : Nat} {z : Int32} (h : DP c z) : z ≤ 9 := by
  obtain ⟨rfl, h2⟩ := h
  exact (nI_leI (b := 9) (by omega) (by omega)).mpr h2
theorem DP.up {c : Nat} {z : Int32} (h : DP c z) (hc : c + 1 ≤ 9) : DP (c + 1) (z + 1) := by
  obtain ⟨rfl, h2⟩ := h
  exact ⟨nI_1 c, hc⟩
section AC
variable {κ i w z : Int32} {k c : Nat} {m0 m : ModelV} {a : ActsV}
theorem aa_begin (h : AA κ i w k m0 a m) (hk : k < 30) (b : Int32) : ∃ a' m', fn_X0_begins a b = some a' ∧ fn_X8_ranBody m b = some m' ∧ AA κ i w (k + 1) m0 a' m' := by
  obtain ⟨h1, h2, h3, h4, h5, h6, h7, h8, h9⟩ := h
  by_cases q : 20 ≤ k
  · refine ⟨Acts_ran_s a (nI (k + 1)), Model_ran_s m (nI (k + 1)), ?_, ?_, rfl, rfl, fun j hj hj2 => h3 j (by omega) hj2, h4, h5, h6, h7, h8, h9⟩
    · unfold fn_X0_begins
      rw [m_jp_eq, h1, if_neg (nI_pos (by omega)), if_pos (show Int32.ofNat 20 ≤ nI k from nI_le q (by omega))]
      show some (Acts_ran_s a (Acts_ran a + 1)) = _
      rw [h1, nI_1]
    · unfold fn_X8_ranBody
      rw [m_jp_eq, h2, if_pos (show (20 : Int32) ≤ nI k from nI_le (a := 20) q (by omega))]
      show some (Model_ran_s m (Model_ran m + 1)) = _
      rw [h2, nI_1]
  · refine ⟨Acts_ran_s (Acts_kept_s a (upd (Acts_kept a) k b)) (nI (k + 1)), Model_ran_s (Model_bodies_s m (upd (Model_bodies m) k b)) (nI (k + 1)), ?_, ?_, rfl, rfl, fun j hj hj2 => ?_, h4, h5, h6, h7, h8, h9⟩
    · unfold fn_X0_begins
      rw [m_jp_eq, h1, if_neg (nI_pos (by omega)), if_neg (show ¬ Int32.ofNat 20 ≤ nI k from nI_ge (by omega) (by omega)), if_pos (mIn_nI (by omega) (by omega)), q_n (by omega)]
      show some (Acts_ran_s _ (Acts_ran a + 1)) = _
      rw [h1, nI_1]
    · unfold fn_X8_ranBody
      rw [m_jp_eq, h2, if_neg (show ¬ (20 : Int32) ≤ nI k from nI_ge (b := 20) (by omega) (by omega)), if_pos (mIn_nI (by omega) (by omega)), q_n (by omega)]
      show some (Model_ran_s _ (Model_ran m + 1)) = _
      rw [h2, nI_1]
    · show upd (Acts_kept a) k b j = upd (Model_bodies m) k b j
      by_cases q2 : j = k
      · subst q2; rw [pk_us, pk_us]
      · rw [pk_un q2, pk_un q2]; exact h3 j (by omega) hj2
/-- the plain body -/
theorem th_plain (h : AA κ i w k m0 a m) (hk : k < 30) (y : Int32) : RUN κ i w m0 (k + 1) (Option.bind (fn_X0_begins a 1) (fun t1 => some ((y + (Acts_i t1)), t1))) (fn_X8_plainThinks m y) := by
  obtain ⟨a', m', h1, h2, h3⟩ := aa_begin h hk 1
  unfold fn_X8_plainThinks
  rw [h1, h2, m_bind_some, m_bind_some, h3.2.2.2.2.1.1, h3.2.2.2.2.1.2]
  exact ⟨_, a', m', k + 1, rfl, rfl, Nat.le_refl _, h3⟩
theorem th_0 (d : Nat) (a : ActsV) (y z : Int32) (hz : z ≤ 9) (x : Nat) (hx : x = 0 ∨ x = 2 ∨ x = 3 ∨ x = 6) : fn_X0_thinks (d + 1) a (nI x) y z = Option.bind (fn_X0_begins a 1) (fun t1 => some ((y + (Acts_i t1)), t1)) := by
  show bd_X0_thinks (gr_Tk d) a (nI x) y z = _
  unfold bd_X0_thinks
  rw [if_pos hz]
  rcases hx with rfl | rfl | rfl | rfl <;> rfl
theorem th_1 (d : Nat) (a : ActsV) (y z : Int32) (hz : z ≤ 9) (x : Nat) (hx : x = 1 ∨ x = 4) : fn_X0_thinks (d + 1) a (nI x) y z = Option.bind (fn_X0_begins a 11) (fun t2 => (Option.bind (fn_X0_thinks d t2 (nI 0) (y * 3) (z + 1)) (fun t3 => some (t3.1, t3.2)))) := by
  show bd_X0_thinks (gr_Tk d) a (nI x) y z = _
  unfold bd_X0_thinks
  rw [if_pos hz]
  rcases hx with rfl | rfl <;> rfl
theorem th_5 (d : Nat) (a : ActsV) (y z : Int32) (hz : z ≤ 9) : fn_X0_thinks (d + 1) a (nI 5) y z = Option.bind (fn_X0_begins a 51) (fun t9 => (Option.bind (fn_X0_thinks d t9 (nI 2) y (z + 1)) (fun t10 => some ((t10.1 ^^^ (Acts_i t10.2)), t10.2)))) := by
  show bd_X0_thinks (gr_Tk d) a (nI 5) y z = _
  unfold bd_X0_thinks
  rw [if_pos hz]
  rfl
theorem th_kind {x : Nat} (hz : DP c z) (hc : c + 1 ≤ 9) (hx : x < 7) (h : AA (nI x) i w k m0 a m) (hk : k + 2 ≤ 30) (y : Int32) : RUN (nI x) i w m0 (k + 2) (fn_X0_thinks 3 a (nI x) y z) (fn_X8_thinksActs m y) := by
  have hkm : Model_kind m = nI x := h.2.2.2.1.2
  unfold fn_X8_thinksActs
  rw [hkm, (iu x hx).1, m_bind_some]
  by_cases c1 : x = 1 ∨ x = 4
  · obtain ⟨a', m', h1, h2, h3⟩ := aa_begin h (by omega) 11
    obtain ⟨r, a2, m2, k2, e1, e2, e3, e4⟩ := th_plain h3 (by omega) (y * 3)
    rw [if_pos c1, if_neg n10, th_1 2 a y z hz.le x c1, h1, h2, m_bind_some, m_bind_some, th_0 1 a' (y * 3) (z + 1) (hz.up hc).le 0 (Or.inl rfl), e1, e2, m_bind_some, m_bind_some]
    exact ⟨r, a2, m2, k2, rfl, rfl, by omega, e4⟩
  · rw [if_neg c1, if_pos n0]
    by_cases c5 : x = 5
    · subst c5
      obtain ⟨a', m', h1, h2, h3⟩ := aa_begin h (by omega) 51
      obtain ⟨r, a2, m2, k2, e1, e2, e3, e4⟩ := th_plain h3 (by omega) y
      rw [if_neg (show ¬ ¬ nI 5 = 5 from fun z => z rfl), th_5 2 a y z hz.le, h1, h2, m_bind_some, m_bind_some, th_0 1 a' y (z + 1) (hz.up hc).le 2 (Or.inr (Or.inl rfl)), e1, e2, m_bind_some, m_bind_some, e4.2.2.2.2.1.1, e4.2.2.2.2.1.2]
      exact ⟨_, a2, m2, k2, rfl, rfl, by omega, e4⟩
    · obtain ⟨r, a2, m2, k2, e1, e2, e3, e4⟩ := th_plain h (by omega) y
      rw [if_pos (show ¬ nI x = 5 from fun z => c5 ((nI_eq (b := 5) (by omega) (by omega)).mp z)), th_0 2 a y z hz.le x (by omega), e1, e2, m_bind_some]
      exact ⟨r, a2, m2, k2, rfl, rfl, by omega, e4⟩
theorem wr_0 (d : Nat) (a : ActsV) (y z : Int32) (hz : z ≤ 9) (x : Nat) (hx : x = 0 ∨ x = 1 ∨ x = 3 ∨ x = 4) : fn_X0_writes (d + 1) a (nI x) y z = Option.bind (fn_X0_begins a 2) (fun t1 => (Option.bind (fn_X0_thinks 3 t1 (Acts_kind t1) y (z + 1)) (fun t2 => some ((t2.1 - (Acts_v t2.2)), t2.2)))) := by
  show bd_X0_writes (gr_Wr d) a (nI x) y z = _
  unfold bd_X0_writes
  rw [if_pos hz]
  rcases hx with rfl | rfl | rfl | rfl <;> rfl
theorem wr_2 (d : Nat) (a : ActsV) (y z : Int32) (hz : z ≤ 9) (x : Nat) (hx : x = 2 ∨ x = 5) : fn_X0_writes (d + 1) a (nI x) y z = Option.bind (fn_X0_begins a 21) (fun t3 => (Option.bind (fn_X0_writes d t3 (nI 0) y (z + 1)) (fun t4 => some ((-t4.1), t4.2)))) := by
  show bd_X0_writes (gr_Wr d) a (nI x) y z = _
  unfold bd_X0_writes
  rw [if_pos hz]
  rcases hx with rfl | rfl <;> rfl
theorem wr_6 (d : Nat) (a : ActsV) (y z : Int32) (hz : z ≤ 9) : fn_X0_writes (d + 1) a (nI 6) y z = Option.bind (fn_X0_begins a 61) (fun t10 => (Option.bind (fn_X0_writes d t10 (nI 3) y (z + 1)) (fun t11 => some ((t11.1 + (Acts_v t11.2)), t11.2)))) := by
  show bd_X0_writes (gr_Wr d) a (nI 6) y z = _
  unfold bd_X0_writes
  rw [if_pos hz]
  rfl
theorem wr_plain {x : Nat} (hz : DP c z) (hc : c + 2 ≤ 9) (hx : x < 7) (h : AA (nI x) i w k m0 a m) (hk : k + 3 ≤ 30) (y : Int32) : RUN (nI x) i w m0 (k + 3) (Option.bind (fn_X0_begins a 2) (fun t1 => (Option.bind (fn_X0_thinks 3 t1 (Acts_kind t1) y (z + 1)) (fun t2 => some ((t2.1 - (Acts_v t2.2)), t2.2))))) (fn_X8_plainWrites m y) := by
  obtain ⟨a', m', h1, h2, h3⟩ := aa_begin h (by omega) 2
  obtain ⟨r, a2, m2, k2, e1, e2, e3, e4⟩ := th_kind (hz.up (by omega)) (by omega) hx h3 (by omega) y
  unfold fn_X8_plainWrites
  rw [h1, h2, m_bind_some, m_bind_some, h3.2.2.2.1.1, e1, e2, m_bind_some, m_bind_some, e4.2.2.2.2.2.1.1, e4.2.2.2.2.2.1.2]
  exact ⟨_, a2, m2, k2, rfl, rfl, by omega, e4⟩
theorem wr_kind {x : Nat} (hz : DP c z) (hc : c + 3 ≤ 9) (hx : x < 7) (h : AA (nI x) i w k m0 a m) (hk : k + 4 ≤ 30) (y : Int32) : RUN (nI x) i w m0 (k + 4) (fn_X0_writes 3 a (nI x) y z) (fn_X8_writesActs m y) := by
  have hkm : Model_kind m = nI x := h.2.2.2.1.2
  unfold fn_X8_writesActs
  rw [hkm, (iu x hx).2.1, m_bind_some]
  by_cases c1 : x = 2 ∨ x = 5
  · obtain ⟨a', m', h1, h2, h3⟩ := aa_begin h (by omega) 21
    obtain ⟨r, a2, m2, k2, e1, e2, e3, e4⟩ := wr_plain (hz.up (by omega)) (by omega) hx h3 (by omega) y
    rw [if_pos c1, if_neg n10, wr_2 2 a y z hz.le x c1, h1, h2, m_bind_some, m_bind_some, wr_0 1 a' y (z + 1) (hz.up (by omega)).le 0 (Or.inl rfl), e1, e2, m_bind_some, m_bind_some]
    exact ⟨_, a2, m2, k2, rfl, rfl, by omega, e4⟩
  · rw [if_neg c1, if_pos n0]
    by_cases c5 : x = 6
    · subst c5
      obtain ⟨a', m', h1, h2, h3⟩ := aa_begin h (by omega) 61
      obtain ⟨r, a2, m2, k2, e1, e2, e3, e4⟩ := wr_plain (hz.up (by omega)) (by omega) hx h3 (by omega) y
      rw [if_neg (show ¬ ¬ nI 6 = 6 from fun z => z rfl), wr_6 2 a y z hz.le, h1, h2, m_bind_some, m_bind_some, wr_0 1 a' y (z + 1) (hz.up (by omega)).le 3 (Or.inr (Or.inr (Or.inl rfl))), e1, e2, m_bind_some, m_bind_some, e4.2.2.2.2.2.1.1, e4.2.2.2.2.2.1.2]
      exact ⟨_, a2, m2, k2, rfl, rfl, by omega, e4⟩
    · obtain ⟨r, a2, m2, k2, e1, e2, e3, e4⟩ := wr_plain hz (by omega) hx h (by omega) y
      rw [if_pos (show ¬ nI x = 6 from fun z => c5 ((nI_eq (b := 6) (by omega) (by omega)).mp z)), wr_0 2 a y z hz.le x (by omega), e1, e2, m_bind_some]
      exact ⟨r, a2, m2, k2, rfl, rfl, by omega, e4⟩
theorem tl_0 (d : Nat) (a : ActsV) (y z : Int32) (hz : z ≤ 9) (x : Nat) (hx : x = 0 ∨ x = 1 ∨ x = 2 ∨ x = 5) : fn_X0_tells (d + 1) a (nI x) y z = Option.bind (fn_X0_begins a 3) (fun t1 => (Option.bind (fn_X0_writes 3 t1 (Acts_kind t1) y (z + 1)) (fun t2 => some ((t2.1 * 2), t2.2)))) := by
  show bd_X0_tells (gr_Tl d) a (nI x) y z = _
  unfold bd_X0_tells
  rw [if_pos hz]
  rcases hx with rfl | rfl | rfl | rfl <;> rfl
theorem tl_3 (d : Nat) (a : ActsV) (y z : Int32) (hz : z ≤ 9) (x : Nat) (hx : x = 3 ∨ x = 6) : fn_X0_tells (d + 1) a (nI x) y z = Option.bind (fn_X0_begins a 31) (fun t3 => (Option.bind (fn_X0_tells d t3 (nI 0) y (z + 1)) (fun t4 => some ((t4.1 ^^^ 7), t4.2)))) := by
  show bd_X0_tells (gr_Tl d) a (nI x) y z = _
  unfold bd_X0_tells
  rw [if_pos hz]
  rcases hx with rfl | rfl <;> rfl
theorem tl_4 (d : Nat) (a : ActsV) (y z : Int32) (hz : z ≤ 9) : fn_X0_tells (d + 1) a (nI 4) y z = Option.bind (fn_X0_begins a 41) (fun t7 => (Option.bind (fn_X0_tells d t7 (nI 1) (y - 1) (z + 1)) (fun t8 => (Option.bind (fn_X0_thinks 3 t8.2 (Acts_kind t8.2) 2 (z + 1)) (fun t9 => some ((t8.1 + t9.1), t9.2)))))) := by
  show bd_X0_tells (gr_Tl d) a (nI 4) y z = _
  unfold bd_X0_tells
  rw [if_pos hz]
  rfl
theorem tl_plain {x : Nat} (hz : DP c z) (hc : c + 4 ≤ 9) (hx : x < 7) (h : AA (nI x) i w k m0 a m) (hk : k + 5 ≤ 30) (y : Int32) : RUN (nI x) i w m0 (k + 5) (Option.bind (fn_X0_begins a 3) (fun t1 => (Option.bind (fn_X0_writes 3 t1 (Acts_kind t1) y (z + 1)) (fun t2 => some ((t2.1 * 2), t2.2))))) (fn_X8_plainTelling m y) := by
  obtain ⟨a', m', h1, h2, h3⟩ := aa_begin h (by omega) 3
  obtain ⟨r, a2, m2, k2, e1, e2, e3, e4⟩ := wr_kind (hz.up (by omega)) (by omega) hx h3 (by omega) y
  unfold fn_X8_plainTelling
  rw [h1, h2, m_bind_some, m_bind_some, h3.2.2.2.1.1, e1, e2, m_bind_some, m_bind_some]
  exact ⟨_, a2, m2, k2, rfl, rfl, by omega, e4⟩
theorem tl_kind {x : Nat} (hz : DP c z) (hc : c + 5 ≤ 9) (hx : x < 7) (h : AA (nI x) i w k m0 a m) (hk : k + 8 ≤ 30) (y : Int32) : RUN (nI x) i w m0 (k + 8) (fn_X0_tells 3 a (nI x) y z) (fn_X8_tellsActs m y) := by
  have hkm : Model_kind m = nI x := h.2.2.2.1.2
  unfold fn_X8_tellsActs
  rw [hkm, (iu x hx).2.2, m_bind_some]
  by_cases c1 : x = 3 ∨ x = 6
  · obtain ⟨a', m', h1, h2, h3⟩ := aa_begin h (by omega) 31
    obtain ⟨r, a2, m2, k2, e1, e2, e3, e4⟩ := tl_plain (hz.up (by omega)) (by omega) hx h3 (by omega) y
    rw [if_pos c1, if_neg n10, tl_3 2 a y z hz.le x c1, h1, h2, m_bind_some, m_bind_some, tl_0 1 a' y (z + 1) (hz.up (by omega)).le 0 (Or.inl rfl), e1, e2, m_bind_some, m_bind_some]
    exact ⟨_, a2, m2, k2, rfl, rfl, by omega, e4⟩
  · rw [if_neg c1, if_pos n0]
    by_cases c5 : x = 4
    · subst c5
      obtain ⟨a', m', h1, h2, h3⟩ := aa_begin h (by omega) 41
      obtain ⟨r, a2, m2, k2, e1, e2, e3, e4⟩ := tl_plain (hz.up (by omega)) (by omega) hx h3 (by omega) (y - 1)
      obtain ⟨r', a4, m4, k4, f1, f2, f3, f4⟩ := th_kind (hz.up (by omega)) (by omega) hx e4 (by omega) 2
      rw [if_neg (show ¬ ¬ nI 4 = 4 from fun z => z rfl), tl_4 2 a y z hz.le, h1, h2, m_bind_some, m_bind_some, tl_0 1 a' (y - 1) (z + 1) (hz.up (by omega)).le 1 (Or.inr (Or.inl rfl)), e1, e2, m_bind_some, m_bind_some, e4.2.2.2.1.1, f1, f2, m_bind_some, m_bind_some]
      exact ⟨_, a4, m4, k4, rfl, rfl, by omega, f4⟩
    · obtain ⟨r, a2, m2, k2, e1, e2, e3, e4⟩ := tl_plain hz (by omega) hx h (by omega) y
      rw [if_pos (show ¬ nI x = 4 from fun z => c5 ((nI_eq (b := 4) (by omega) (by omega)).mp z)), tl_0 2 a y z hz.le x (by omega), e1, e2, m_bind_some]
      exact ⟨r, a2, m2, k2, rfl, rfl, by omega, e4⟩
end AC
section AS
variable {Q : Nat → Option LessonV} {v : OneV} {m : ModelV}
theorem R_acts (h : R Q v m) {κ i w : Int32} {k : Nat} {a : ActsV} {m' : ModelV} (hk : k ≤ 30) (e : AA κ i w k m a m') : R Q (One_acts_s v a) m' := by
  obtain ⟨hn, hi, ha⟩ := h
  obtain ⟨e1, e2, e3, _, _, _, e7, e8, e9⟩ := e
  have hi' : rim Q (One_image v) (One_imageIsTaken v) (core m') := by
    unfold rim core at hi ⊢
    rw [e8, e9]
    exact hi
  refine ⟨?_, hi', k, hk, e1, e2, e3⟩
  rw [e7]
  exact hn
theorem sim_act (h : R Q v m) (x y w : Int32) : SIM Q (fn_X7_act v x y w) (fn_X8_act m x y w) := by
  have h0 := h
  obtain ⟨⟨n, hg, ht, hl, hn, hs, hp, hb, hpe, hbe⟩, hi, ha⟩ := h
  have hn6 := hg.2.1.1
  have hz : DP 0 0 := ⟨rfl, by omega⟩
  unfold fn_X7_act fn_X8_act
  rw [show fn_X8_in y 0 2 = fn_X8_in y 0 (nI 2) from rfl]
  have hR0 : ∀ (κ i u κ' i' u' : Int32), R Q (One_acts_s v (Acts_i_s (Acts_v_s (Acts_kind_s (Acts_ran_s (One_acts v) 0) κ) u) i)) (Model_tellsV_s (Model_number_s (Model_kind_s (Model_ran_s m 0) κ') i') u') := fun κ i u κ' i' u' => ⟨⟨n, hg, ht, hl, hn, hs, hp, hb, hpe, hbe⟩, hi, 0, by omega, rfl, rfl, fun j hj => absurd hj (by omega)⟩
  have hR1 : R Q (One_acts_s v (Acts_ran_s (One_acts v) 0)) (Model_ran_s m 0) := hR0 (Acts_kind (One_acts v)) (Acts_i (One_acts v)) (Acts_v (One_acts v)) (Model_kind m) (Model_number m) (Model_tellsV m)
  rcases pupil_c (v := One_acts_s v (Acts_ran_s (One_acts v) 0)) (m := Model_ran_s m 0) hg x with ⟨p, p1, rfl, p3, p4⟩ | ⟨p3, p4⟩
  · have i6 : mIn (nI p) 6 = true := q_6 (by omega)
    have e27 : Model_s m (27 + p) = Group_kinds (Room_group (One_now v)) p := ag_kinds hg.1 p1
    have e33 : Model_s m (33 + p) = Group_vs (Room_group (One_now v)) p := ag_vs hg.1 p1
    obtain ⟨c, c1, c2⟩ := (hg.2.2.2.2 p p1).1
    rw [p3, p4, m_bind_some, m_bind_some, if_pos n10, if_neg n10, if_pos i6, if_pos i6, q_n (by omega), if_pos (q_i27 (by omega)), if_pos (q_i33 (by omega)), q_a27 (by omega), q_a33 (by omega), e27, e33, c2]
    have hA : AA (nI c) (nI p) (Group_vs (Room_group (One_now v)) p) 0 m (Acts_i_s (Acts_v_s (Acts_kind_s (Acts_ran_s (One_acts v) 0) (nI c)) (Group_vs (Room_group (One_now v)) p)) (nI p)) (Model_tellsV_s (Model_number_s (Model_kind_s (Model_ran_s m 0) (nI c)) (nI p)) (Group_vs (Room_group (One_now v)) p)) := ⟨rfl, rfl, fun j hj => absurd hj (by omega), ⟨rfl, rfl⟩, ⟨rfl, rfl⟩, ⟨rfl, rfl⟩, rfl, rfl, rfl⟩
    by_cases q0 : y = 0
    · subst q0
      obtain ⟨r, a', m', k', e1, e2, e3, e4⟩ := th_kind hz (by omega) c1 hA (by omega) w
      rw [if_pos n0, show fn_X8_in 0 0 (nI 2) = some 1 from rfl, m_bind_some, if_pos n10, if_neg n00, e1, e2, m_bind_some, m_bind_some]
      exact ⟨r, _, m', rfl, rfl, R_acts h0 (by omega) e4⟩
    · rw [if_neg q0]
      by_cases q1 : y = 1
      · subst q1
        obtain ⟨r, a', m', k', e1, e2, e3, e4⟩ := wr_kind hz (by omega) c1 hA (by omega) w
        rw [if_pos (show (1 : Int32) = 1 from rfl), show fn_X8_in 1 0 (nI 2) = some 1 from rfl, m_bind_some, if_pos n10, if_pos n10, if_neg (show ¬ ¬ (1 : Int32) = 1 from fun z => z rfl), e1, e2, m_bind_some, m_bind_some]
        exact ⟨r, _, m', rfl, rfl, R_acts h0 (by omega) e4⟩
      · rw [if_neg q1]
        by_cases q2 : y = 2
        · subst q2
          obtain ⟨r, a', m', k', e1, e2, e3, e4⟩ := tl_kind hz (by omega) c1 hA (by omega) w
          rw [if_pos (show (2 : Int32) = 2 from rfl), show fn_X8_in 2 0 (nI 2) = some 1 from rfl, m_bind_some, if_pos n10, if_pos (show ¬ (2 : Int32) = 0 by decide), if_pos (show ¬ (2 : Int32) = 1 by decide), e1, e2, m_bind_some, m_bind_some]
          exact ⟨r, _, m', rfl, rfl, R_acts h0 (by omega) e4⟩
        · have hin : fn_X8_in y 0 (nI 2) = some 0 := by
            rcases c_cases y with hy | ⟨j, hj, rfl⟩
            · exact in_neg hy
            · refine in_no ?_ hj
              rcases Nat.lt_or_ge 2 j with z | z
              · exact z
              · exfalso
                have : j = 0 ∨ j = 1 ∨ j = 2 := by omega
                rcases this with rfl | rfl | rfl
                · exact q0 rfl
                · exact q1 rfl
                · exact q2 rfl
          rw [if_neg q2, hin, m_bind_some, if_neg n00]
          exact ⟨0, _, _, rfl, rfl, hR0 _ _ _ (Model_kind m) (Model_number m) (Model_tellsV m)⟩
  · rw [p3, p4, m_bind_some, m_bind_some, if_neg n00, if_pos n0]
    exact ⟨0, _, _, rfl, rfl, hR1⟩
end AS
