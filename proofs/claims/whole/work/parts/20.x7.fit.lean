/-! skilled, firm. -/
/-- whether the rows from i on (d of them) are met behind k weeks, D being what came -/
def okf (x : RowsV) (k : Nat) (D : Int32) : Nat → Nat → Bool
  | 0, _ => true
  | d + 1, i => (decide (¬ Rows_seconds x i = nI k) || decide (Rows_firsts x i = D)) && okf x k D d (i + 1)
def b01 (b : Bool) : Int32 := if b = true then 1 else 0
theorem b01_bit (b : Bool) : mBit (b01 b) = true := by cases b <;> rfl
section FT
variable {Q : Nat → Option LessonV} {v : OneV} {m : ModelV} {ea : Nat} {le : LessonV}
theorem meets_in {x : RowsV} {K k : Nat} {D : Int32} {fc : ForecastV} (l0 : Rows_len x = 5) (hK : K ≤ 5) (k2 : Rows_size x = nI K) (hD : fn_X1_workMore fc = some D) (J : Unit → Option (Int32 × ForecastV)) : ∀ d i, i + d = K → ∀ f, d < f → lp_X1_meets_10 x (nI k) fc J f (nI i) = if okf x k D d i = true then J () else some (0, fc) := by
  intro d
  induction d with
  | zero =>
    intro i hi f hf
    obtain ⟨f, rfl⟩ : ∃ f', f = f' + 1 := ⟨f - 1, by omega⟩
    show st_X1_meets_10 x _ fc J _ _ = _
    unfold st_X1_meets_10
    rw [k2, if_pos (nI_le (by omega) (by omega))]
    rfl
  | succ d ih =>
    intro i hi f hf
    obtain ⟨f, rfl⟩ : ∃ f', f = f' + 1 := ⟨f - 1, by omega⟩
    show st_X1_meets_10 x _ fc J _ _ = _
    unfold st_X1_meets_10
    rw [k2, if_neg (nI_ge (by omega) (by omega)), l0, if_pos (mIn_nI (by omega) (by omega)), m_jp_eq, if_pos (mIn_nI (by omega) (by omega)), q_n (by omega), hD, m_bind_some, ← nI_succ, ih (i + 1) (by omega) f (by omega)]
    show _ = if ((decide (¬ Rows_seconds x i = nI k) || decide (Rows_firsts x i = D)) && okf x k D d (i + 1)) = true then _ else _
    by_cases q1 : Rows_seconds x i = nI k
    · by_cases q2 : Rows_firsts x i = D
      · simp [q1, q2]
      · simp [q1, q2]
    · simp [q1]
theorem seen_in {x : RowsV} {K k n : Nat} {D : Int32} {g : GroupV} {s : ModelV} (hK : K ≤ 5) (k3 : Model_s s 22 = nI K) (k4 : ∀ j, j < K → Model_s s (69 + j) = Rows_firsts x j ∧ Model_s s (74 + j) = Rows_seconds x j) (hD : fn_X8_workMore s = some D) : ∀ d i, i + d = K → ∀ f b, d < f → lp_X8_isAsSeen_4 s (nI k) f (b01 b) (nI i) = some (b01 (b && okf x k D d i)) := by
  intro d
  induction d with
  | zero =>
    intro i hi f b hf
    obtain ⟨f, rfl⟩ : ∃ f', f = f' + 1 := ⟨f - 1, by omega⟩
    show st_X8_isAsSeen_4 s _ _ _ _ = _
    unfold st_X8_isAsSeen_4
    rw [if_pos q_j22, q_c22, k3, if_pos (nI_le (by omega) (by omega)), if_pos (b01_bit b)]
    unfold okf
    rw [Bool.and_true]
  | succ d ih =>
    intro i hi f b hf
    obtain ⟨f, rfl⟩ : ∃ f', f = f' + 1 := ⟨f - 1, by omega⟩
    show st_X8_isAsSeen_4 s _ _ _ _ = _
    unfold st_X8_isAsSeen_4
    have h0 := ih (i + 1) (by omega) f false (by omega)
    have h1 := ih (i + 1) (by omega) f true (by omega)
    rw [show b01 false = 0 from rfl] at h0
    rw [show b01 true = 1 from rfl] at h1
    rw [if_pos q_j22, q_c22, k3, if_neg (nI_ge (by omega) (by omega))]
    simp only [m_jp_eq, q_i74 (show 74 + i < 926 by omega), q_a74 (show 74 + i < 926 by omega), q_i69 (show 69 + i < 926 by omega), q_a69 (show 69 + i < 926 by omega), (k4 i (by omega)).1, (k4 i (by omega)).2, if_true, hD, m_bind_some, ← nI_succ, h0, h1]
    show _ = some (b01 (b && ((decide (¬ Rows_seconds x i = nI k) || decide (Rows_firsts x i = D)) && okf x k D d (i + 1))))
    cases b with
    | false => rw [if_pos (show b01 false = 0 from rfl)]; simp
    | true =>
      rw [if_neg (show ¬ b01 true = 0 by decide)]
      by_cases q1 : Rows_seconds x i = nI k
      · by_cases q2 : Rows_firsts x i = D
        · simp [q1, q2]
        · have q3 : ¬ D = Rows_firsts x i := fun z => q2 z.symm
          simp [q1, q2, q3]
      · simp [q1]
/-- weeks from k on (d of them): all that is seen is met -/
def seenb (x : RowsV) (n : Nat) (c : LC) (F : Int32) (K : Nat) (W0 : Int32) : Nat → Nat → GroupV → Bool
  | 0, _, _ => true
  | d + 1, k, g => okf x k (Group_work g - W0) K 0 && seenb x n c F K W0 d (k + 1) (sp_week n c F 0 g)
theorem seen_all {n : Nat} {z : LZ} {γ f w K : Nat} {x : RowsV} {g0 : GroupV} {m0 : ModelV} (hh : hc (Model_s m0) z (nI γ) f) (hl : lq le z (nI γ) f) (l0 : Rows_len x = 5) (hK : K ≤ 5) (k2 : Rows_size x = nI K) (k3 : Model_s m0 22 = nI K) (k4 : ∀ j, j < K → Model_s m0 (69 + j) = Rows_firsts x j ∧ Model_s m0 (74 + j) = Rows_seconds x j) (e1 : Model_s m0 1 = Group_work g0) (hwl : w ≤ 9999) :
    ∀ d k, k + d = 21 → ∀ (J : Int32 → ModelV → Option (Int32 × ModelV)) fC fM (fc : ForecastV) (s : ModelV) (g' : GroupV), d < fC → d + 1 < fM → FC n g0 ea g' fc → FS n m0 g' s → gk n g' → Group_week g' = nI (w + k) → ∃ (fc' : ForecastV) (s' : ModelV) (g'' : GroupV), lp_X1_meets_2 x le ea fC (nI k) fc = some (b01 (seenb x n (lz_c z) (nI f) K (Group_work g0) d k g'), fc') ∧ lp_X8_areAsSeen_8 J fM 1 (nI k) s = J (b01 (seenb x n (lz_c z) (nI f) K (Group_work g0) d k g')) s' ∧ FS n m0 g'' s' := by
  intro d
  induction d with
  | zero =>
    intro k hk J fC fM fc s g' hC hM hfc hfs hgk hwk
    obtain ⟨fC, rfl⟩ : ∃ f', fC = f' + 1 := ⟨fC - 1, by omega⟩
    obtain ⟨fM, rfl⟩ : ∃ f', fM = f' + 1 := ⟨fM - 1, by omega⟩
    have h20 : (20 : Int32) < nI k := nI_lt (a := 20) (by omega) (by omega)
    refine ⟨fc, s, g', ?_, ?_, hfs⟩
    · show st_X1_meets_2 x le ea _ _ _ = _
      unfold st_X1_meets_2
      rw [if_pos h20]
      rfl
    · show st_X8_areAsSeen_8 J _ _ _ _ = _
      unfold st_X8_areAsSeen_8
      rw [if_pos h20]
      rfl
  | succ d ih =>
    intro k hk J fC fM fc s g' hC hM hfc hfs hgk hwk
    obtain ⟨fC, rfl⟩ : ∃ f', fC = f' + 1 := ⟨fC - 1, by omega⟩
    obtain ⟨fM, rfl⟩ : ∃ f', fM = f' + 1 + 1 := ⟨fM - 2, by omega⟩
    have h20 : ¬ (20 : Int32) < nI k := nI_nlt (a := 20) (by omega) (by omega)
    have hDC := fc_workMore hfc
    have hDM := fs_workMore hfs
    rw [e1] at hDM
    obtain ⟨t, c1, c2⟩ := fc_weeks (N := 1) hfc hl hgk hwk (by omega) (by omega)
    obtain ⟨s', d1, d2⟩ := fs_goes hfs hh hgk hwk (by omega)
    have hs : fn_X8_isAsSeen s (nI k) = some (b01 (okf x k (Group_work g' - Group_work g0) K 0)) := by
      have := seen_in (x := x) (n := n) (g := g') (k := k) (s := s) hK (by rw [hfs.2.2.1 22 (by omega)]; exact k3) (fun j hj => by rw [hfs.2.2.1 _ (by omega), hfs.2.2.1 _ (by omega)]; exact k4 j hj) hDM K 0 (by omega) m_N true (by rw [m_N_val]; omega)
      exact this
    have hC1 : lp_X1_meets_2 x le ea (fC + 1) (nI k) fc = if okf x k (Group_work g' - Group_work g0) K 0 = true then lp_X1_meets_2 x le ea fC (nI (k + 1)) (Forecast_trial_s fc t) else some (0, fc) := by
      show st_X1_meets_2 x le ea _ _ _ = _
      unfold st_X1_meets_2
      rw [if_neg h20, m_jp_eq, show (0 : Int32) = nI 0 from rfl, meets_in l0 hK k2 hDC _ K 0 (by omega) m_N (by rw [m_N_val]; omega), if_pos hfc.2.2]
      rw [show (1 : Int32) = nI 1 from rfl, show nI 0 = (0 : Int32) from rfl, c1, m_bind_some, nI_add]
    have hM1 : lp_X8_areAsSeen_8 J (fM + 1 + 1) 1 (nI k) s = lp_X8_areAsSeen_8 J (fM + 1) (b01 (okf x k (Group_work g' - Group_work g0) K 0)) (nI (k + 1)) s' := by
      show st_X8_areAsSeen_8 J _ _ _ _ = _
      unfold st_X8_areAsSeen_8
      rw [if_neg h20, if_neg n10, hs, m_bind_some, d1, m_bind_some, ← nI_succ]
    rw [hC1, hM1]
    have hsb : seenb x n (lz_c z) (nI f) K (Group_work g0) (d + 1) k g' = (okf x k (Group_work g' - Group_work g0) K 0 && seenb x n (lz_c z) (nI f) K (Group_work g0) d (k + 1) (sp_week n (lz_c z) (nI f) 0 g')) := rfl
    rw [hsb]
    cases q : okf x k (Group_work g' - Group_work g0) K 0 with
    | true =>
      rw [if_pos rfl, Bool.true_and]
      exact ih (k + 1) (by omega) J fC (fM + 1) _ s' _ (by omega) (by omega) ⟨c2, hfc.2.1, hfc.2.2⟩ d2 (gk_week hgk hh.2.1) (by rw [sp_week_week, hwk, nI_1]; rfl)
    | false =>
      rw [if_neg (by decide), Bool.false_and]
      refine ⟨fc, s', _, rfl, ?_, d2⟩
      show st_X8_areAsSeen_8 J _ _ _ _ = _
      unfold st_X8_areAsSeen_8
      by_cases h21 : (20 : Int32) < nI (k + 1)
      · rw [if_pos h21]
      · rw [if_neg h21, if_pos (show b01 false = 0 from rfl)]
end FT
/-! masks of ten -/
def mkm (F : Nat → Bool) (lo : Nat) : Nat → Nat
  | 0 => 0
  | j + 1 => if F (lo + j) = true then mkm F lo j ||| 2 ^ (lo + j) else mkm F lo j
theorem or_q : ∀ k, k < 10 → ∀ M, M < 1024 → (nI M ||| ((1 : Int32) <<< (nI k &&& 31))) = nI (M ||| 2 ^ k) ∧ M ||| 2 ^ k < 1024 := by decide +kernel
theorem mkm_b (F : Nat → Bool) (lo : Nat) : ∀ j, lo + j ≤ 10 → mkm F lo j < 1024
  | 0, _ => by unfold mkm; omega
  | j + 1, h => by
    have := mkm_b F lo j (by omega)
    unfold mkm
    split
    · exact (or_q (lo + j) (by omega) _ this).2
    · exact this
theorem mkm_t (F : Nat → Bool) (lo : Nat) : ∀ j i, (mkm F lo j).testBit i = (decide (lo ≤ i ∧ i < lo + j) && F i)
  | 0, i => by
    unfold mkm
    rw [Nat.zero_testBit, decide_eq_false (by omega)]
    rfl
  | j + 1, i => by
    have ih := mkm_t F lo j i
    unfold mkm
    by_cases q : i = lo + j
    · subst q
      cases hF : F (lo + j) with
      | true =>
        rw [if_pos rfl, Nat.testBit_or, Nat.testBit_two_pow_self, Bool.or_true, decide_eq_true (by omega)]
        rfl
      | false =>
        rw [if_neg (by decide), ih, decide_eq_false (by omega), hF]
        simp
    · have e : decide (lo ≤ i ∧ i < lo + (j + 1)) = decide (lo ≤ i ∧ i < lo + j) := by
        apply decide_eq_decide.mpr
        omega
      rw [e, ← ih]
      split
      · rw [Nat.testBit_or, Nat.testBit_two_pow_of_ne (fun z => q z.symm), Bool.or_false]
      · rfl
/-- from nine down: how many, the least -/
def fd (B : Nat → Bool) : Nat → Nat × Int32
  | 0 => (0, -5)
  | j + 1 => if B (9 - j) = true then ((fd B j).1 + 1, nI (9 - j)) else fd B j
theorem fd_congr {B C : Nat → Bool} : ∀ j, (∀ i, i ≤ 9 → 9 < i + j → B i = C i) → j ≤ 10 → fd B j = fd C j
  | 0, _, _ => rfl
  | j + 1, h, hj => by
    have ih := fd_congr j (fun i h1 h2 => h i h1 (by omega)) (by omega)
    unfold fd
    rw [ih, h (9 - j) (by omega) (by omega)]
theorem fd_mask : ∀ M, M < 1024 → fn_J6_bitCount_0f7a4 (nI M) = some (nI (fd M.testBit 10).1) ∧ fn_X7_leastOf (nI M) = some (fd M.testBit 10).2 := by decide +kernel
theorem fd_lo (F : Nat → Bool) {lo : Nat} (h : lo ≤ 1) : fd (mkm F lo (10 - lo)).testBit 10 = fd F (10 - lo) := by
  have e1 : fd (mkm F lo (10 - lo)).testBit (10 - lo) = fd F (10 - lo) := fd_congr _ (fun i h1 h2 => by
    rw [mkm_t, decide_eq_true (by omega)]
    rfl) (by omega)
  rw [← e1]
  have : lo = 0 ∨ lo = 1 := by omega
  rcases this with rfl | rfl
  · rfl
  · show (if (mkm F 1 9).testBit (9 - 9) = true then _ else _) = _
    rw [mkm_t, decide_eq_false (by omega)]
    rfl
/-- the class's loop over the values, by one body -/
theorem fit_C {v : OneV} {lo : Nat} (hlo : lo ≤ 1) {F : Nat → Bool} (lp : Nat → Int32 → Int32 → OneV → Option (Int32 × OneV)) (J : Int32 → OneV → Option (Int32 × OneV)) (hend : ∀ f a w, lp (f + 1) a (nI 10) w = J a w) (hstep : ∀ f a u w, lo ≤ u → u ≤ 9 → vk v w → ∃ w', vk v w' ∧ lp (f + 1) a (nI u) w = lp f (if F u = true then a ||| ((1 : Int32) <<< (nI u &&& 31)) else a) (nI (u + 1)) w') : ∃ w', lp m_N 0 (nI lo) v = J (nI (mkm F lo (10 - lo))) w' ∧ vk v w' := by
  refine n_loopG (fun f y (s : Int32 × OneV) => lp f s.1 y s.2) (fun j => nI (lo + j)) (fun j s => s.1 = nI (mkm F lo j) ∧ vk v s.2) (10 - lo) (fun r => ∃ w', r = J (nI (mkm F lo (10 - lo))) w' ∧ vk v w') (fun f s hi => ?_) (fun f j s hj hi => ?_) m_N (0, v) (by rw [m_N_val]; omega) ⟨rfl, vk_refl v⟩
  · refine ⟨s.2, ?_, hi.2⟩
    show lp (f + 1) s.1 (nI (lo + (10 - lo))) s.2 = _
    rw [show lo + (10 - lo) = 10 by omega, hend, hi.1]
  · obtain ⟨w', a1, a2⟩ := hstep f s.1 (lo + j) s.2 (by omega) (by omega) hi.2
    have hb := mkm_b F lo j (by omega)
    refine ⟨(nI (mkm F lo (j + 1)), w'), ⟨rfl, a1⟩, ?_⟩
    refine a2.trans ?_
    show lp f _ _ _ = lp f (nI (mkm F lo (j + 1))) (nI (lo + (j + 1))) w'
    have e : mkm F lo (j + 1) = if F (lo + j) = true then mkm F lo j ||| 2 ^ (lo + j) else mkm F lo j := rfl
    rw [e, hi.1, (or_q (lo + j) (by omega) _ hb).1]
    cases F (lo + j) <;> rfl
section FS2
variable {Q : Nat → Option LessonV} {v : OneV} {m : ModelV} {ea : Nat} {le : LessonV}
theorem ix_9 : ∀ j, j ≤ 9 → nI 9 - nI j + (-1) = nI 9 - nI (j + 1) := by decide +kernel
/-- the reference's loop over the values -/
theorem fit_M {lo wh : Nat} (hlo : lo ≤ 1) (hwh : wh < 926) {F : Nat → Bool} (hstep : ∀ (s : ModelV) u, u ≤ 9 → lo ≤ u → (∀ j, j ≠ wh → Model_s s j = Model_s m j) → (Model_image s = Model_image m ∧ Model_hasImage s = Model_hasImage m ∧ Model_bodies s = Model_bodies m ∧ Model_ran s = Model_ran m) → ∃ s', fn_X8_areAsSeen (Model_s_s s (upd (Model_s s) wh (nI u))) = some (b01 (F u), s') ∧ mk0 (Model_s_s s (upd (Model_s s) wh (nI u))) s') : ∃ m', fn_X8_looksForFitting m (nI wh) (nI lo) 9 = some m' ∧ Model_s m' = Model_s m ∧ Model_image m' = Model_image m ∧ Model_hasImage m' = Model_hasImage m ∧ Model_bodies m' = Model_bodies m ∧ Model_ran m' = Model_ran m ∧ Model_fitting m' = nI (fd F (10 - lo)).1 ∧ Model_firstFitting m' = (fd F (10 - lo)).2 := by
  unfold fn_X8_looksForFitting
  rw [if_pos (mIn_nI hwh (by omega)), m_jp_eq, q_n (by omega), show (9 : Int32) = nI 9 - nI 0 from rfl]
  refine n_loopG (fun f y (s : ModelV) => lp_X8_looksForFitting_22 (nI wh) (nI lo) _ f y s) (fun j => nI 9 - nI j) (fun j s => (∀ i, i ≠ wh → Model_s s i = Model_s m i) ∧ (Model_image s = Model_image m ∧ Model_hasImage s = Model_hasImage m ∧ Model_bodies s = Model_bodies m ∧ Model_ran s = Model_ran m) ∧ Model_fitting s = nI (fd F j).1 ∧ Model_firstFitting s = (fd F j).2) (10 - lo) (fun r => ∃ m', r = some m' ∧ Model_s m' = Model_s m ∧ Model_image m' = Model_image m ∧ Model_hasImage m' = Model_hasImage m ∧ Model_bodies m' = Model_bodies m ∧ Model_ran m' = Model_ran m ∧ Model_fitting m' = nI (fd F (10 - lo)).1 ∧ Model_firstFitting m' = (fd F (10 - lo)).2) (fun f s hi => ?_) (fun f j s hj hi => ?_) m_N _ (by rw [m_N_val]; omega) ⟨fun _ _ => rfl, ⟨rfl, rfl, rfl, rfl⟩, rfl, rfl⟩
  · obtain ⟨i1, ⟨i2, i3, i4, i5⟩, i6, i7⟩ := hi
    refine ⟨Model_s_s s (upd (Model_s s) wh (Model_s m wh)), ?_, ?_, i2, i3, i4, i5, i6, i7⟩
    · show st_X8_looksForFitting_22 _ _ _ _ _ _ = _
      unfold st_X8_looksForFitting_22
      have hlt : nI 9 - nI (10 - lo) < nI lo := by
        have : lo = 0 ∨ lo = 1 := by omega
        rcases this with rfl | rfl <;> decide
      rw [if_pos hlt]
      show (if mIn (nI wh) 926 = true then _ else _) = _
      rw [if_pos (mIn_nI hwh (by omega))]
    · funext j
      show upd (Model_s s) wh (Model_s m wh) j = _
      by_cases q : j = wh
      · subst q; exact pk_us
      · rw [pk_un q]; exact i1 j q
  · obtain ⟨i1, i2, i6, i7⟩ := hi
    obtain ⟨s', a1, a2⟩ := hstep s (9 - j) (by omega) (by omega) i1 i2
    have e9 : nI 9 - nI j = nI (9 - j) := pk_sub (by omega)
    have hst : lp_X8_looksForFitting_22 (nI wh) (nI lo) (fun (wx_85 : ModelV) => (if mIn (nI wh) 926 = true then some (Model_s_s wx_85 (upd (Model_s wx_85) wh ((Model_s m) wh))) else none)) (f + 1) (nI 9 - nI j) s = lp_X8_looksForFitting_22 (nI wh) (nI lo) (fun (wx_85 : ModelV) => (if mIn (nI wh) 926 = true then some (Model_s_s wx_85 (upd (Model_s wx_85) wh ((Model_s m) wh))) else none)) f (nI 9 - nI (j + 1)) (Model_firstFitting_s (Model_fitting_s s' (Model_fitting s' + (if b01 (F (9 - j)) = 0 then 0 else 1))) (if b01 (F (9 - j)) = 0 then Model_firstFitting s' else nI (9 - j))) := by
      show st_X8_looksForFitting_22 _ _ _ _ _ _ = _
      unfold st_X8_looksForFitting_22
      rw [e9, if_neg (nI_nlt (by omega) (by omega)), if_pos (mIn_nI hwh (by omega)), q_n (by omega), a1, m_bind_some, ← ix_9 j (by omega), e9]
      simp only [m_jp_eq]
      by_cases q : b01 (F (9 - j)) = 0
      · rw [if_pos q, if_pos q, if_pos q, if_pos q]
      · rw [if_neg q, if_neg q, if_neg q, if_neg q]
    have hcore : core s' = core s := a2.2
    have hf : Model_fitting s' = Model_fitting s := congrArg (fun c => c.2.2.2.2.1) hcore
    have hff : Model_firstFitting s' = Model_firstFitting s := congrArg (fun c => c.2.2.2.2.2) hcore
    have hfd : fd F (j + 1) = if F (9 - j) = true then ((fd F j).1 + 1, nI (9 - j)) else fd F j := rfl
    refine ⟨Model_firstFitting_s (Model_fitting_s s' (Model_fitting s' + (if b01 (F (9 - j)) = 0 then 0 else 1))) (if b01 (F (9 - j)) = 0 then Model_firstFitting s' else nI (9 - j)), ⟨fun i hi => ?_, ⟨(congrArg (fun c => c.1) hcore).trans i2.1, (congrArg (fun c => c.2.1) hcore).trans i2.2.1, (congrArg (fun c => c.2.2.1) hcore).trans i2.2.2.1, (congrArg (fun c => c.2.2.2.1) hcore).trans i2.2.2.2⟩, ?_, ?_⟩, by
      exact hst⟩
    · show Model_s s' i = _
      rw [a2.1]
      exact (pk_un hi).trans (i1 i hi)
    · show Model_fitting s' + (if b01 (F (9 - j)) = 0 then 0 else 1) = _
      rw [hf, i6, hfd]
      cases F (9 - j) with
      | true => rw [if_neg (by decide), if_pos rfl, nI_1]
      | false => rw [if_pos (show b01 false = 0 from rfl), if_neg (by decide), Int32.add_zero]
    · show (if b01 (F (9 - j)) = 0 then Model_firstFitting s' else nI (9 - j)) = _
      rw [hff, i7, hfd]
      cases F (9 - j) with
      | true => rw [if_neg (by decide), if_pos rfl]
      | false => rw [if_pos (show b01 false = 0 from rfl), if_neg (by decide)]
theorem lh_same2 {s s' : Nat → Int32} {z : LZ} {G F : Int32} (h : lh s z G F) (he : ∀ j, j = 26 ∨ 211 ≤ j → s' j = s j) : lh s' z G F := by
  rcases h with ⟨h1, h2⟩ | ⟨a, ha, h1, h2, h3, h4⟩
  · exact Or.inl ⟨by rw [he _ (by omega)]; exact h1, h2⟩
  · exact Or.inr ⟨a, ha, by rw [he _ (by omega)]; exact h1, lm_same h2 (fun j hj => he j (by omega)), by rw [he _ (by omega)]; exact h3, by rw [he _ (by omega)]; exact h4⟩
theorem fit_both {n : Nat} {z : LZ} {γ f w wh : Nat} (hh : hc (Model_s m) z (nI γ) f) (hl : lq le z (nI γ) f) (hg : rg n (One_now v) (Model_s m)) (hw : Group_week (Room_group (One_now v)) = nI w) (hwl : w ≤ 9999) (hs : rws (Room_seen (One_now v)) 5 69 74 22 (Model_s m)) (hwh : 27 ≤ wh ∧ wh < 45) (gu : Nat → GroupV) (g1 : ∀ u, u ≤ 9 → ∀ s : Nat → Int32, (∀ j, j ≠ wh → s j = Model_s m j) → ag n (gu u) (sv (upd s wh (nI u)))) (g2 : ∀ u, gk n (gu u)) (g3 : ∀ u, Group_week (gu u) = nI w) :
    ∃ F : Nat → Bool, (∀ u, u ≤ 9 → ∀ fc, FC n (Room_group (One_now v)) ea (gu u) fc → ∃ fc', fn_X1_meets fc (Room_seen (One_now v)) le ea = some (b01 (F u), fc')) ∧
      ∀ (s : ModelV) u, u ≤ 9 → (∀ j, j ≠ wh → Model_s s j = Model_s m j) → ∃ s', fn_X8_areAsSeen (Model_s_s s (upd (Model_s s) wh (nI u))) = some (b01 (F u), s') ∧ mk0 (Model_s_s s (upd (Model_s s) wh (nI u))) s' := by
  obtain ⟨l0, K, k1, k2, k3, k4⟩ := hs
  refine ⟨fun u => seenb (Room_seen (One_now v)) n (lz_c z) (nI f) K (Group_work (Room_group (One_now v))) 21 0 (gu u), ?_⟩
  have main : ∀ u, u ≤ 9 → ∀ (s : ModelV), (∀ j, j ≠ wh → Model_s s j = Model_s m j) → ∀ fc, FC n (Room_group (One_now v)) ea (gu u) fc → (∃ fc', fn_X1_meets fc (Room_seen (One_now v)) le ea = some (b01 (seenb (Room_seen (One_now v)) n (lz_c z) (nI f) K (Group_work (Room_group (One_now v))) 21 0 (gu u)), fc')) ∧ ∃ s', fn_X8_areAsSeen (Model_s_s s (upd (Model_s s) wh (nI u))) = some (b01 (seenb (Room_seen (One_now v)) n (lz_c z) (nI f) K (Group_work (Room_group (One_now v))) 21 0 (gu u)), s') ∧ mk0 (Model_s_s s (upd (Model_s s) wh (nI u))) s' := by
    intro u hu s hs fc hfc
    have hso : ∀ j, j ≠ wh → Model_s (Model_s_s s (upd (Model_s s) wh (nI u))) j = Model_s m j := fun j hj => (pk_un hj).trans (hs j hj)
    obtain ⟨m1, b1, b2⟩ := fs_keeps n (Model_s_s s (upd (Model_s s) wh (nI u)))
    have b2' : FS n (Model_s_s s (upd (Model_s s) wh (nI u))) (gu u) m1 := ⟨b2.1, b2.2.1, b2.2.2.1, ag_trans (g1 u hu (Model_s s) hs) b2.2.2.2⟩
    obtain ⟨fc', s', g'', c1, c2, c3⟩ := seen_all (m0 := Model_s_s s (upd (Model_s s) wh (nI u))) (g0 := Room_group (One_now v)) (x := Room_seen (One_now v)) (K := K) (w := w) (n := n) (ea := ea) (le := le) ⟨lh_same2 hh.1 (fun j hj => hso j (by omega)), hh.2⟩ hl l0 k1 k2 ((hso 22 (by omega)).trans k3) (fun j hj => ⟨(hso _ (by omega)).trans (k4 j hj).1, (hso _ (by omega)).trans (k4 j hj).2⟩) ((hso 1 (by omega)).trans hg.1.2.2.1) hwl 21 0 rfl (fun (x1_34 : Int32) (wx_34 : ModelV) => (Option.bind (fn_X8_goesBack wx_34) (fun t2 => (if mBit x1_34 = true then some (x1_34, t2) else none)))) m_N m_N fc m1 (gu u) (by rw [m_N_val]; omega) (by rw [m_N_val]; omega) hfc b2' (g2 u) (g3 u)
    obtain ⟨m3, d1, d2⟩ := fs_back c3
    refine ⟨⟨fc', c1⟩, m3, ?_, d2⟩
    unfold fn_X8_areAsSeen
    rw [b1, m_bind_some, m_jp_eq]
    refine c2.trans ?_
    show Option.bind (fn_X8_goesBack s') _ = _
    rw [d1, m_bind_some, if_pos (b01_bit _)]
  refine ⟨fun u hu fc hfc => (main u hu m (fun _ _ => rfl) fc hfc).1, fun s u hu hs => ?_⟩
  have hfc : FC n (Room_group (One_now v)) ea (gu u) ((gu u, Room_group (One_now v), ea) : ForecastV) := ⟨ag_refl n _, ag_refl n _, rfl⟩
  exact (main u hu s hs _ hfc).2
theorem ag_us {n : Nat} {g h : GroupV} (a : ag n g h) (p : Nat) (x : Int32) : ag n (Group_skills_s g (upd (Group_skills g) p x)) (Group_skills_s h (upd (Group_skills h) p x)) := ⟨a.1, a.2.1, a.2.2.1, fun k hk => by
  obtain ⟨⟨a1, a2, a3, a4, a5, a6⟩, a7⟩ := a.2.2.2 k hk
  refine ⟨⟨a1, a2, ?_, a4, a5, a6⟩, a7⟩
  show upd (Group_skills h) p x k = upd (Group_skills g) p x k
  by_cases q : k = p
  · subst q; rw [pk_us, pk_us]
  · rw [pk_un q, pk_un q]; exact a3⟩
theorem ag_uv {n : Nat} {g h : GroupV} (a : ag n g h) (p : Nat) (x : Int32) : ag n (Group_vs_s g (upd (Group_vs g) p x)) (Group_vs_s h (upd (Group_vs h) p x)) := ⟨a.1, a.2.1, a.2.2.1, fun k hk => by
  obtain ⟨⟨a1, a2, a3, a4, a5, a6⟩, a7⟩ := a.2.2.2 k hk
  refine ⟨⟨a1, ?_, a3, a4, a5, a6⟩, a7⟩
  show upd (Group_vs h) p x k = upd (Group_vs g) p x k
  by_cases q : k = p
  · subst q; rw [pk_us, pk_us]
  · rw [pk_un q, pk_un q]; exact a2⟩
theorem ag_off {n : Nat} {g : GroupV} {s s0 : Nat → Int32} (a : ag n g (sv s0)) (hn : n ≤ 6) {p : Nat} (hp : p < n) (x : Int32) (h : ∀ j, j ≠ 39 + p → s j = s0 j) : ag n (Group_skills_s g (upd (Group_skills g) p x)) (sv (upd s (39 + p) x)) := by
  have e : ∀ j, j ≠ 39 + p → upd s (39 + p) x j = s0 j := fun j hj => (pk_un hj).trans (h j hj)
  refine ⟨(e _ (by omega)).trans a.1, (e _ (by omega)).trans a.2.1, (e _ (by omega)).trans a.2.2.1, fun k hk => ⟨⟨(e _ (by omega)).trans (ag_kinds a hk), (e _ (by omega)).trans (ag_vs a hk), ?_, (e _ (by omega)).trans (ag_wills a hk), (e _ (by omega)).trans (ag_hours a hk), (e _ (by omega)).trans (ag_outs a hk)⟩, fun i hi => (e _ (by omega)).trans (ag_rows a hk hi)⟩⟩
  show upd s (39 + p) x (39 + k) = upd (Group_skills g) p x k
  by_cases q : k = p
  · subst q; rw [pk_us, pk_us]
  · rw [e _ (by omega), pk_un q]; exact ag_skills a hk
theorem ag_ofv {n : Nat} {g : GroupV} {s s0 : Nat → Int32} (a : ag n g (sv s0)) (hn : n ≤ 6) {p : Nat} (hp : p < n) (x : Int32) (h : ∀ j, j ≠ 33 + p → s j = s0 j) : ag n (Group_vs_s g (upd (Group_vs g) p x)) (sv (upd s (33 + p) x)) := by
  have e : ∀ j, j ≠ 33 + p → upd s (33 + p) x j = s0 j := fun j hj => (pk_un hj).trans (h j hj)
  refine ⟨(e _ (by omega)).trans a.1, (e _ (by omega)).trans a.2.1, (e _ (by omega)).trans a.2.2.1, fun k hk => ⟨⟨(e _ (by omega)).trans (ag_kinds a hk), ?_, (e _ (by omega)).trans (ag_skills a hk), (e _ (by omega)).trans (ag_wills a hk), (e _ (by omega)).trans (ag_hours a hk), (e _ (by omega)).trans (ag_outs a hk)⟩, fun i hi => (e _ (by omega)).trans (ag_rows a hk hi)⟩⟩
  show upd s (33 + p) x (33 + k) = upd (Group_vs g) p x k
  by_cases q : k = p
  · subst q; rw [pk_us, pk_us]
  · rw [e _ (by omega), pk_un q]; exact ag_vs a hk
/-- the end of both calls -/
theorem fit_end {lo : Nat} (hlo : lo ≤ 1) (h : R Q v m) {F : Nat → Bool} {y : Int32} (A : (Int32 → OneV → Option (Int32 × OneV)) → Option (Int32 × OneV)) (wh : Nat) (hA : ∀ J, ∃ w', A J = J (nI (mkm F lo (10 - lo))) w' ∧ vk v w') (hB : ∃ m', fn_X8_looksForFitting m (nI wh) (nI lo) 9 = some m' ∧ Model_s m' = Model_s m ∧ Model_image m' = Model_image m ∧ Model_hasImage m' = Model_hasImage m ∧ Model_bodies m' = Model_bodies m ∧ Model_ran m' = Model_ran m ∧ Model_fitting m' = nI (fd F (10 - lo)).1 ∧ Model_firstFitting m' = (fd F (10 - lo)).2) :
    SIM Q (if y = 0 then A (fun (x3_86 : Int32) (wx_86 : OneV) => (if ¬ y = 0 then (Option.bind (fn_X7_leastOf x3_86) (fun t4 => some (t4, wx_86))) else (Option.bind (fn_J6_bitCount_0f7a4 x3_86) (fun t5 => some (t5, wx_86))))) else if y = 1 then A (fun (x3_86 : Int32) (wx_86 : OneV) => (if ¬ y = 0 then (Option.bind (fn_X7_leastOf x3_86) (fun t4 => some (t4, wx_86))) else (Option.bind (fn_J6_bitCount_0f7a4 x3_86) (fun t5 => some (t5, wx_86))))) else some ((-1), v)) (Option.bind (fn_X8_in y 0 1) (fun t3 => (if ¬ t3 = 0 then (Option.bind (fn_X8_looksForFitting m (nI wh) (nI lo) 9) (fun t5 => (if ¬ y = 0 then some ((Model_firstFitting t5), t5) else some ((Model_fitting t5), t5)))) else some ((-1), m)))) := by
  by_cases q0 : y = 0 ∨ y = 1
  case neg =>
    rw [if_neg (fun z => q0 (Or.inl z)), if_neg (fun z => q0 (Or.inr z)), in01_n (fun z => q0 (Or.inl z)) (fun z => q0 (Or.inr z)), m_bind_some, if_neg n00]
    exact ⟨_, v, m, rfl, rfl, h⟩
  have hred : ∀ (A B : Option (Int32 × OneV)), (if y = 0 then A else if y = 1 then A else B) = A := fun A B => by
    rcases q0 with q | q
    · rw [if_pos q]
    · rw [if_neg (by rw [q]; decide), if_pos q]
  obtain ⟨m', b1, b2, b3, b4, b5, b6, b7, b8⟩ := hB
  obtain ⟨w', a1, a2⟩ := hA (fun (x3_86 : Int32) (wx_86 : OneV) => (if ¬ y = 0 then (Option.bind (fn_X7_leastOf x3_86) (fun t4 => some (t4, wx_86))) else (Option.bind (fn_J6_bitCount_0f7a4 x3_86) (fun t5 => some (t5, wx_86)))))
  have hR : R Q w' m' := R_4 h b2 b3 b4 b5 b6 a2.1 a2.2.1 a2.2.2.1 a2.2.2.2
  have hb := mkm_b F lo (10 - lo) (by omega)
  obtain ⟨f1, f2⟩ := fd_mask _ hb
  rw [fd_lo F hlo] at f1 f2
  rw [hred, in01_y q0, m_bind_some, if_pos n10, b1, m_bind_some, a1, f1, f2, b7, b8, m_bind_some, m_bind_some]
  by_cases q : y = 0
  · rw [if_neg (fun z => z q), if_neg (fun z => z q)]
    exact ⟨_, w', m', rfl, rfl, hR⟩
  · rw [if_pos q, if_pos q]
    exact ⟨_, w', m', rfl, rfl, hR⟩
theorem b01_0 {α : Type} (b : Bool) (A B : α) : (if b01 b = 0 then A else B) = if b = true then B else A := by
  cases b <;> rfl
end FS2
