/-! The reference's looks: the row of truths as a stack. -/
/-- a loop that counts up from a, its state under an invariant -/
theorem n_loopI {σ β : Type} (lp : Nat → Int32 → σ → Option β) (I : Nat → σ → Prop) (n : Nat) (Post : Option β → Prop) (hend : ∀ f s, I n s → Post (lp (f + 1) (nI n) s)) (hstep : ∀ f k s, k < n → I k s → ∃ s', I (k + 1) s' ∧ lp (f + 1) (nI k) s = lp f (nI (k + 1)) s') : ∀ f s, n < f → I 0 s → Post (lp f (nI 0) s) := by
  have main : ∀ d k f s, k + d = n → d < f → I k s → Post (lp f (nI k) s) := by
    intro d
    induction d with
    | zero =>
      intro k f s hk hf hi
      obtain ⟨f', rfl⟩ : ∃ f', f = f' + 1 := ⟨f - 1, by omega⟩
      have : k = n := by omega
      subst this
      exact hend f' s hi
    | succ d ih =>
      intro k f s hk hf hi
      obtain ⟨f', rfl⟩ : ∃ f', f = f' + 1 := ⟨f - 1, by omega⟩
      obtain ⟨s', h1, h2⟩ := hstep f' k s (by omega) hi
      rw [h2]
      exact ih (k + 1) f' s' (by omega) (by omega) h1
  intro f s hf hi
  exact main n 0 f s (by omega) hf hi
/-- the reference's row of truths holds the stack (its head is the top) -/
def TR (tr : Nat → Int32) (s : List Bool) : Prop := ∀ j, j < s.length → tr (s.length - 1 - j) = if s.getD j false = true then 1 else 0
theorem TR_nil (tr : Nat → Int32) : TR tr [] := fun j hj => absurd hj (Nat.not_lt_zero j)
theorem TR_push {tr : Nat → Int32} {s : List Bool} (h : TR tr s) (c : Bool) : TR (upd tr s.length (if c = true then 1 else 0)) (c :: s) := by
  intro j hj
  simp only [List.length_cons] at hj
  cases j with
  | zero =>
    show upd tr s.length _ (s.length + 1 - 1 - 0) = _
    rw [show s.length + 1 - 1 - 0 = s.length by omega, pk_us]
    rfl
  | succ j =>
    show upd tr s.length _ (s.length + 1 - 1 - (j + 1)) = if s.getD j false = true then 1 else 0
    rw [pk_un (by omega), show s.length + 1 - 1 - (j + 1) = s.length - 1 - j by omega]
    exact h j (by omega)
theorem TR_pop {tr : Nat → Int32} {a : Bool} {s : List Bool} (h : TR tr (a :: s)) : TR tr s := fun j hj => by
  have := h (j + 1) (by simp; omega)
  simp only [List.length_cons] at this
  rw [show s.length + 1 - 1 - (j + 1) = s.length - 1 - j by omega] at this
  exact this
theorem TR_top {tr : Nat → Int32} {a : Bool} {s : List Bool} (h : TR tr (a :: s)) (c : Bool) : TR (upd tr s.length (if c = true then 1 else 0)) (c :: s) := TR_push (TR_pop h) c
theorem TR_read {tr : Nat → Int32} {a : Bool} {s : List Bool} (h : TR tr (a :: s)) : tr s.length = if a = true then 1 else 0 := by
  have := h 0 (by simp)
  simpa using this
theorem nar_bit (c : Bool) : vp_nar .boolean (if c = true then 1 else 0) = if c = true then 1 else 0 := by cases c <;> rfl
theorem nar_0 : vp_nar .boolean 0 = 0 := rfl
theorem nar_1 : vp_nar .boolean 1 = 1 := rfl
/-- a lesson with its kinds: tokens, spur or not, n -/
abbrev LZ : Type := List (List Nat × Bool × Nat)
def lz_w (q : List Nat × Bool × Nat) : Int32 := if q.2.1 = true then nI q.2.2 else -nI q.2.2
def lz_z (q : List Nat × Bool × Nat) : Int32 := if q.2.1 = true then -10 - nI q.2.2 else -200 - nI q.2.2
def lz_c (z : LZ) : LC := z.map (fun q => (q.1, lz_w q))
def lz_steps (z : LZ) : List Int32 := z.flatMap (fun q => q.1.map tk_ref ++ [lz_z q])
def lz_ok (z : LZ) : Prop := lc_ok (lz_c z) ∧ ∀ q ∈ z, q.2.2 < 100
/-- what the reference keeps of the class at place act -/
def lm_in (s : Nat → Int32) (act : Nat) (z : LZ) : Prop := s (221 + act) = nI (lz_steps z).length ∧ ∀ j, j < (lz_steps z).length → s (226 + 140 * act + j) = (lz_steps z).getD j 0
theorem lz_ends : ∀ n, n < 100 → ((-10 - nI n < 0 ∧ -10 - nI n ≠ -1 ∧ -10 - nI n ≤ -10 ∧ ¬ -10 - nI n ≤ -200) ∧ (-200 - nI n < 0 ∧ -200 - nI n ≠ -1 ∧ -200 - nI n ≤ -10 ∧ -200 - nI n ≤ -200)) ∧ (-10 - (-10 - nI n) = nI n ∧ -200 - (-200 - nI n) = nI n) := by decide +kernel
theorem nI_m1 (n : Nat) : nI (n + 1) + (-1) = nI n := by rw [nI_succ, Int32.add_assoc]; exact Int32.add_zero _
theorem nI_m2 (n : Nat) : nI (n + 2) + (-1) - 1 = nI n := by rw [nI_m1, nI_pred]
theorem x_a (a b : Bool) : (if (if b = true then (1 : Int32) else 0) = 0 then (0 : Int32) else (if (if a = true then (1 : Int32) else 0) = 0 then 0 else 1)) = if (b && a) = true then 1 else 0 := by cases a <;> cases b <;> rfl
section LK
variable {v m : ModelV} {t12 : Int32} {g : GroupV} {p : Nat}
/-- one token -/
theorem x8_look0 {a : Nat} {tr : Nat → Int32} {s : List Bool} {x : Bool} (rec : Int32 → Int32 → Int32 → ModelV → Option (Int32 × ModelV)) (sum : Int32) (ha : a < 926) (hin : ¬ ((226 + (140 * ((Model_s v) (26 : Int32).toNatClampNeg))) + t12) ≤ nI a) (h : TR tr (x :: s)) (hs : s.length ≤ 20) (hst : Model_s m a = -1) :
    st_X8_looks_119 v t12 rec sum (nI (s.length + 1)) (nI a) (Model_truths_s m tr) = rec sum (nI (s.length + 1)) (nI (a + 1)) (Model_truths_s m (upd tr s.length (if (!x) = true then 1 else 0))) := by
  have hst2 : Model_s (Model_truths_s m tr) a = -1 := hst
  have hr : Model_truths (Model_truths_s m tr) s.length = if x = true then 1 else 0 := TR_read h
  have i1 : mIn (nI s.length) 64 = true := mIn_nI (by omega) (by omega)
  unfold st_X8_looks_119
  rw [if_neg hin, if_pos (mIn_nI ha (by omega)), q_n (by omega), hst2, ← nI_succ]
  rw [m_jp_eq, if_pos (by decide), if_neg (by decide), nI_pred, if_pos i1, m_jp_eq, q_n (by omega), hr]
  simp only [i1, if_true]
  cases x <;> (simp [nar_0, nar_1]; try rfl)
theorem x8_look1 {a : Nat} {tr : Nat → Int32} {s : List Bool} {x y : Bool} (rec : Int32 → Int32 → Int32 → ModelV → Option (Int32 × ModelV)) (sum : Int32) (ha : a < 926) (hin : ¬ ((226 + (140 * ((Model_s v) (26 : Int32).toNatClampNeg))) + t12) ≤ nI a) (h : TR tr (x :: y :: s)) (hs : s.length ≤ 20) (hst : Model_s m a = -2) :
    st_X8_looks_119 v t12 rec sum (nI (s.length + 2)) (nI a) (Model_truths_s m tr) = rec sum (nI (s.length + 1)) (nI (a + 1)) (Model_truths_s m (upd tr s.length (if (y && x) = true then 1 else 0))) := by
  have hst2 : Model_s (Model_truths_s m tr) a = -2 := hst
  have hr : Model_truths (Model_truths_s m tr) (s.length + 1) = if x = true then 1 else 0 := TR_read h
  have hr2 : Model_truths (Model_truths_s m tr) s.length = if y = true then 1 else 0 := TR_read (TR_pop h)
  have i1 : mIn (nI s.length) 64 = true := mIn_nI (by omega) (by omega)
  have i2 : mIn (nI (s.length + 1)) 64 = true := mIn_nI (by omega) (by omega)
  unfold st_X8_looks_119
  rw [if_neg hin, if_pos (mIn_nI ha (by omega)), q_n (by omega), hst2, ← nI_succ]
  rw [m_jp_eq, if_pos (by decide), if_pos (by decide), if_neg (by decide), m_jp_eq, if_neg (by decide), nI_m2, nI_m1, if_pos i1, m_jp_eq, if_pos i2, q_n (by omega), q_n (by omega), hr, hr2]
  simp only [i1, if_true]
  cases x <;> cases y <;> (simp [nar_0, nar_1]; try rfl)
theorem x8_look2 {a : Nat} {tr : Nat → Int32} {s : List Bool} {x y : Bool} (rec : Int32 → Int32 → Int32 → ModelV → Option (Int32 × ModelV)) (sum : Int32) (ha : a < 926) (hin : ¬ ((226 + (140 * ((Model_s v) (26 : Int32).toNatClampNeg))) + t12) ≤ nI a) (h : TR tr (x :: y :: s)) (hs : s.length ≤ 20) (hst : Model_s m a = -3) :
    st_X8_looks_119 v t12 rec sum (nI (s.length + 2)) (nI a) (Model_truths_s m tr) = rec sum (nI (s.length + 1)) (nI (a + 1)) (Model_truths_s m (upd tr s.length (if (y || x) = true then 1 else 0))) := by
  have hst2 : Model_s (Model_truths_s m tr) a = -3 := hst
  have hr : Model_truths (Model_truths_s m tr) (s.length + 1) = if x = true then 1 else 0 := TR_read h
  have hr2 : Model_truths (Model_truths_s m tr) s.length = if y = true then 1 else 0 := TR_read (TR_pop h)
  have i1 : mIn (nI s.length) 64 = true := mIn_nI (by omega) (by omega)
  have i2 : mIn (nI (s.length + 1)) 64 = true := mIn_nI (by omega) (by omega)
  unfold st_X8_looks_119
  rw [if_neg hin, if_pos (mIn_nI ha (by omega)), q_n (by omega), hst2, ← nI_succ]
  rw [m_jp_eq, if_pos (by decide), if_pos (by decide), if_neg (by decide), m_jp_eq, if_pos (by decide), nI_m2, nI_m1, if_pos i1, m_jp_eq, if_pos i2, q_n (by omega), q_n (by omega), hr, hr2]
  simp only [i1, if_true]
  cases x <;> cases y <;> (simp [nar_0, nar_1]; try rfl)
theorem x8_look3 {t a : Nat} {tr : Nat → Int32} {s : List Bool} (rec : Int32 → Int32 → Int32 → ModelV → Option (Int32 × ModelV)) (sum : Int32) (ha : a < 926) (hin : ¬ ((226 + (140 * ((Model_s v) (26 : Int32).toNatClampNeg))) + t12) ≤ nI a) (hs : s.length ≤ 20) (h1 : t % 8 < 6) (h2 : t / 8 % 4 < 3) (h3 : t / 32 < 100) (hst : Model_s m a = nI t) (hby : ∀ w, w < 6 → Model_by m w = tk_sub g p w) :
    st_X8_looks_119 v t12 rec sum (nI s.length) (nI a) (Model_truths_s m tr) = rec sum (nI (s.length + 1)) (nI (a + 1)) (Model_truths_s m (upd tr s.length (if tk_B g p t = true then 1 else 0))) := by
  have hst2 : Model_s (Model_truths_s m tr) a = nI t := hst
  have i1 : mIn (nI s.length) 64 = true := mIn_nI (by omega) (by omega)
  have ht4 : t < 4000 := by omega
  have e1 : mRem (nI t) 8 = nI (t % 8) := pk_rem (d := 8) (by omega) (by omega) (by omega)
  have e2 : nI t / 8 = nI (t / 8) := pk_div (d := 8) (by omega) (by omega) (by omega)
  have e3 : mRem (nI (t / 8)) 4 = nI (t / 8 % 4) := pk_rem (d := 4) (by omega) (by omega) (by omega)
  have e4 : nI t / 32 = nI (t / 32) := pk_div (d := 32) (by omega) (by omega) (by omega)
  have hb : Model_by (Model_truths_s m tr) (t % 8) = tk_sub g p (t % 8) := hby _ h1
  unfold st_X8_looks_119
  rw [if_neg hin, if_pos (mIn_nI ha (by omega)), q_n (by omega), hst2, ← nI_succ]
  rw [m_jp_eq, if_neg (nI_pos (by omega)), e1, if_pos (mIn_nI h1 (by omega)), m_jp_eq, e2, e3, e4, q_n (by omega), hb, q_n (by omega), ← nI_succ]
  simp only [i1, if_true]
  unfold tk_B
  have c : t / 8 % 4 = 0 ∨ t / 8 % 4 = 1 ∨ t / 8 % 4 = 2 := by omega
  rcases c with c | c | c
  · rw [c, if_neg (show ¬ ¬ nI 0 = 0 from fun q => q rfl)]
    by_cases q : tk_sub g p (t % 8) < nI (t / 32)
    · rw [if_neg (Int32.not_le.mpr q), nar_1]; simp [q]
    · rw [if_pos (Int32.not_lt.mp q), nar_0]; simp [q]
  · rw [c, if_pos (show ¬ nI 1 = 0 by decide), if_neg (show ¬ ¬ nI 1 = 1 from fun q => q rfl)]
    by_cases q : tk_sub g p (t % 8) = nI (t / 32)
    · rw [if_neg (fun z => z q), nar_1]; simp [q]
    · rw [if_pos q, nar_0]; simp [q]
  · rw [c, if_pos (show ¬ nI 2 = 0 by decide), if_pos (show ¬ nI 2 = 1 by decide)]
    by_cases q : nI (t / 32) < tk_sub g p (t % 8)
    · rw [if_neg (Int32.not_le.mpr q), nar_1]; simp [q]
    · rw [if_pos (Int32.not_lt.mp q), nar_0]; simp [q]
theorem x8_look {t a : Nat} {tr : Nat → Int32} {s : List Bool} {d : Nat} (rec : Int32 → Int32 → Int32 → ModelV → Option (Int32 × ModelV)) (sum : Int32) (ha : a < 926) (hin : ¬ ((226 + (140 * ((Model_s v) (26 : Int32).toNatClampNeg))) + t12) ≤ nI a) (ht : tk_ok t) (h : TR tr s) (hd : tk_dep [t] s.length = some d) (hs : s.length ≤ 20) (hstep : Model_s m a = tk_ref t) (hby : ∀ w, w < 6 → Model_by m w = tk_sub g p w) :
    ∃ tr', st_X8_looks_119 v t12 rec sum (nI s.length) (nI a) (Model_truths_s m tr) = rec sum (nI d) (nI (a + 1)) (Model_truths_s m tr') ∧ TR tr' (tk_step (tk_B g p) t s) ∧ (tk_step (tk_B g p) t s).length = d := by
  match t, s, hd with
  | 0, [], hd => simp [tk_dep] at hd
  | 0, x :: s, hd =>
    have e : d = s.length + 1 := by simp [tk_dep] at hd; omega
    subst e
    exact ⟨_, x8_look0 rec sum ha hin h (by simp at hs; omega) hstep, TR_top h (!x), rfl⟩
  | 1, [], hd => simp [tk_dep] at hd
  | 1, [x], hd => simp [tk_dep] at hd
  | 1, x :: y :: s, hd =>
    have e : d = s.length + 1 := by simp [tk_dep] at hd; omega
    subst e
    exact ⟨_, x8_look1 rec sum ha hin h (by simp at hs; omega) hstep, TR_top (TR_pop h) (y && x), rfl⟩
  | 2, [], hd => simp [tk_dep] at hd
  | 2, [x], hd => simp [tk_dep] at hd
  | 2, x :: y :: s, hd =>
    have e : d = s.length + 1 := by simp [tk_dep] at hd; omega
    subst e
    exact ⟨_, x8_look2 rec sum ha hin h (by simp at hs; omega) hstep, TR_top (TR_pop h) (y || x), rfl⟩
  | t + 3, s, hd =>
    rcases ht with ht | ⟨-, h1, h2, h3⟩
    · omega
    simp only [Nat.add_sub_cancel] at h1 h2 h3
    have e : d = s.length + 1 := by
      simp only [tk_dep] at hd
      by_cases q : s.length < 20
      · rw [if_pos q] at hd; exact (Option.some.inj hd).symm
      · rw [if_neg q] at hd; cases hd
    subst e
    exact ⟨_, x8_look3 rec sum ha hin hs h1 h2 h3 hstep hby, TR_push h (tk_B g p t), rfl⟩
/-- the tokens of one -/
theorem x8_inner {lim : Nat} (hlim : (226 + (140 * ((Model_s v) (26 : Int32).toNatClampNeg))) + t12 = nI lim) (hl9 : lim ≤ 926) (hby : ∀ w, w < 6 → Model_by m w = tk_sub g p w) (sum : Int32) : ∀ (l : List Nat) (a f : Nat) (tr : Nat → Int32) (s : List Bool) (d : Nat), TR tr s → s.length ≤ 20 → (∀ t ∈ l, tk_ok t) → tk_dep l s.length = some d → a + l.length < lim → (∀ j, j < l.length → Model_s m (a + j) = tk_ref (l.getD j 0)) →
    ∃ tr', lp_X8_looks_119 v t12 (f + l.length) sum (nI s.length) (nI a) (Model_truths_s m tr) = lp_X8_looks_119 v t12 f sum (nI d) (nI (a + l.length)) (Model_truths_s m tr') ∧ TR tr' (tk_run (tk_B g p) l s) ∧ (tk_run (tk_B g p) l s).length = d := by
  intro l
  induction l with
  | nil =>
    intro a f tr s d hx hs hok hd ha hc
    have e : s.length = d := Option.some.inj hd
    exact ⟨tr, by rw [e]; rfl, hx, e⟩
  | cons t r ih =>
    intro a f tr s d hx hs hok hd ha hc
    simp only [List.length_cons] at ha
    rw [tk_dep_cons] at hd
    cases hd1 : tk_dep [t] s.length with
    | none => rw [hd1] at hd; cases hd
    | some d1 =>
      rw [hd1] at hd
      obtain ⟨tr1, h1, h2, h3⟩ := x8_look (v := v) (m := m) (t12 := t12) (a := a) (lp_X8_looks_119 v t12 (f + r.length)) sum (by omega) (by rw [hlim]; exact nI_ge (by omega) (by omega)) (hok t List.mem_cons_self) hx hd1 hs (hc 0 (by simp)) hby
      obtain ⟨tr2, g1, g2, g3⟩ := ih (a + 1) f tr1 (tk_step (tk_B g p) t s) d h2 (by rw [h3]; exact tk_dep_one hs hd1) (fun u hu => hok u (List.mem_cons_of_mem _ hu)) (by rw [h3]; exact hd) (by omega) (fun j hj => by
        have := hc (j + 1) (by simp; omega)
        rw [show a + 1 + j = a + (j + 1) by omega, this]
        rfl)
      refine ⟨tr2, ?_, g2, g3⟩
      show st_X8_looks_119 v t12 (lp_X8_looks_119 v t12 (f + r.length)) sum (nI s.length) (nI a) (Model_truths_s m tr) = _
      rw [h1, ← h3, g1, List.length_cons, show a + 1 + r.length = a + (r.length + 1) by omega]
/-- what ends one -/
theorem x8_end {lim : Nat} (hlim : (226 + (140 * ((Model_s v) (26 : Int32).toNatClampNeg))) + t12 = nI lim) (hl9 : lim ≤ 926) (sum : Int32) (q : List Nat × Bool × Nat) (hq : q.2.2 < 100) (a : Nat) (ha : a < lim) (tr : Nat → Int32) (b : Bool) (hb : TR tr [b]) (hstep : Model_s m a = lz_z q) (rec : Int32 → Int32 → Int32 → ModelV → Option (Int32 × ModelV)) :
    st_X8_looks_119 v t12 rec sum (nI 1) (nI a) (Model_truths_s m tr) = rec (if b = true then sum + lz_w q else sum) 0 (nI (a + 1)) (Model_truths_s m tr) := by
  have hr : tr 0 = if b = true then 1 else 0 := TR_read hb
  have hst : Model_s (Model_truths_s m tr) a = lz_z q := hstep
  obtain ⟨⟨⟨h1, h2, h3, h4⟩, g1, g2, g3, g4⟩, e1, e2⟩ := lz_ends q.2.2 hq
  unfold st_X8_looks_119
  rw [hlim, if_neg (nI_ge ha (by omega)), if_pos (mIn_nI (by omega) (by omega)), nI_clamp (by omega), hst, ← nI_succ]
  simp only [m_jp_eq]
  have i0 : mIn 0 64 = true := by decide
  have c0 : (0 : Int32).toNatClampNeg = 0 := by decide
  rw [c0]
  have ht : Model_truths (Model_truths_s m tr) 0 = if b = true then 1 else 0 := hr
  rw [ht]
  unfold lz_z lz_w
  cases hk : q.2.1 with
  | true =>
    simp only [if_true]
    rw [if_pos h1, if_pos h2, if_pos h3, if_pos i0, if_neg h4, e1]
    have h5 : -200 < -10 - nI q.2.2 := Int32.not_le.mp h4
    rw [if_pos h5]
    cases b with
    | true => simp [Int32.not_le.mpr h5]
    | false => simp
  | false =>
    simp only [Bool.false_eq_true, if_false]
    rw [if_pos g1, if_pos g2, if_pos g3, if_pos i0, if_pos g4, e2]
    have h5 : ¬ -200 < -200 - nI q.2.2 := Int32.not_lt.mpr g4
    rw [if_neg h5]
    cases b with
    | true => simp [Int32.sub_eq_add_neg, g4]
    | false => simp
theorem lz_steps_cons (q : List Nat × Bool × Nat) (z : LZ) : lz_steps (q :: z) = q.1.map tk_ref ++ ([lz_z q] ++ lz_steps z) := by
  unfold lz_steps
  rw [List.flatMap_cons, List.append_assoc]
/-- all of them -/
theorem x8_outer {lim : Nat} (hlim : (226 + (140 * ((Model_s v) (26 : Int32).toNatClampNeg))) + t12 = nI lim) (hl9 : lim ≤ 926) (hby : ∀ w, w < 6 → Model_by m w = tk_sub g p w) : ∀ (z : LZ) (a f : Nat) (sum : Int32) (tr : Nat → Int32), (∀ q ∈ z, (∀ t ∈ q.1, tk_ok t) ∧ tk_dep q.1 0 = some 1 ∧ q.2.2 < 100) → a + (lz_steps z).length = lim → (∀ j, j < (lz_steps z).length → Model_s m (a + j) = (lz_steps z).getD j 0) →
    ∃ tr', lp_X8_looks_119 v t12 (f + 1 + (lz_steps z).length) sum 0 (nI a) (Model_truths_s m tr) = some (sp_from g p sum (lz_c z), Model_truths_s m tr') := by
  intro z
  induction z with
  | nil =>
    intro a f sum tr hok ha hc
    refine ⟨tr, ?_⟩
    show st_X8_looks_119 v t12 (lp_X8_looks_119 v t12 f) sum 0 (nI a) (Model_truths_s m tr) = _
    unfold st_X8_looks_119
    have e : a = lim := ha
    rw [hlim, if_pos (by rw [e]; exact nI_le (Nat.le_refl _) (by omega))]
    rfl
  | cons q z ih =>
    intro a f sum tr hok ha hc
    have hq := hok q List.mem_cons_self
    have hlen : (lz_steps (q :: z)).length = q.1.length + (1 + (lz_steps z).length) := by rw [lz_steps_cons, List.length_append, List.length_append, List.length_map]; rfl
    rw [hlen] at ha
    have hget1 : ∀ j, j < q.1.length → Model_s m (a + j) = tk_ref (q.1.getD j 0) := fun j hj => by
      rw [hc j (by rw [hlen]; omega), lz_steps_cons, List.getD_eq_getElem?_getD, List.getElem?_append_left (by rw [List.length_map]; exact hj), List.getElem?_map, List.getD_eq_getElem?_getD, List.getElem?_eq_getElem hj]
      rfl
    have hget2 : Model_s m (a + q.1.length) = lz_z q := by
      rw [hc _ (by rw [hlen]; omega), lz_steps_cons, List.getD_eq_getElem?_getD, List.getElem?_append_right (by rw [List.length_map]; exact Nat.le_refl _), List.length_map, Nat.sub_self]
      rfl
    have hget3 : ∀ j, j < (lz_steps z).length → Model_s m (a + q.1.length + 1 + j) = (lz_steps z).getD j 0 := fun j hj => by
      rw [show a + q.1.length + 1 + j = a + (q.1.length + 1 + j) by omega, hc _ (by rw [hlen]; omega), lz_steps_cons, List.getD_eq_getElem?_getD, List.getElem?_append_right (by rw [List.length_map]; omega), List.length_map, show q.1.length + 1 + j - q.1.length = j + 1 by omega]
      rw [List.getD_eq_getElem?_getD]
      rfl
    obtain ⟨tr1, h1, h2, h3⟩ := x8_inner (v := v) (m := m) (t12 := t12) hlim hl9 hby sum q.1 a (f + 1 + (lz_steps z).length + 1) tr [] 1 (TR_nil tr) (by simp) hq.1 hq.2.1 (by omega) hget1
    obtain ⟨b, hb⟩ : ∃ b, tk_run (tk_B g p) q.1 [] = [b] := by
      match hr : tk_run (tk_B g p) q.1 [], h3 with
      | [b], _ => exact ⟨b, rfl⟩
    rw [hb] at h2
    have hh : sp_holds g p q.1 = b := by unfold sp_holds; rw [hb]; rfl
    obtain ⟨tr2, g1⟩ := ih (a + q.1.length + 1) f (if b = true then sum + lz_w q else sum) tr1 (fun u hu => hok u (List.mem_cons_of_mem _ hu)) (by omega) hget3
    refine ⟨tr2, ?_⟩
    rw [hlen, show f + 1 + (q.1.length + (1 + (lz_steps z).length)) = f + 1 + (lz_steps z).length + 1 + q.1.length by omega]
    refine Eq.trans h1 ?_
    show st_X8_looks_119 v t12 (lp_X8_looks_119 v t12 (f + 1 + (lz_steps z).length)) sum (nI 1) (nI (a + q.1.length)) (Model_truths_s m tr1) = _
    rw [x8_end (v := v) (m := m) (t12 := t12) hlim hl9 sum q hq.2.2 _ (by omega) tr1 b h2 hget2, g1]
    unfold sp_from lz_c
    simp only [List.map_cons, List.foldl_cons, hh]
end LK
