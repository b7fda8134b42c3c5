/-! The stack of open answers: as bits of one int (the class), as a row (the reference); tokens: 0 not, 1 and, 2 or, t+3 a test. -/
def SR (x : Int32) (s : List Bool) : Prop := s.length ≤ 30 ∧ ∀ i, i < 32 → bt x i = s.getD i false
theorem b_1 : ∀ i, i < 32 → bt 1 i = decide (i = 0) := by decide +kernel
theorem b_m2 : ∀ i, i < 32 → bt (-2) i = decide (i ≠ 0) := by decide +kernel
theorem SR_nil : SR 0 [] := ⟨by simp, fun i _ => by rw [b_0]; rfl⟩
theorem SR_test {x : Int32} {s : List Bool} (h : SR x s) (hl : s.length < 30) (c : Bool) : SR ((x <<< ((1 : Int32) &&& 31)) ||| (if c = true then 1 else 0)) (c :: s) := by
  refine ⟨by simp; omega, fun i hi => ?_⟩
  have e : bt (x <<< ((1 : Int32) &&& 31)) i = (decide (1 ≤ i) && bt x (i - 1)) := b_shl 1 (by omega) x hi
  rw [b_or, e]
  cases i with
  | zero =>
    cases c with
    | true => simp [b_1 0 (by omega)]
    | false => simp [b_0]
  | succ i =>
    rw [show i + 1 - 1 = i from rfl, h.2 i (by omega)]
    cases c with
    | true => simp [b_1 (i + 1) hi]
    | false => simp [b_0]
theorem SR_not {x : Int32} {a : Bool} {s : List Bool} (h : SR x (a :: s)) : SR (x ^^^ 1) ((!a) :: s) := by
  refine ⟨h.1, fun i hi => ?_⟩
  rw [b_xor, h.2 i hi, b_1 i hi]
  cases i with
  | zero => simp
  | succ i => simp
theorem l_out (l : List Bool) (n : Nat) (h : l.length ≤ n) : l.getD n false = false := by simp [List.getD_eq_getElem?_getD, List.getElem?_eq_none h]
theorem SR_pop {x : Int32} {a : Bool} {s : List Bool} (h : SR x (a :: s)) {i : Nat} (hi : i < 32) : bt (x >>> ((1 : Int32) &&& 31)) i = s.getD i false := by
  have e : bt (x >>> ((1 : Int32) &&& 31)) i = if 1 + i < 32 then bt x (1 + i) else bt x 31 := b_sshr 1 (by omega) x hi
  have hl : s.length < 30 := by have := h.1; simp at this; omega
  rw [e]
  by_cases h1 : 1 + i < 32
  · rw [if_pos h1, h.2 _ h1, Nat.add_comm]
    rfl
  · rw [if_neg h1, h.2 31 (by omega)]
    have h3 : s.length ≤ i := by omega
    have h4 : (a :: s).length ≤ 31 := by simp; omega
    rw [l_out _ _ h4, l_out _ _ h3]
theorem SR_or {x : Int32} {a b : Bool} {s : List Bool} (h : SR x (a :: b :: s)) : SR ((x >>> ((1 : Int32) &&& 31)) ||| (x &&& 1)) ((b || a) :: s) := by
  refine ⟨by have := h.1; simp at this ⊢; omega, fun i hi => ?_⟩
  rw [b_or, SR_pop h hi, b_and, h.2 i hi, b_1 i hi]
  cases i with
  | zero => simp
  | succ i => simp
theorem SR_top {x : Int32} {a : Bool} {s : List Bool} (h : SR x (a :: s)) : (x &&& 1) = (if a = true then 1 else 0) := by
  refine b_ext (fun i hi => ?_)
  rw [b_and, h.2 i hi, b_1 i hi]
  cases i with
  | zero => cases a <;> simp [b_1 0 (by omega), b_0]
  | succ i => cases a <;> simp [b_1 (i + 1) hi, b_0]
theorem SR_and {x : Int32} {a b : Bool} {s : List Bool} (h : SR x (a :: b :: s)) : SR (if ¬ (x &&& 1) = 1 then (x >>> ((1 : Int32) &&& 31)) &&& (-2) else x >>> ((1 : Int32) &&& 31)) ((b && a) :: s) := by
  refine ⟨by have := h.1; simp at this ⊢; omega, fun i hi => ?_⟩
  rw [SR_top h]
  cases a with
  | true =>
    simp only [if_true, not_true_eq_false, if_false, Bool.and_true]
    rw [SR_pop h hi]
  | false =>
    rw [if_neg (show ¬ false = true by decide), if_pos (by decide), b_and, SR_pop h hi, b_m2 i hi]
    cases i with
    | zero => simp
    | succ i => simp
/-- tokens -/
def tk_ref : Nat → Int32
  | 0 => -1
  | 1 => -2
  | 2 => -3
  | t + 3 => nI t
def tk_cls : Nat → Int32
  | 0 => -1
  | 1 => -2
  | 2 => -3
  | t + 3 => nI (((t % 8) * 3 + t / 8 % 4) * 100 + t / 32)
def tk_ok (t : Nat) : Prop := t < 3 ∨ (3 ≤ t ∧ (t - 3) % 8 < 6 ∧ (t - 3) / 8 % 4 < 3 ∧ (t - 3) / 32 < 100)
/-- how many answers are open behind it (none: too few) -/
def tk_dep : List Nat → Nat → Option Nat
  | [], d => some d
  | 0 :: r, d => if 1 ≤ d then tk_dep r d else none
  | 1 :: r, d => if 2 ≤ d then tk_dep r (d - 1) else none
  | 2 :: r, d => if 2 ≤ d then tk_dep r (d - 1) else none
  | _ :: r, d => if d < 20 then tk_dep r (d + 1) else none
def tk_step (B : Nat → Bool) : Nat → List Bool → List Bool
  | 0, a :: s => (!a) :: s
  | 1, a :: b :: s => (b && a) :: s
  | 2, a :: b :: s => (b || a) :: s
  | t + 3, s => B t :: s
  | _, s => s
def tk_run (B : Nat → Bool) (l : List Nat) (s : List Bool) : List Bool := l.foldl (fun s t => tk_step B t s) s
/-- what a test looks at -/
def tk_sub (g : GroupV) (p w : Nat) : Int32 := if w = 0 then nI p else if w = 1 then Group_kinds g p else if w = 2 then Group_vs g p else if w = 3 then Group_skills g p else if w = 4 then Group_hours g p / 10 else mRem (Group_week g) 10
def tk_B (g : GroupV) (p t : Nat) : Bool :=
  if t / 8 % 4 = 0 then decide (tk_sub g p (t % 8) < nI (t / 32)) else if t / 8 % 4 = 1 then decide (tk_sub g p (t % 8) = nI (t / 32)) else decide (nI (t / 32) < tk_sub g p (t % 8))
theorem x2_subjectOf {g : GroupV} {p w : Nat} (hp : p < 6) (hw : w < 6) : fn_X2_subjectOf g (nI p) (nI w) = some (tk_sub g p w) := by
  have i6 : mIn (nI p) 6 = true := mIn_nI hp (by omega)
  unfold fn_X2_subjectOf tk_sub
  rw [nI_clamp (show p < 2 ^ 31 by omega)]
  simp only [i6, if_true]
  match w, hw with
  | 0, _ => rfl
  | 1, _ => rfl
  | 2, _ => rfl
  | 3, _ => rfl
  | 4, _ => rfl
  | 5, _ => rfl
  | w + 6, h => omega
/-- one step of the class's look is the token's -/
theorem x3_look {g : GroupV} {p t : Nat} {x : Int32} {s : List Bool} (hp : p < 6) (ht : tk_ok t) (h : SR x s) {d : Nat} (hd : tk_dep [t] s.length = some d) (hs : s.length ≤ 20) : ∃ y, fn_X3_look g x (tk_cls t) (nI p) = some y ∧ SR y (tk_step (tk_B g p) t s) ∧ (tk_step (tk_B g p) t s).length = d := by
  match t, s, hd with
  | 0, [], hd => simp [tk_dep] at hd
  | 0, a :: s, hd =>
    refine ⟨x ^^^ 1, by simp [fn_X3_look, tk_cls], SR_not h, ?_⟩
    simpa [tk_dep, tk_step] using hd
  | 1, [], hd => simp [tk_dep] at hd
  | 1, [a], hd => simp [tk_dep] at hd
  | 1, a :: b :: s, hd =>
    refine ⟨_, ?_, SR_and h, ?_⟩
    · unfold fn_X3_look
      rw [show tk_cls 1 = -2 from rfl, if_neg (by decide), if_pos rfl]
      split <;> rfl
    · simpa [tk_dep, tk_step] using hd
  | 2, [], hd => simp [tk_dep] at hd
  | 2, [a], hd => simp [tk_dep] at hd
  | 2, a :: b :: s, hd =>
    refine ⟨_, ?_, SR_or h, ?_⟩
    · unfold fn_X3_look
      rw [show tk_cls 2 = -3 from rfl, if_pos rfl]
    · simpa [tk_dep, tk_step] using hd
  | t + 3, s, hd =>
    rcases ht with ht | ⟨-, h1, h2, h3⟩
    · omega
    simp only [Nat.add_sub_cancel] at h1 h2 h3
    have hl : s.length < 20 ∧ s.length + 1 = d := by
      simp only [tk_dep] at hd
      by_cases q : s.length < 20
      · rw [if_pos q] at hd; exact ⟨q, Option.some.inj hd⟩
      · rw [if_neg q] at hd; cases hd
    refine ⟨_, ?_, SR_test h (by omega) (tk_B g p t), by simp [tk_step]; exact hl.2⟩
    have e1 : nI (((t % 8) * 3 + t / 8 % 4) * 100 + t / 32) / 100 = nI ((t % 8) * 3 + t / 8 % 4) := by
      rw [show (100 : Int32) = nI 100 from rfl, pk_div (by omega) (by omega) (by omega)]
      congr 1
      omega
    have e2 : nI ((t % 8) * 3 + t / 8 % 4) / 3 = nI (t % 8) := by
      rw [show (3 : Int32) = nI 3 from rfl, pk_div (by omega) (by omega) (by omega)]
      congr 1
      omega
    have e3 : mRem (nI ((t % 8) * 3 + t / 8 % 4)) 3 = nI (t / 8 % 4) := by
      have := pk_rem (a := (t % 8) * 3 + t / 8 % 4) (d := 3) (by omega) (by omega) (by omega)
      refine Eq.trans this ?_
      congr 1
      omega
    have e4 : mRem (nI (((t % 8) * 3 + t / 8 % 4) * 100 + t / 32)) 100 = nI (t / 32) := by
      have := pk_rem (a := ((t % 8) * 3 + t / 8 % 4) * 100 + t / 32) (d := 100) (by omega) (by omega) (by omega)
      refine Eq.trans this ?_
      congr 1
      omega
    have hb : ((t % 8) * 3 + t / 8 % 4) * 100 + t / 32 < 2 ^ 31 := by omega
    have n3 : ¬ nI (((t % 8) * 3 + t / 8 % 4) * 100 + t / 32) = -3 := fun q => nI_pos hb (by rw [q]; decide)
    have n2 : ¬ nI (((t % 8) * 3 + t / 8 % 4) * 100 + t / 32) = -2 := fun q => nI_pos hb (by rw [q]; decide)
    have n1 : ¬ nI (((t % 8) * 3 + t / 8 % 4) * 100 + t / 32) = -1 := fun q => nI_pos hb (by rw [q]; decide)
    unfold fn_X3_look
    rw [show tk_cls (t + 3) = nI (((t % 8) * 3 + t / 8 % 4) * 100 + t / 32) from rfl]
    rw [if_neg n3, if_neg n2, if_neg n1, e1, e2, e3, e4, x2_subjectOf hp (by omega), m_bind_some, m_jp_eq]
    simp only [m_jp_eq]
    have c : t / 8 % 4 = 0 ∨ t / 8 % 4 = 1 ∨ t / 8 % 4 = 2 := by omega
    unfold tk_B
    rcases c with c | c | c
    · rw [c]
      by_cases q : tk_sub g p (t % 8) < nI (t / 32)
      · simp [q, nI_0, Int32.not_le.mpr q]
      · simp [q, nI_0, Int32.not_lt.mp q]
    · rw [c]
      by_cases q : tk_sub g p (t % 8) = nI (t / 32)
      · simp [q, show ¬ nI 1 = 0 by decide, show nI 1 = 1 from rfl]
      · simp [q, show ¬ nI 1 = 0 by decide, show nI 1 = 1 from rfl]
    · rw [c]
      by_cases q : nI (t / 32) < tk_sub g p (t % 8)
      · simp [q, show ¬ nI 2 = 0 by decide, show ¬ nI 2 = 1 by decide, Int32.not_le.mpr q]
      · simp [q, show ¬ nI 2 = 0 by decide, show ¬ nI 2 = 1 by decide, Int32.not_lt.mp q]
