/-! The class's zeal over a lesson's rows. -/
theorem tk_dep_cons (t : Nat) (r : List Nat) (d : Nat) : tk_dep (t :: r) d = (tk_dep [t] d).bind (tk_dep r) := by
  match t with
  | 0 => by_cases h : 1 ≤ d <;> simp [tk_dep, h]
  | 1 => by_cases h : 2 ≤ d <;> simp [tk_dep, h]
  | 2 => by_cases h : 2 ≤ d <;> simp [tk_dep, h]
  | t + 3 => by_cases h : d < 20 <;> simp [tk_dep, h]
theorem tk_dep_one {t d e : Nat} (hd : d ≤ 20) (h : tk_dep [t] d = some e) : e ≤ 20 := by
  match t with
  | 0 => by_cases q : 1 ≤ d <;> simp [tk_dep, q] at h <;> omega
  | 1 => by_cases q : 2 ≤ d <;> simp [tk_dep, q] at h <;> omega
  | 2 => by_cases q : 2 ≤ d <;> simp [tk_dep, q] at h <;> omega
  | t + 3 => by_cases q : d < 20 <;> simp [tk_dep, q] at h <;> omega
theorem x3_inner {le : LessonV} {g : GroupV} {p i : Nat} {k : Int32 → Int32 → Option Int32} (hp : p < 6) (hi : i < 10) : ∀ (l : List Nat) (a f : Nat) (x : Int32) (s : List Bool) (d : Nat), l.length < f → SR x s → s.length ≤ 20 → (∀ t ∈ l, tk_ok t) → tk_dep l s.length = some d → Lesson_ends le i = nI (a + l.length) → a + l.length ≤ 100 → (∀ j, j < l.length → Lesson_code le (a + j) = tk_cls (l.getD j 0)) →
    ∃ y, lp_X3_zealOf_20 le g (nI p) (nI i) k f (nI a) x = k (nI (a + l.length)) y ∧ SR y (tk_run (tk_B g p) l s) ∧ (tk_run (tk_B g p) l s).length = d := by
  intro l
  have ii : mIn (nI i) 10 = true := mIn_nI hi (by omega)
  have ic : (nI i).toNatClampNeg = i := nI_clamp (by omega)
  induction l with
  | nil =>
    intro a f x s d hf hx hs hok hd he ha hc
    obtain ⟨f, rfl⟩ : ∃ f', f = f' + 1 := ⟨f - 1, by simp at hf; omega⟩
    refine ⟨x, ?_, hx, Option.some.inj hd⟩
    show st_X3_zealOf_20 le g (nI p) (nI i) k _ _ _ = _
    unfold st_X3_zealOf_20
    rw [if_pos ii, ic, he, if_pos (nI_le (by simp) (by simp at ha ⊢; omega))]
    rfl
  | cons t r ih =>
    intro a f x s d hf hx hs hok hd he ha hc
    obtain ⟨f, rfl⟩ : ∃ f', f = f' + 1 := ⟨f - 1, by simp at hf; omega⟩
    simp only [List.length_cons] at hf he ha
    rw [tk_dep_cons] at hd
    cases hd1 : tk_dep [t] s.length with
    | none => rw [hd1] at hd; cases hd
    | some d1 =>
      rw [hd1] at hd
      obtain ⟨y, h1, h2, h3⟩ := x3_look (g := g) hp (hok t List.mem_cons_self) hx hd1 hs
      have hcode : Lesson_code le a = tk_cls t := hc 0 (by simp)
      obtain ⟨z, g1, g2, g3⟩ := ih (a + 1) f y (tk_step (tk_B g p) t s) d (by omega) h2 (by rw [h3]; exact tk_dep_one hs hd1) (fun u hu => hok u (List.mem_cons_of_mem _ hu)) (by rw [h3]; exact hd) (by rw [he]; congr 1; omega) (by omega) (fun j hj => by
        have := hc (j + 1) (by simp; omega)
        rw [show a + 1 + j = a + (j + 1) by omega, this]
        rfl)
      refine ⟨z, ?_, g2, g3⟩
      show st_X3_zealOf_20 le g (nI p) (nI i) k _ _ _ = _
      unfold st_X3_zealOf_20
      have h100 : ¬ Int32.ofNat 100 ≤ nI a := nI_ge (by omega) (by omega)
      rw [if_pos ii, ic, he, if_neg (nI_ge (by omega) (by omega)), if_neg h100, if_pos (mIn_nI (by omega) (by omega)), nI_clamp (by omega), hcode, h1, m_bind_some, ← nI_succ, g1]
      congr 2
      simp only [List.length_cons]
      omega
/-- a lesson as told: for each spur its tokens, and what it is worth -/
abbrev LC : Type := List (List Nat × Int32)
def lc_len (c : LC) : Nat := (c.map (fun q => q.1.length)).sum
def lc_flat (c : LC) : List Nat := c.flatMap (fun q => q.1)
def lc_ok (c : LC) : Prop := c.length ≤ 10 ∧ lc_len c ≤ 100 ∧ ∀ q ∈ c, (∀ t ∈ q.1, tk_ok t) ∧ tk_dep q.1 0 = some 1
/-- the rows of a Lesson hold it -/
def lc_in (le : LessonV) (c : LC) : Prop := Lesson_spurs le = nI c.length ∧ (∀ i, i < c.length → Lesson_ends le i = nI (lc_len (c.take (i + 1))) ∧ Lesson_worths le i = (c.getD i ([], 0)).2) ∧ ∀ j, j < lc_len c → Lesson_code le j = tk_cls ((lc_flat c).getD j 0)
def sp_holds (g : GroupV) (p : Nat) (l : List Nat) : Bool := (tk_run (tk_B g p) l []).headD false
def sp_worth (g : GroupV) (p : Nat) (c : LC) : Int32 := c.foldl (fun a q => if sp_holds g p q.1 = true then a + q.2 else a) 0
