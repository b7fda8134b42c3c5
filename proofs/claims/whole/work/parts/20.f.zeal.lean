/-! The class's zeal over a lesson's rows. -/
theorem tk_dep_cons (t : Nat) (r : List Nat) (d : Nat) : tk_dep (t :: r) d = (tk_dep [t] d).bind (tk_dep r) := by
  match t with
  | 0 => by_cases h : 1 ≤ d <;> simp [tk_dep, h]
  | 1 => by_cases h : 2 ≤ d <;> simp [tk_dep, h]
  | 2 => by_cases h : 2 ≤ d <;> simp [tk_dep, h]
  | t + 3 => by_cases h : d < 20 <;> simp [tk_dep, h]
theorem tk_dep_one {t d e : Nat} (hd : d ≤ 20) (h : tk_dep [t] d = some e) : e ≤ 20 := by
  match t with
  | 0 => by_cases q : 1 ≤ d <;> simp [tk_dep, q] at h <;> omega
  | 1 => by_cases q : 2 ≤ d <;> simp [tk_dep, q] at h <;> omega
  | 2 => by_cases q : 2 ≤ d <;> simp [tk_dep, q] at h <;> omega
  | t + 3 => by_cases q : d < 20 <;> simp [tk_dep, q] at h <;> omega
theorem x3_inner {le : LessonV} {g : GroupV} {p i : Nat} {k : Int32 → Int32 → Option Int32} (hp : p < 6) (hi : i < 10) : ∀ (l : List Nat) (a f : Nat) (x : Int32) (s : List Bool) (d : Nat), l.length < f → SR x s → s.length ≤ 20 → (∀ t ∈ l, tk_ok t) → tk_dep l s.length = some d → Lesson_ends le i = nI (a + l.length) → a + l.length ≤ 100 → (∀ j, j < l.length → Lesson_code le (a + j) = tk_cls (l.getD j 0)) →
    ∃ y, lp_X3_zealOf_20 le g (nI p) (nI i) k f (nI a) x = k (nI (a + l.length)) y ∧ SR y (tk_run (tk_B g p) l s) ∧ (tk_run (tk_B g p) l s).length = d := by
  intro l
  have ii : mIn (nI i) 10 = true := mIn_nI hi (by omega)
  have ic : (nI i).toNatClampNeg = i := nI_clamp (by omega)
  induction l with
  | nil =>
    intro a f x s d hf hx hs hok hd he ha hc
    obtain ⟨f, rfl⟩ : ∃ f', f = f' + 1 := ⟨f - 1, by simp at hf; omega⟩
    refine ⟨x, ?_, hx, Option.some.inj hd⟩
    show st_X3_zealOf_20 le g (nI p) (nI i) k _ _ _ = _
    unfold st_X3_zealOf_20
    rw [if_pos ii, ic, he, if_pos (nI_le (by simp) (by simp at ha ⊢; omega))]
    rfl
  | cons t r ih =>
    intro a f x s d hf hx hs hok hd he ha hc
    obtain ⟨f, rfl⟩ : ∃ f', f = f' + 1 := ⟨f - 1, by simp at hf; omega⟩
    simp only [List.length_cons] at hf he ha
    rw [tk_dep_cons] at hd
    cases hd1 : tk_dep [t] s.length with
    | none => rw [hd1] at hd; cases hd
    | some d1 =>
      rw [hd1] at hd
      obtain ⟨y, h1, h2, h3⟩ := x3_look (g := g) hp (hok t List.mem_cons_self) hx hd1 hs
      have hcode : Lesson_code le a = tk_cls t := hc 0 (by simp)
      obtain ⟨z, g1, g2, g3⟩ := ih (a + 1) f y (tk_step (tk_B g p) t s) d (by omega) h2 (by rw [h3]; exact tk_dep_one hs hd1) (fun u hu => hok u (List.mem_cons_of_mem _ hu)) (by rw [h3]; exact hd) (by rw [he]; congr 1; omega) (by omega) (fun j hj => by
        have := hc (j + 1) (by simp; omega)
        rw [show a + 1 + j = a + (j + 1) by omega, this]
        rfl)
      refine ⟨z, ?_, g2, g3⟩
      show st_X3_zealOf_20 le g (nI p) (nI i) k _ _ _ = _
      unfold st_X3_zealOf_20
      have h100 : ¬ Int32.ofNat 100 ≤ nI a := nI_ge (by omega) (by omega)
      rw [if_pos ii, ic, he, if_neg (nI_ge (by omega) (by omega)), if_neg h100, if_pos (mIn_nI (by omega) (by omega)), nI_clamp (by omega), hcode, h1, m_bind_some, ← nI_succ, g1]
      congr 2
      simp only [List.length_cons]
      omega
/-- a lesson as told: for each spur its tokens, and what it is worth -/
abbrev LC : Type := List (List Nat × Int32)
def lc_len (c : LC) : Nat := (c.map (fun q => q.1.length)).sum
def lc_flat (c : LC) : List Nat := c.flatMap (fun q => q.1)
def lc_ok (c : LC) : Prop := c.length ≤ 10 ∧ lc_len c ≤ 100 ∧ ∀ q ∈ c, (∀ t ∈ q.1, tk_ok t) ∧ tk_dep q.1 0 = some 1
/-- the rows of a Lesson hold it -/
def lc_in (le : LessonV) (c : LC) : Prop := Lesson_spurs le = nI c.length ∧ (∀ i, i < c.length → Lesson_ends le i = nI (lc_len (c.take (i + 1))) ∧ Lesson_worths le i = (c.getD i ([], 0)).2) ∧ ∀ j, j < lc_len c → Lesson_code le j = tk_cls ((lc_flat c).getD j 0)
def sp_holds (g : GroupV) (p : Nat) (l : List Nat) : Bool := (tk_run (tk_B g p) l []).headD false
def sp_worth (g : GroupV) (p : Nat) (c : LC) : Int32 := c.foldl (fun a q => if sp_holds g p q.1 = true then a + q.2 else a) 0
theorem lc_len_flat (c : LC) : (lc_flat c).length = lc_len c := by
  unfold lc_flat lc_len
  rw [List.length_flatMap]
theorem lc_split {c : LC} {k : Nat} (h : k < c.length) : c = c.take k ++ c[k] :: c.drop (k + 1) := by
  rw [← List.drop_eq_getElem_cons h, List.take_append_drop]
theorem lc_take {c : LC} {k : Nat} (h : k < c.length) : c.take (k + 1) = c.take k ++ [c[k]] := (List.take_append_getElem h).symm
theorem lc_len_app (a b : LC) : lc_len (a ++ b) = lc_len a + lc_len b := by
  unfold lc_len
  rw [List.map_append, List.sum_append]
theorem lc_len_take {c : LC} {k : Nat} (h : k < c.length) : lc_len (c.take (k + 1)) = lc_len (c.take k) + c[k].1.length := by
  rw [lc_take h, lc_len_app]
  simp [lc_len]
theorem lc_flat_at {c : LC} {k j : Nat} (h : k < c.length) (hj : j < c[k].1.length) : (lc_flat c).getD (lc_len (c.take k) + j) 0 = c[k].1.getD j 0 := by
  have e : lc_flat c = lc_flat (c.take k) ++ (c[k].1 ++ lc_flat (c.drop (k + 1))) :=
    (congrArg lc_flat (lc_split h)).trans (by unfold lc_flat; rw [List.flatMap_append, List.flatMap_cons])
  rw [e, List.getD_eq_getElem?_getD, List.getD_eq_getElem?_getD, List.getElem?_append_right (by rw [lc_len_flat]; omega), lc_len_flat, Nat.add_sub_cancel_left, List.getElem?_append_left hj]
theorem lc_len_le {c : LC} {k : Nat} (h : k ≤ c.length) : lc_len (c.take k) ≤ lc_len c := by
  conv => rhs; rw [← List.take_append_drop k c, lc_len_app]
  omega
/-- what it is worth, from a start -/
def sp_from (g : GroupV) (p : Nat) (a : Int32) (c : LC) : Int32 := c.foldl (fun a q => if sp_holds g p q.1 = true then a + q.2 else a) a
theorem x3_zealOf {le : LessonV} {g : GroupV} {p : Nat} {c : LC} (hp : p < 6) (hok : lc_ok c) (hin : lc_in le c) : fn_X3_zealOf le g (nI p) = some (mMax 0 (sp_from g p 5 c)) := by
  obtain ⟨h10, h100, hall⟩ := hok
  obtain ⟨hsp, hrow, hcode⟩ := hin
  unfold fn_X3_zealOf
  rw [m_jp_eq]
  refine n_loop (fun f y (s : Int32 × Int32) => lp_X3_zealOf_8 le g (nI p) (fun x3 => some (mMax 0 x3)) f s.1 s.2 y) (fun k => (sp_from g p 5 (c.take k), nI (lc_len (c.take k)))) c.length _ (fun f => ?_) (fun f k hk => ?_) m_N (by rw [m_N_val]; omega)
  · show st_X3_zealOf_8 le g (nI p) _ _ _ _ _ = _
    unfold st_X3_zealOf_8
    rw [hsp, if_pos (nI_le (Nat.le_refl _) (by omega)), List.take_length]
  · show st_X3_zealOf_8 le g (nI p) _ _ _ _ _ = _
    unfold st_X3_zealOf_8
    have hq : c[k] ∈ c := List.getElem_mem hk
    have hlen := lc_len_take hk
    have hle := lc_len_le (c := c) (k := k + 1) (by omega)
    obtain ⟨y, h1, h2, h3⟩ := x3_inner (le := le) (g := g) (p := p) (i := k) (k := fun x4 x6 => jp (fun (x3_82 : Int32) => lp_X3_zealOf_8 le g (nI p) (fun x3 => some (mMax 0 x3)) f x3_82 x4 (nI k + 1)) (fun j82 => (if ¬ (x6 &&& 1) = 1 then j82 (sp_from g p 5 (c.take k)) else (if mIn (nI k) 10 = true then j82 (sp_from g p 5 (c.take k) + ((Lesson_worths le) (nI k).toNatClampNeg)) else none)))) hp (by omega) c[k].1 (lc_len (c.take k)) m_N 0 [] 1 (by rw [m_N_val]; omega) SR_nil (by simp) (hall _ hq).1 (hall _ hq).2 (by rw [(hrow k hk).1, hlen]) (by omega) (fun j hj => by
      rw [hcode _ (by omega), lc_flat_at hk hj])
    rw [hsp, if_neg (nI_ge hk (by omega)), m_jp_eq]
    refine Eq.trans h1 ?_
    obtain ⟨b, hb⟩ : ∃ b, tk_run (tk_B g p) c[k].1 [] = [b] := by
      match hr : tk_run (tk_B g p) c[k].1 [], h3 with
      | [b], _ => exact ⟨b, rfl⟩
    have hh : sp_holds g p c[k].1 = b := by unfold sp_holds; rw [hb]; rfl
    rw [hb] at h2
    have ht := SR_top h2
    have hw : Lesson_worths le k = c[k].2 := by
      rw [(hrow k hk).2, List.getD_eq_getElem?_getD, List.getElem?_eq_getElem hk]
      rfl
    have hf : sp_from g p 5 (c.take (k + 1)) = if b = true then sp_from g p 5 (c.take k) + c[k].2 else sp_from g p 5 (c.take k) := by
      unfold sp_from
      rw [lc_take hk, List.foldl_append]
      simp only [List.foldl_cons, List.foldl_nil, hh]
    show _ = lp_X3_zealOf_8 le g (nI p) _ f (sp_from g p 5 (c.take (k + 1))) (nI (lc_len (c.take (k + 1)))) (nI (k + 1))
    rw [hf, m_jp_eq, ht, nI_clamp (show k < 2 ^ 31 by omega), hw, ← nI_succ, ← hlen]
    cases b with
    | true => rw [if_neg (by simp), if_pos (mIn_nI (show k < 10 by omega) (by omega)), if_pos rfl]
    | false => rw [if_pos (by decide), if_neg (by decide)]
