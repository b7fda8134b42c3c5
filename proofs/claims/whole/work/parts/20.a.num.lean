/-! Numbers, sums, loops: what the mirrors' loops come to. -/
def n_sum : Nat → (Nat → Int32) → Int32
  | 0, _ => 0
  | n + 1, f => n_sum n f + f n
theorem n_sum_congr {f g : Nat → Int32} : ∀ {n : Nat}, (∀ k, k < n → f k = g k) → n_sum n f = n_sum n g
  | 0, _ => rfl
  | n + 1, h => by rw [n_sum, n_sum, n_sum_congr (fun k hk => h k (Nat.lt_succ_of_lt hk)), h n (Nat.lt_succ_self n)]
/-- a fold from the left over 0 .. n-1 -/
def n_fold {σ : Type} (F : Nat → σ → σ) (a : σ) : Nat → σ
  | 0 => a
  | n + 1 => F n (n_fold F a n)
theorem n_fold_congr {σ : Type} {F G : Nat → σ → σ} {a : σ} : ∀ {n : Nat}, (∀ k, k < n → ∀ s, F k s = G k s) → n_fold F a n = n_fold G a n
  | 0, _ => rfl
  | n + 1, h => by rw [n_fold, n_fold, n_fold_congr (fun k hk => h k (Nat.lt_succ_of_lt hk)), h n (Nat.lt_succ_self n)]
theorem mIn_nI {k N : Nat} (h : k < N) (hN : N < 2 ^ 31) : mIn (nI k) N = true := decide_eq_true (nI_in h hN)
theorem m_bind_some {α β : Type} (v : α) (f : α → Option β) : Option.bind (some v) f = f v := rfl
theorem m_jp_eq {K β : Type} (k : K) (f : K → β) : jp k f = f k := rfl
/-- a loop that counts up, its state by the count -/
theorem n_loop {σ β : Type} (lp : Nat → Int32 → σ → Option β) (S : Nat → σ) (n : Nat) (r : Option β) (hend : ∀ f, lp (f + 1) (nI n) (S n) = r) (hstep : ∀ f k, k < n → lp (f + 1) (nI k) (S k) = lp f (nI (k + 1)) (S (k + 1))) : ∀ f, n < f → lp f (nI 0) (S 0) = r := by
  have main : ∀ d k f, k + d = n → d < f → lp f (nI k) (S k) = r := by
    intro d
    induction d with
    | zero =>
      intro k f hk hf
      obtain ⟨f', rfl⟩ : ∃ f', f = f' + 1 := ⟨f - 1, by omega⟩
      have : k = n := by omega
      subst this
      exact hend f'
    | succ d ih =>
      intro k f hk hf
      obtain ⟨f', rfl⟩ : ∃ f', f = f' + 1 := ⟨f - 1, by omega⟩
      rw [hstep f' k (by omega)]
      exact ih (k + 1) f' (by omega) (by omega)
  intro f hf
  exact main n 0 f (by omega) hf
/-- a loop that may leave early: at the first k with P k, else at n -/
theorem n_find {β : Type} (lp : Nat → Int32 → Option β) (n : Nat) (P : Nat → Prop) (r : Nat → Option β) (e : Option β) (hend : ∀ f, lp (f + 1) (nI n) = e) (hyes : ∀ f k, k < n → P k → lp (f + 1) (nI k) = r k) (hno : ∀ f k, k < n → ¬ P k → lp (f + 1) (nI k) = lp f (nI (k + 1))) :
    ∀ f, n < f → (∃ k, k < n ∧ P k ∧ (∀ j, j < k → ¬ P j) ∧ lp f (nI 0) = r k) ∨ ((∀ j, j < n → ¬ P j) ∧ lp f (nI 0) = e) := by
  have main : ∀ d k f, k + d = n → d < f → (∀ j, j < k → ¬ P j) → (∃ i, i < n ∧ P i ∧ (∀ j, j < i → ¬ P j) ∧ lp f (nI k) = r i) ∨ ((∀ j, j < n → ¬ P j) ∧ lp f (nI k) = e) := by
    intro d
    induction d with
    | zero =>
      intro k f hk hf hb
      obtain ⟨f', rfl⟩ : ∃ f', f = f' + 1 := ⟨f - 1, by omega⟩
      have : k = n := by omega
      subst this
      exact Or.inr ⟨hb, hend f'⟩
    | succ d ih =>
      intro k f hk hf hb
      obtain ⟨f', rfl⟩ : ∃ f', f = f' + 1 := ⟨f - 1, by omega⟩
      by_cases hp : P k
      · exact Or.inl ⟨k, by omega, hp, hb, hyes f' k (by omega) hp⟩
      · rw [hno f' k (by omega) hp]
        exact ih (k + 1) f' (by omega) (by omega) (fun j hj => by
          rcases Nat.lt_succ_iff_lt_or_eq.mp hj with h | h
          · exact hb j h
          · subst h; exact hp)
  intro f hf
  exact main n 0 f (by omega) hf (fun j hj => by omega)
theorem m_N_val : m_N = 2000 := rfl
/-- places in a long row: a written number and a counted one -/
theorem s_in {m k N : Nat} (h : m + k < N) (hN : N < 2 ^ 31) : mIn (nI m + nI k) N = true := by rw [nI_add]; exact mIn_nI h hN
theorem s_at {m k : Nat} (h : m + k < 2 ^ 31) : (nI m + nI k).toNatClampNeg = m + k := by rw [nI_add]; exact nI_clamp h
