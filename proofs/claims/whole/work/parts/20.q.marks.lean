/-! Bounds of what is now; the reference's marks. -/
theorem mMin_nI {a b : Nat} (ha : a < 2 ^ 31) (hb : b < 2 ^ 31) : mMin (nI a) (nI b) = nI (min a b) := by
  unfold mMin
  by_cases h : b < a
  · rw [if_pos (nI_lt h ha), Nat.min_eq_right (by omega)]
  · rw [if_neg (nI_nlt (by omega) hb), Nat.min_eq_left (by omega)]
theorem mMax_nI {a b : Nat} (ha : a < 2 ^ 31) (hb : b < 2 ^ 31) : mMax (nI a) (nI b) = nI (max a b) := by
  unfold mMax
  by_cases h : a < b
  · rw [if_pos (nI_lt h hb), Nat.max_eq_right (by omega)]
  · rw [if_neg (nI_nlt (by omega) ha), Nat.max_eq_left (by omega)]
theorem w_in_nI {a b : Nat} (ha : a < 2 ^ 31) (hb : b < 2 ^ 31) : w_in (nI a) 0 (nI b) = nI (min a b) := by
  unfold w_in
  rw [if_pos (nI_pos0 ha)]
  by_cases h : a ≤ b
  · rw [if_pos (nI_le h hb), Nat.min_eq_left h]
  · rw [if_neg (nI_ge (by omega) ha), Nat.min_eq_right (by omega)]
theorem neg_case {x : Int32} (h : x < 0) {n : Nat} (hn : n < 2 ^ 31) : x < nI n := by
  rw [Int32.lt_iff_toInt_lt] at h ⊢
  rw [nI_toInt hn]
  rw [z_0] at h
  omega
theorem hd_b (x : Int32) : ∃ k, k ≤ 100 ∧ sp_hd x = nI k := by
  unfold sp_hd
  by_cases h : x < 0
  · refine ⟨0, by omega, ?_⟩
    have h1 : mMin 100 x = x := by unfold mMin; rw [if_pos (show x < (100 : Int32) from neg_case (n := 100) h (by omega))]
    rw [h1, mMax_0, if_neg (Int32.not_le.mpr h)]
    rfl
  · obtain ⟨j, hj, rfl⟩ := nI_of h
    refine ⟨min 100 j, by omega, ?_⟩
    rw [show (100 : Int32) = nI 100 from rfl, mMin_nI (by omega) hj, show (0 : Int32) = nI 0 from rfl, mMax_nI (by omega) (by omega), Nat.zero_max]
theorem hd_id {k : Nat} (h : k ≤ 100) : sp_hd (nI k) = nI k := by
  unfold sp_hd
  rw [show (100 : Int32) = nI 100 from rfl, mMin_nI (by omega) (by omega), show (0 : Int32) = nI 0 from rfl, mMax_nI (by omega) (by omega), Nat.zero_max, Nat.min_eq_right h]
theorem n_sum_b {f : Nat → Int32} {B : Nat} : ∀ {n : Nat}, (∀ k, k < n → ∃ x, x ≤ B ∧ f k = nI x) → ∃ X, X ≤ n * B ∧ n_sum n f = nI X ∧ ∀ k, k < n → ∀ x, x ≤ B → B < 2 ^ 31 → f k = nI x → x ≤ X
  | 0, _ => ⟨0, by omega, rfl, fun k hk => absurd hk (by omega)⟩
  | n + 1, h => by
    obtain ⟨X, h1, h2, h3⟩ := n_sum_b (n := n) (fun k hk => h k (by omega))
    obtain ⟨x, hx, he⟩ := h n (by omega)
    refine ⟨X + x, by rw [Nat.succ_mul]; omega, by rw [n_sum, h2, he, nI_add], fun k hk y hy hB hk2 => ?_⟩
    rcases Nat.lt_succ_iff_lt_or_eq.mp hk with h4 | h4
    · have := h3 k h4 y hy hB hk2
      omega
    · subst h4
      rw [he] at hk2
      have := (nI_eq (a := x) (b := y) (by omega) (by omega)).mp hk2
      omega
/-- bounds of what is now -/
def gr (n : Nat) (g : GroupV) : Prop := gk n g ∧ (∃ w, w ≤ 9999 ∧ Group_week g = nI w) ∧ (∃ x, x ≤ 99999 ∧ Group_work g = nI x) ∧ ∀ k, k < n → (∃ x, x < 7 ∧ Group_kinds g k = nI x) ∧ (∃ x, x < 10 ∧ Group_vs g k = nI x) ∧ (∃ x, x < 10 ∧ Group_skills g k = nI x) ∧ ∃ x, x ≤ 9999 ∧ Group_hours g k = nI x
theorem gr_ag {n : Nat} {g h : GroupV} (a : ag n g h) (k : gr n g) : gr n h := ⟨gk_ag a k.1, by rw [a.2.1]; exact k.2.1, by rw [a.2.2.1]; exact k.2.2.1, fun j hj => by rw [ag_kinds a hj, ag_vs a hj, ag_skills a hj, ag_hours a hj]; exact k.2.2.2 j hj⟩
section MK
variable {g : GroupV} {n : Nat}
theorem gr_week (h : gr n g) : ∃ w, Group_week g = nI w ∧ w < 20000 := by
  obtain ⟨w, h1, h2⟩ := h.2.1
  exact ⟨w, h2, by omega⟩
theorem share_b (h : gr n g) {p : Nat} (hp : p < n) : ∃ x, x ≤ 100 ∧ sp_share n g p = nI x := by
  obtain ⟨X, h1, h2, h3⟩ := n_sum_b (f := Group_hours g) (B := 9999) (n := n) (fun k hk => (h.2.2.2 k hk).2.2.2)
  obtain ⟨x, hx, he⟩ := (h.2.2.2 p hp).2.2.2
  have hn := h.1.1
  have hX : X < 2 ^ 31 := by
    have : n * 9999 ≤ 6 * 9999 := Nat.mul_le_mul_right _ hn
    omega
  have hxX := h3 p hp x hx (by omega) he
  unfold sp_share sp_all
  rw [h2, he]
  by_cases q : X = 0
  · subst q
    rw [if_pos (show nI 0 = 0 from rfl)]
    exact ⟨0, by omega, rfl⟩
  · rw [if_neg (nI_ne0 (by omega) hX), show (100 : Int32) = nI 100 from rfl, pk_mul, pk_div (by omega) (by omega) hX]
    refine ⟨100 * x / X, ?_, rfl⟩
    exact Nat.div_le_of_le_mul (by rw [Nat.mul_comm X 100]; exact Nat.mul_le_mul_left _ hxX)
theorem claim_b (p : Nat) : ∃ x, x ≤ 100 ∧ sp_claim n g p = nI x := by
  unfold sp_claim
  repeat' split
  all_goals first | exact hd_b _ | skip
  obtain ⟨k, h1, h2⟩ := hd_b (sp_share n g p + Group_vs g p)
  rw [h2, show (2 : Int32) = nI 2 from rfl, pk_div (by omega) (by omega) (by omega)]
  exact ⟨k / 2, by omega, rfl⟩
theorem stake_b (h : gr n g) (r : Int32) {p : Nat} (hp : p < n) : ∃ x, x ≤ 9999 ∧ sp_stake n g r p = nI x := by
  unfold sp_stake
  split
  · exact (h.2.2.2 p hp).2.2.2
  · obtain ⟨x, h1, h2⟩ := claim_b (n := n) (g := g) p
    exact ⟨x, by omega, h2⟩
theorem stakes_b (h : gr n g) (r : Int32) : ∃ X, X ≤ 59994 ∧ sp_stakes n g r = nI X := by
  obtain ⟨X, h1, h2, _⟩ := n_sum_b (f := fun k => if Group_outs g k = 0 then sp_stake n g r k else 0) (B := 9999) (n := n) (fun k hk => by
    show ∃ x, x ≤ 9999 ∧ (if Group_outs g k = 0 then sp_stake n g r k else 0) = nI x
    split
    · exact stake_b h r hk
    · exact ⟨0, by omega, rfl⟩)
  have hn := h.1.1
  have : n * 9999 ≤ 6 * 9999 := Nat.mul_le_mul_right _ hn
  exact ⟨X, by omega, h2⟩
theorem cnt_b (hn : n ≤ 6) : ∃ X, X ≤ 6 ∧ sp_cnt n g = nI X := by
  obtain ⟨X, h1, h2, _⟩ := n_sum_b (f := fun k => if Group_outs g k = 0 then 1 else 0) (B := 1) (n := n) (fun k hk => by
    show ∃ x, x ≤ 1 ∧ (if Group_outs g k = 0 then (1 : Int32) else 0) = nI x
    split
    · exact ⟨1, by omega, rfl⟩
    · exact ⟨0, by omega, rfl⟩)
  exact ⟨X, by omega, h2⟩
theorem least_b (h : gr n g) : ∃ X, X ≤ 9 ∧ sp_least n g = nI X ∧ ((∃ k, k < n ∧ Group_outs g k = 0) → sp_least8 n g = nI X) := by
  have main : ∀ m, m ≤ n → ∃ X, X ≤ 9 ∧ sp_least m g = nI X ∧ ((∀ k, k < m → ¬ Group_outs g k = 0) ∧ X = 9 ∧ sp_least8 m g = nI 99 ∨ sp_least8 m g = nI X) := by
    intro m
    induction m with
    | zero => intro _; exact ⟨9, by omega, rfl, Or.inl ⟨fun k hk => absurd hk (by omega), rfl, rfl⟩⟩
    | succ m ih =>
      intro hm
      obtain ⟨X, h1, h2, h3⟩ := ih (by omega)
      have e : sp_least (m + 1) g = if Group_outs g m = 0 then mMin (sp_least m g) (Group_skills g m) else sp_least m g := rfl
      have e8 : sp_least8 (m + 1) g = if Group_outs g m = 0 ∧ Group_skills g m < sp_least8 m g then Group_skills g m else sp_least8 m g := rfl
      by_cases q : Group_outs g m = 0
      · obtain ⟨x, hx, he⟩ := (h.2.2.2 m (by omega)).2.2.1
        refine ⟨min X x, by omega, by rw [e, if_pos q, h2, he, mMin_nI (by omega) (by omega)], Or.inr ?_⟩
        rcases h3 with ⟨h4, h5, h6⟩ | h6
        · rw [e8, h6, he, if_pos ⟨q, nI_lt (by omega) (by omega)⟩, Nat.min_eq_right (by omega)]
        · rw [e8, h6, he]
          by_cases q2 : x < X
          · rw [if_pos ⟨q, nI_lt q2 (by omega)⟩, Nat.min_eq_right (by omega)]
          · rw [if_neg (fun z => nI_nlt (by omega) (by omega) z.2), Nat.min_eq_left (by omega)]
      · refine ⟨X, h1, by rw [e, if_neg q, h2], ?_⟩
        have e9 : sp_least8 (m + 1) g = sp_least8 m g := by rw [e8, if_neg (fun z => q z.1)]
        rcases h3 with ⟨h4, h5, h6⟩ | h6
        · refine Or.inl ⟨fun k hk => ?_, h5, by rw [e9, h6]⟩
          rcases Nat.lt_succ_iff_lt_or_eq.mp hk with h | h
          · exact h4 k h
          · subst h; exact q
        · exact Or.inr (by rw [e9, h6])
  obtain ⟨X, h1, h2, h3⟩ := main n (Nat.le_refl n)
  refine ⟨X, h1, h2, fun ⟨k, hk, hk2⟩ => ?_⟩
  rcases h3 with ⟨h4, _⟩ | h5
  · exact absurd hk2 (h4 k hk)
  · exact h5
/-- the goal that is asked for -/
def GL (γ : Nat) : Nat := max 1 γ
theorem gl_w : ∀ γ, γ < 100 → w_in (nI γ) 1 99 = nI (GL γ) ∧ mMax 1 (nI γ) = nI (GL γ) ∧ 1 ≤ GL γ ∧ GL γ < 100 := by decide +kernel
theorem base_b (h : gr n g) {γ : Nat} (h1 : 1 ≤ γ) (h2 : γ < 100) : ∃ b, b ≤ 100 ∧ mMin 100 (100 * Group_work g / nI γ) = nI b ∧ w_in (100 * Group_work g / nI γ) 0 100 = nI b := by
  obtain ⟨x, hx, he⟩ := h.2.2.1
  have hd : 100 * x / γ < 2 ^ 31 := Nat.lt_of_le_of_lt (Nat.div_le_self _ _) (by omega)
  refine ⟨min 100 (100 * x / γ), by omega, ?_, ?_⟩
  · rw [he, show (100 : Int32) = nI 100 from rfl, pk_mul, pk_div (by omega) (by omega) (by omega), mMin_nI (by omega) hd]
  · rw [he, show (100 : Int32) = nI 100 from rfl, pk_mul, pk_div (by omega) (by omega) (by omega), w_in_nI hd (by omega), Nat.min_comm]
theorem mark_b (h : gr n g) {γ : Nat} (h1 : 1 ≤ γ) (h2 : γ < 100) (r : Int32) {p : Nat} (hp : p < n) : ∃ x, x ≤ 100 ∧ sp_mark n g r (nI γ) p = nI x := by
  obtain ⟨b, hb, hb2, _⟩ := base_b h h1 h2
  obtain ⟨L, hL, hL2, _⟩ := least_b h
  obtain ⟨S, hS, hS2⟩ := stakes_b h r
  obtain ⟨t, ht, ht2⟩ := stake_b h r hp
  obtain ⟨c, hc, hc2⟩ := cnt_b (g := g) h.1.1
  unfold sp_mark
  rw [hb2, hL2, hS2, ht2, hc2]
  split
  · split
    · exact ⟨b, hb, rfl⟩
    · split
      · rw [pk_mul, show (9 : Int32) = nI 9 from rfl, pk_div (Nat.lt_of_le_of_lt (Nat.mul_le_mul hb hL) (by omega)) (by omega) (by omega)]
        exact ⟨b * L / 9, by have := Nat.mul_le_mul hb hL; omega, rfl⟩
      · split
        · exact ⟨b, hb, rfl⟩
        · rename_i q
          have hS0 : 0 < S := by
            rcases Nat.eq_zero_or_pos S with z | z
            · subst z; exact absurd rfl q
            · exact z
          have hm : b * t * c ≤ 100 * 9999 * 6 := Nat.mul_le_mul (Nat.mul_le_mul hb ht) hc
          rw [pk_mul, pk_mul, pk_div (by omega) hS0 (by omega), show (100 : Int32) = nI 100 from rfl, mMin_nI (by omega) (Nat.lt_of_le_of_lt (Nat.div_le_self _ _) (by omega))]
          exact ⟨_, Nat.min_le_left _ _, rfl⟩
  · exact ⟨0, by omega, rfl⟩
end MK
section M8
variable {m : ModelV} {n : Nat} {z : LZ} {γ : Nat} {F : Int32}
theorem x8_claim (h : gr n (sv (Model_s m))) {p : Nat} (hp : p < n) : fn_X8_claimOf m (nI p) = some (sp_claim n (sv (Model_s m)) p) := by
  obtain ⟨x, hx, he⟩ := share_b h hp
  exact x8_claimOf h.1.2.1 h.1.1 hp (gr_week h) (by rw [he]; exact hd_id hx)
theorem x8_allClaims (h : gr n (sv (Model_s m))) : fn_X8_allClaims m = some (n_sum n (sp_claim n (sv (Model_s m)))) := by
  have hn := h.1.1
  have e20 : Model_s m 20 = nI n := h.1.2.1
  refine n_loop (fun f y (a : Int32) => lp_X8_allClaims_4 m f a y) (fun k => n_sum k (sp_claim n (sv (Model_s m)))) n _ (fun f => ?_) (fun f k hk => ?_) m_N (by rw [m_N_val]; omega)
  · show st_X8_allClaims_4 m _ _ _ = _
    unfold st_X8_allClaims_4
    rw [if_pos q_j20, q_c20, e20, if_pos (nI_le (Nat.le_refl n) (by omega))]
  · show st_X8_allClaims_4 m _ _ _ = _
    unfold st_X8_allClaims_4
    rw [if_pos q_j20, q_c20, e20, if_neg (nI_ge hk (by omega)), x8_claim h hk, m_bind_some, ← nI_succ]
    rfl
theorem x8_base (h : gr n (sv (Model_s m))) (hl : lh (Model_s m) z (nI γ) F) (hγ : γ < 100) : fn_X8_baseNow m = some (mMin 100 (100 * Model_s m 1 / nI (GL γ))) := by
  obtain ⟨e1, e2, e3, e4⟩ := gl_w γ hγ
  obtain ⟨b, hb, hb2, hb3⟩ := base_b h e3 e4
  have hb2 : mMin 100 (100 * Model_s m 1 / nI (GL γ)) = nI b := hb2
  have hb3 : w_in (100 * Model_s m 1 / nI (GL γ)) 0 100 = nI b := hb3
  unfold fn_X8_baseNow
  rw [if_pos q_j1, x8_goalNow hl, m_bind_some, e1, if_pos (nI_ne0 (by omega) (by omega)), q_c1, x8_within, m_bind_some, hb2, hb3]
theorem x8_partOf (h : gr n (sv (Model_s m))) (r : Int32) {p : Nat} (hp : p < n) : fn_X8_partOf m (nI p) r = some (sp_stake n (sv (Model_s m)) r p) := by
  have hn := h.1.1
  unfold fn_X8_partOf sp_stake
  by_cases q : r = 1
  · rw [if_neg (fun z => z q), if_pos q, if_pos (q_i2 (by omega)), q_a2 (by omega)]
    rfl
  · rw [if_pos q, if_neg q, x8_claim h hp, m_bind_some]
theorem x8_markLoop (h : gr n (sv (Model_s m))) (r : Int32) (K : Int32 → Option Int32) : lp_X8_markOf_47 m r K m_N 0 0 = K (sp_stakes n (sv (Model_s m)) r) := by
  have hn := h.1.1
  have e20 : Model_s m 20 = nI n := h.1.2.1
  refine n_loop (fun f y (a : Int32) => lp_X8_markOf_47 m r K f a y) (fun j => n_sum j (fun k => if Group_outs (sv (Model_s m)) k = 0 then sp_stake n (sv (Model_s m)) r k else 0)) n _ (fun f => ?_) (fun f k hk => ?_) m_N (by rw [m_N_val]; omega)
  · show st_X8_markOf_47 m r K _ _ _ = _
    unfold st_X8_markOf_47
    rw [if_pos q_j20, q_c20, e20, if_pos (nI_le (Nat.le_refl n) (by omega))]
    rfl
  · show st_X8_markOf_47 m r K _ _ _ = _
    unfold st_X8_markOf_47
    rw [if_pos q_j20, q_c20, e20, if_neg (nI_ge hk (by omega)), if_pos (q_i14 (by omega)), q_a14 (by omega), x8_partOf h r hk, m_jp_eq, ← nI_succ]
    show _ = lp_X8_markOf_47 m r K f (n_sum (k + 1) _) _
    rw [n_sum]
    by_cases q : Model_s m (14 + k) = 0
    · rw [if_neg (fun z => z q), if_pos (show Group_outs (sv (Model_s m)) k = 0 from q), m_bind_some]
    · rw [if_pos q, if_neg (show ¬ Group_outs (sv (Model_s m)) k = 0 from q)]
theorem x8_markOf (h : gr n (sv (Model_s m))) (hl : lh (Model_s m) z (nI γ) F) (hγ : γ < 100) (r : Int32) {p : Nat} (hp : p < n) : fn_X8_markOf m (nI p) r = some (sp_mark n (sv (Model_s m)) r (nI (GL γ)) p) := by
  have hn := h.1.1
  have e20 : Model_s m 20 = nI n := h.1.2.1
  obtain ⟨e1, e2, e3, e4⟩ := gl_w γ hγ
  obtain ⟨b, hb, hb2, _⟩ := base_b h e3 e4
  have hb2' : mMin 100 (100 * Model_s m 1 / nI (GL γ)) = nI b := hb2
  obtain ⟨L, hL, hL2, hL3⟩ := least_b h
  obtain ⟨S, hS, hS2⟩ := stakes_b h r
  obtain ⟨t, ht, ht2⟩ := stake_b h r hp
  obtain ⟨c, hc, hc2⟩ := cnt_b (g := sv (Model_s m)) hn
  unfold fn_X8_markOf sp_mark
  rw [if_pos (q_i14 (by omega)), q_a14 (by omega)]
  rcases (h.1.2.2 p hp).1 with ho | ho
  · have ho : Model_s m (14 + p) = 0 := ho
    rw [if_pos (by rw [ho]; decide), if_pos (show Group_outs (sv (Model_s m)) p = 0 from ho), x8_base h hl hγ, m_bind_some, m_jp_eq, x8_markLoop h r, x8_partOf h r hp, x8_manyIn e20 hn, x8_leastSkill e20 hn, hb2, hb2', hL2, hL3 ⟨p, hp, ho⟩, hS2, ht2, hc2]
    by_cases q0 : r = 0
    · rw [if_neg (fun z => z q0), if_pos q0]
    · rw [if_pos q0, if_neg q0]
      by_cases q3 : r = 3
      · rw [if_neg (fun z => z q3), if_pos q3, m_bind_some]
      · rw [if_pos q3, if_neg q3]
        show (if ¬ nI S = 0 then _ else _) = _
        by_cases qS : nI S = 0
        · rw [if_neg (fun z => z qS), if_pos qS]
        · rw [if_pos qS, if_neg qS, m_bind_some, m_bind_some, if_pos qS, x8_within, m_bind_some]
          have hS0 : 0 < S := by
            rcases Nat.eq_zero_or_pos S with z | z
            · subst z; exact absurd rfl qS
            · exact z
          have hm : b * t * c ≤ 100 * 9999 * 6 := Nat.mul_le_mul (Nat.mul_le_mul hb ht) hc
          have hd := Nat.div_le_self (b * t * c) S
          rw [pk_mul, pk_mul, pk_div (by omega) hS0 (by omega), show (100 : Int32) = nI 100 from rfl, w_in_nI (by omega) (by omega), mMin_nI (by omega) (by omega), Nat.min_comm]
  · have ho : Model_s m (14 + p) = 1 := ho
    rw [if_neg (fun z => z ho), if_neg (show ¬ Group_outs (sv (Model_s m)) p = 0 from fun z => absurd (ho.symm.trans z) (by decide))]
end M8
