/-! Reading: factors, every, some. -/
theorem tk_dep_app : ∀ (l k : List Nat) (d : Nat), tk_dep (l ++ k) d = (tk_dep l d).bind (tk_dep k)
  | [], k, d => rfl
  | t :: l, k, d => by
    rw [List.cons_append, tk_dep_cons, tk_dep_cons t l]
    cases tk_dep [t] d with
    | none => rfl
    | some d' => exact tk_dep_app l k d'
/-- tokens well formed, one more answer open behind them -/
def DEP (M : Nat) (l : List Nat) : Prop := (∀ t ∈ l, tk_ok t) ∧ ∀ d, d ≤ M → tk_dep l d = some (d + 1)
theorem dep_and {M : Nat} {l k : List Nat} {t : Nat} (ht : t = 1 ∨ t = 2) (hl : DEP M l) (hk : DEP (M + 1) k) : DEP M (l ++ k ++ [t]) := by
  refine ⟨fun u hu => ?_, fun d hd => ?_⟩
  · rcases List.mem_append.mp hu with h | h
    · rcases List.mem_append.mp h with h | h
      · exact hl.1 u h
      · exact hk.1 u h
    · rw [List.mem_singleton.mp h]
      exact Or.inl (by omega)
  · rw [tk_dep_app, tk_dep_app, hl.2 d hd]
    show ((tk_dep k (d + 1)).bind (tk_dep [t])) = _
    rw [hk.2 (d + 1) (by omega)]
    show tk_dep [t] (d + 1 + 1) = _
    rcases ht with rfl | rfl
    · show (if 2 ≤ d + 1 + 1 then some (d + 1 + 1 - 1) else none) = _
      rw [if_pos (by omega)]
      rfl
    · show (if 2 ≤ d + 1 + 1 then some (d + 1 + 1 - 1) else none) = _
      rw [if_pos (by omega)]
      rfl
theorem dep_not {M : Nat} {l : List Nat} (hl : DEP M l) : DEP M (l ++ [0]) := by
  refine ⟨fun u hu => ?_, fun d hd => ?_⟩
  · rcases List.mem_append.mp hu with h | h
    · exact hl.1 u h
    · rw [List.mem_singleton.mp h]
      exact Or.inl (by omega)
  · rw [tk_dep_app, hl.2 d hd]
    show (if 1 ≤ d + 1 then some (d + 1) else none) = _
    rw [if_pos (by omega)]
theorem dep_test {M t : Nat} (hM : M < 20) (h1 : t % 8 < 6) (h2 : t / 8 % 4 < 3) (h3 : t / 32 < 100) : DEP M [t + 3] := by
  refine ⟨fun u hu => ?_, fun d hd => ?_⟩
  · rw [List.mem_singleton.mp hu]
    exact Or.inr ⟨by omega, by simpa using h1, by simpa using h2, by simpa using h3⟩
  · show (if d < 20 then some (d + 1) else none) = _
    rw [if_pos (by omega)]
theorem dep_less {M N : Nat} {l : List Nat} (h : DEP M l) (hN : N ≤ M) : DEP N l := ⟨h.1, fun d hd => h.2 d (by omega)⟩
section EI
variable {tp : Nat → Nat} {e a : Nat} {m0 : ModelV} {T0 : Nat → Int32} {z : LZ} {γ f : Nat}
/-- a reader of the class and one of the reference do the same: E's or F's, with so many open -/
def SAME (tp : Nat → Nat) (e a : Nat) (m0 : ModelV) (T0 : Nat → Int32) (z : LZ) (γ f : Nat) (o M : Nat) (rp : ReaderV → Option (Int32 × ReaderV)) (fa : ModelV → Option ModelV) : Prop := ∀ K pos L r m, PR tp e a m0 T0 z γ f K pos L r m → Model_open m = nI o →
  (∃ l pos' r' m', rp r = some (1, r') ∧ fa m = some m' ∧ PR tp e a m0 T0 z γ f K pos' (L ++ l) r' m' ∧ Model_open m' = nI o ∧ pos < pos' ∧ DEP M l) ∨ (∃ r' m', rp r = some (0, r') ∧ fa m = some m' ∧ FR e a m0 T0 r' m')
theorem fl_every (fa : ModelV → Option ModelV) {pos : Nat} {m : ModelV} (h : FL e a m0 pos m) {F : Nat} (hF : 0 < F) : lp_X8_every_4 fa F m = some m := by
  obtain ⟨F, rfl⟩ : ∃ f', F = f' + 1 := ⟨F - 1, by omega⟩
  show st_X8_every_4 fa _ _ = _
  unfold st_X8_every_4
  rw [h.1, if_pos n10]
theorem fl_some (fa : ModelV → Option ModelV) {pos : Nat} {m : ModelV} (h : FL e a m0 pos m) {F : Nat} (hF : 0 < F) : lp_X8_some_4 fa F m = some m := by
  obtain ⟨F, rfl⟩ : ∃ f', F = f' + 1 := ⟨F - 1, by omega⟩
  show st_X8_some_4 fa _ _ = _
  unfold st_X8_some_4
  rw [h.1, if_pos n10]
/-- behind a factor: further ones with & -/
theorem every_loop (d : DT tp e a m0 T0) (hz : z.length ≤ 10) {o M : Nat} {rp : ReaderV → Int32 → Option (Int32 × ReaderV)} {fa : ModelV → Option ModelV} (hS : SAME tp e a m0 T0 z γ f o (M + 1) (fun r => rp r (nI o)) fa) (J : ReaderV → Option (Int32 × ReaderV)) : ∀ n K pos k fC fM L l (r : ReaderV) (m : ModelV), e - pos ≤ n → 1 ≤ k → k ≤ pos → n + 2 ≤ fC → n + 2 ≤ fM → PR tp e a m0 T0 z γ f K pos (L ++ l) r m → Model_open m = nI o → DEP M l →
    (∃ l' pos' r' m', lp_X4_readEither_28 rp (nI o) J J fC (nI k) r = J r' ∧ lp_X8_every_4 fa fM m = some m' ∧ PR tp e a m0 T0 z γ f K pos' (L ++ l') r' m' ∧ Model_open m' = nI o ∧ pos ≤ pos' ∧ DEP M l') ∨ (∃ r' m', lp_X4_readEither_28 rp (nI o) J J fC (nI k) r = some (0, r') ∧ lp_X8_every_4 fa fM m = some m' ∧ FR e a m0 T0 r' m') := by
  intro n
  induction n with
  | zero =>
    intro K pos k fC fM L l r m hn hk1 hk hC hM h ho hl
    obtain ⟨fC, rfl⟩ : ∃ f', fC = f' + 1 := ⟨fC - 1, by omega⟩
    obtain ⟨fM, rfl⟩ : ∃ f', fM = f' + 1 := ⟨fM - 1, by omega⟩
    have hpe : pos ≤ e := h.2.2.2.2.2.1
    have he := d.1
    have hcur : ¬ cur tp e pos = nI 38 := fun w => by have := cur_lt w (by omega); omega
    have hsz : Reader_size r = nI e := h.1.2.1
    refine Or.inl ⟨l, pos, r, m, ?_, ?_, h, ho, Nat.le_refl _, hl⟩
    · show st_X4_readEither_28 rp _ J J _ _ _ = _
      unfold st_X4_readEither_28
      rw [hsz, if_neg (nI_nlt (by omega) (by omega)), m_jp_eq, if_neg (nI_nle (by omega) (by omega)), show (38 : Int32) = nI 38 from rfl, pr_take d h 38 (by omega), if_neg hcur, m_bind_some, if_neg n00]
    · show st_X8_every_4 fa _ _ = _
      unfold st_X8_every_4
      rw [h.2.2.2.2.2.2.1, if_neg n00, pr_here d h, m_bind_some, if_pos (show ¬ cur tp e pos = 38 from hcur)]
  | succ n ih =>
    intro K pos k fC fM L l r m hn hk1 hk hC hM h ho hl
    obtain ⟨fC, rfl⟩ : ∃ f', fC = f' + 1 := ⟨fC - 1, by omega⟩
    obtain ⟨fM, rfl⟩ : ∃ f', fM = f' + 1 := ⟨fM - 1, by omega⟩
    have hpe : pos ≤ e := h.2.2.2.2.2.1
    have he := d.1
    have hsz : Reader_size r = nI e := h.1.2.1
    have eC : lp_X4_readEither_28 rp (nI o) J J (fC + 1) (nI k) r = if cur tp e pos = nI 38 then Option.bind (rp (Reader_place_s r (nI (pos + 1))) (nI o)) (fun t5 => (if ¬ t5.1 = 0 then (Option.bind (fn_X3_addCode (Reader_lesson t5.2) (-2)) (fun t8 => lp_X4_readEither_28 rp (nI o) J J fC (nI (k + 1)) (Reader_lesson_s t5.2 t8))) else some (0, t5.2))) else J r := by
      show st_X4_readEither_28 rp _ J J _ _ _ = _
      unfold st_X4_readEither_28
      rw [hsz, if_neg (nI_nlt (by omega) (by omega)), m_jp_eq, if_neg (nI_nle (by omega) (by omega)), show (38 : Int32) = nI 38 from rfl, pr_take d h 38 (by omega), ← nI_succ]
      by_cases q : cur tp e pos = nI 38
      · rw [if_pos q, if_pos q, m_bind_some, if_pos n10]
        simp only [m_jp_eq, if_neg (show ¬ nI k ≤ 0 from nI_nle (by omega) (by omega))]
      · rw [if_neg q, if_neg q, m_bind_some, if_neg n00]
    have eM : lp_X8_every_4 fa (fM + 1) m = if cur tp e pos = nI 38 then Option.bind (fa (Model_spot_s m (nI (pos + 1)))) (fun t5 => (Option.bind (fn_X8_emits t5 (-2)) (fun t6 => lp_X8_every_4 fa fM t6))) else some m := by
      show st_X8_every_4 fa _ _ = _
      unfold st_X8_every_4
      rw [h.2.2.2.2.2.2.1, if_neg n00, pr_here d h, m_bind_some, h.2.2.2.2.1, nI_1]
      by_cases q : cur tp e pos = nI 38
      · rw [if_pos q, if_neg (show ¬ ¬ cur tp e pos = 38 from fun w => w q)]
      · rw [if_neg q, if_pos (show ¬ cur tp e pos = 38 from q)]
    rw [eC, eM]
    by_cases q : cur tp e pos = nI 38
    · rw [if_pos q, if_pos q]
      have hst := pr_step h (cur_lt q (by omega))
      rcases hS (K + 1) (pos + 1) (L ++ l) _ _ hst ho with ⟨l2, pos2, r2, m2, a1, a2, a3, a4, a5, a6⟩ | ⟨r2, m2, a1, a2, a3⟩
      · have a1' : rp (Reader_place_s r (nI (pos + 1))) (nI o) = some (1, r2) := a1
        rw [a1', a2, m_bind_some, m_bind_some, if_pos n10]
        obtain ⟨le3, m3, b1, b2, b3, b4⟩ := pr_emit d hz a3 1
        have b1' : fn_X3_addCode (Reader_lesson r2) (-2) = some le3 := b1
        have b2' : fn_X8_emits m2 (-2) = some m3 := b2
        rw [b1', b2', m_bind_some, m_bind_some]
        have b3' : PR tp e a m0 T0 z γ f K pos2 (L ++ (l ++ l2 ++ [1])) (Reader_lesson_s r2 le3) m3 := by
          rw [show L ++ (l ++ l2 ++ [1]) = L ++ l ++ l2 ++ [1] by simp only [List.append_assoc]]
          exact b3
        rcases ih K pos2 (k + 1) fC fM L (l ++ l2 ++ [1]) _ m3 (by omega) (by omega) (by omega) (by omega) (by omega) b3' (b4.trans a4) (dep_and (Or.inl rfl) hl a6) with ⟨l', pos', r', m', c1, c2, c3, c4, c5, c6⟩ | ⟨r', m', c1, c2, c3⟩
        · exact Or.inl ⟨l', pos', r', m', c1, c2, c3, c4, by omega, c6⟩
        · exact Or.inr ⟨r', m', c1, c2, c3⟩
      · have a1' : rp (Reader_place_s r (nI (pos + 1))) (nI o) = some (0, r2) := a1
        rw [a1', a2, m_bind_some, m_bind_some, if_neg n00]
        obtain ⟨p', f0, f1, f2, f3⟩ := a3
        rw [fl_emits f3, m_bind_some, fl_every fa f3 (by omega)]
        exact Or.inr ⟨r2, m2, rfl, rfl, p', f0, f1, f2, f3⟩
    · rw [if_neg q, if_neg q]
      exact Or.inl ⟨l, pos, r, m, rfl, rfl, h, ho, Nat.le_refl _, hl⟩
/-- factors with & between, from the first on -/
theorem every_all (d : DT tp e a m0 T0) (hz : z.length ≤ 10) {o M : Nat} {rp : ReaderV → Int32 → Option (Int32 × ReaderV)} {fa ev so : ModelV → Option ModelV} (hS : SAME tp e a m0 T0 z γ f o (M + 1) (fun r => rp r (nI o)) fa) (J : ReaderV → Option (Int32 × ReaderV)) {K pos : Nat} {L : List Nat} {r : ReaderV} {m : ModelV} (h : PR tp e a m0 T0 z γ f K pos L r m) (ho : Model_open m = nI o) :
    (∃ l' pos' r' m', lp_X4_readEither_28 rp (nI o) J J m_N 0 r = J r' ∧ bd_X8_every fa ev so m = some m' ∧ PR tp e a m0 T0 z γ f K pos' (L ++ l') r' m' ∧ Model_open m' = nI o ∧ pos < pos' ∧ DEP M l') ∨ (∃ r' m', lp_X4_readEither_28 rp (nI o) J J m_N 0 r = some (0, r') ∧ bd_X8_every fa ev so m = some m' ∧ FR e a m0 T0 r' m') := by
  have he := d.1
  have hsz : Reader_size r = nI e := h.1.2.1
  have eC : lp_X4_readEither_28 rp (nI o) J J m_N 0 r = Option.bind (rp r (nI o)) (fun t5 => (if ¬ t5.1 = 0 then lp_X4_readEither_28 rp (nI o) J J 1999 (nI 1) t5.2 else some (0, t5.2))) := by
    rw [m_N_val]
    show st_X4_readEither_28 rp _ J J _ _ _ = _
    unfold st_X4_readEither_28
    rw [hsz, if_neg (nI_pos (by omega)), m_jp_eq, if_pos (show (0 : Int32) ≤ 0 by decide)]
    simp only [m_jp_eq, if_pos (show (0 : Int32) ≤ 0 by decide)]
    rfl
  rw [eC]
  unfold bd_X8_every
  rcases hS K pos L r m h ho with ⟨l, pos1, r1, m1, a1, a2, a3, a4, a5, a6⟩ | ⟨r1, m1, a1, a2, a3⟩
  · have a1' : rp r (nI o) = some (1, r1) := a1
    rw [a1', a2, m_bind_some, m_bind_some, if_pos n10]
    have hpe : pos1 ≤ e := a3.2.2.2.2.2.1
    rcases every_loop d hz hS J e K pos1 1 1999 m_N L l r1 m1 (by omega) (by omega) (by omega) (by omega) (by rw [m_N_val]; omega) a3 a4 (dep_less a6 (by omega)) with ⟨l', pos', r', m', c1, c2, c3, c4, c5, c6⟩ | ⟨r', m', c1, c2, c3⟩
    · exact Or.inl ⟨l', pos', r', m', c1, c2, c3, c4, by omega, c6⟩
    · exact Or.inr ⟨r', m', c1, c2, c3⟩
  · have a1' : rp r (nI o) = some (0, r1) := a1
    rw [a1', a2, m_bind_some, m_bind_some, if_neg n00]
    obtain ⟨p', f0, f1, f2, f3⟩ := a3
    rw [fl_every fa f3 (by rw [m_N_val]; omega)]
    exact Or.inr ⟨r1, m1, rfl, rfl, p', f0, f1, f2, f3⟩
/-- behind a term: further ones with | -/
theorem some_loop (d : DT tp e a m0 T0) (hz : z.length ≤ 10) {o M : Nat} {rp : ReaderV → Int32 → Option (Int32 × ReaderV)} {fa ev so : ModelV → Option ModelV} (hS : SAME tp e a m0 T0 z γ f o (M + 2) (fun r => rp r (nI o)) fa) : ∀ n K pos k fC fM L l (r : ReaderV) (m : ModelV), e - pos ≤ n → 1 ≤ k → k ≤ pos → n + 2 ≤ fC → n + 2 ≤ fM → PR tp e a m0 T0 z γ f K pos (L ++ l) r m → Model_open m = nI o → DEP M l →
    (∃ l' pos' r' m', lp_X4_readEither_2 rp (nI o) (fun (wx_23 : ReaderV) => some (1, wx_23)) fC (nI k) r = some (1, r') ∧ lp_X8_some_4 (bd_X8_every fa ev so) fM m = some m' ∧ PR tp e a m0 T0 z γ f K pos' (L ++ l') r' m' ∧ Model_open m' = nI o ∧ pos ≤ pos' ∧ DEP M l') ∨ (∃ r' m', lp_X4_readEither_2 rp (nI o) (fun (wx_23 : ReaderV) => some (1, wx_23)) fC (nI k) r = some (0, r') ∧ lp_X8_some_4 (bd_X8_every fa ev so) fM m = some m' ∧ FR e a m0 T0 r' m') := by
  intro n
  induction n with
  | zero =>
    intro K pos k fC fM L l r m hn hk1 hk hC hM h ho hl
    obtain ⟨fC, rfl⟩ : ∃ f', fC = f' + 1 := ⟨fC - 1, by omega⟩
    obtain ⟨fM, rfl⟩ : ∃ f', fM = f' + 1 := ⟨fM - 1, by omega⟩
    have hpe : pos ≤ e := h.2.2.2.2.2.1
    have he := d.1
    have hcur : ¬ cur tp e pos = nI 124 := fun w => by have := cur_lt w (by omega); omega
    have hsz : Reader_size r = nI e := h.1.2.1
    refine Or.inl ⟨l, pos, r, m, ?_, ?_, h, ho, Nat.le_refl _, hl⟩
    · show st_X4_readEither_2 rp _ _ _ _ _ = _
      unfold st_X4_readEither_2
      rw [hsz, if_neg (nI_nlt (by omega) (by omega)), m_jp_eq, if_neg (nI_nle (by omega) (by omega)), show (124 : Int32) = nI 124 from rfl, pr_take d h 124 (by omega), if_neg hcur, m_bind_some, if_neg n00]
    · show st_X8_some_4 _ _ _ = _
      unfold st_X8_some_4
      rw [h.2.2.2.2.2.2.1, if_neg n00, pr_here d h, m_bind_some, if_pos (show ¬ cur tp e pos = 124 from hcur)]
  | succ n ih =>
    intro K pos k fC fM L l r m hn hk1 hk hC hM h ho hl
    obtain ⟨fC, rfl⟩ : ∃ f', fC = f' + 1 := ⟨fC - 1, by omega⟩
    obtain ⟨fM, rfl⟩ : ∃ f', fM = f' + 1 := ⟨fM - 1, by omega⟩
    have hpe : pos ≤ e := h.2.2.2.2.2.1
    have he := d.1
    have hsz : Reader_size r = nI e := h.1.2.1
    have eC : lp_X4_readEither_2 rp (nI o) (fun (wx_23 : ReaderV) => some (1, wx_23)) (fC + 1) (nI k) r = if cur tp e pos = nI 124 then lp_X4_readEither_28 rp (nI o) (fun (wx_81 : ReaderV) => (Option.bind (fn_X3_addCode (Reader_lesson wx_81) (-3)) (fun t3 => lp_X4_readEither_2 rp (nI o) (fun (wx_23 : ReaderV) => some (1, wx_23)) fC (nI (k + 1)) (Reader_lesson_s wx_81 t3)))) (fun (wx_81 : ReaderV) => (Option.bind (fn_X3_addCode (Reader_lesson wx_81) (-3)) (fun t3 => lp_X4_readEither_2 rp (nI o) (fun (wx_23 : ReaderV) => some (1, wx_23)) fC (nI (k + 1)) (Reader_lesson_s wx_81 t3)))) m_N 0 (Reader_place_s r (nI (pos + 1))) else some (1, r) := by
      show st_X4_readEither_2 rp _ _ _ _ _ = _
      unfold st_X4_readEither_2
      rw [hsz, if_neg (nI_nlt (by omega) (by omega)), m_jp_eq, if_neg (nI_nle (by omega) (by omega)), show (124 : Int32) = nI 124 from rfl, pr_take d h 124 (by omega), ← nI_succ]
      by_cases q : cur tp e pos = nI 124
      · rw [if_pos q, if_pos q, m_bind_some, if_pos n10]
        simp only [m_jp_eq, if_neg (show ¬ nI k ≤ 0 from nI_nle (by omega) (by omega))]
      · rw [if_neg q, if_neg q, m_bind_some, if_neg n00]
    have eM : lp_X8_some_4 (bd_X8_every fa ev so) (fM + 1) m = if cur tp e pos = nI 124 then Option.bind (bd_X8_every fa ev so (Model_spot_s m (nI (pos + 1)))) (fun t5 => (Option.bind (fn_X8_emits t5 (-3)) (fun t6 => lp_X8_some_4 (bd_X8_every fa ev so) fM t6))) else some m := by
      show st_X8_some_4 _ _ _ = _
      unfold st_X8_some_4
      rw [h.2.2.2.2.2.2.1, if_neg n00, pr_here d h, m_bind_some, h.2.2.2.2.1, nI_1]
      by_cases q : cur tp e pos = nI 124
      · rw [if_pos q, if_neg (show ¬ ¬ cur tp e pos = 124 from fun w => w q)]
      · rw [if_neg q, if_pos (show ¬ cur tp e pos = 124 from q)]
    rw [eC, eM]
    by_cases q : cur tp e pos = nI 124
    · rw [if_pos q, if_pos q]
      have hst := pr_step h (cur_lt q (by omega))
      rcases every_all d hz (M := M + 1) (ev := ev) (so := so) hS (fun (wx_81 : ReaderV) => (Option.bind (fn_X3_addCode (Reader_lesson wx_81) (-3)) (fun t3 => lp_X4_readEither_2 rp (nI o) (fun (wx_23 : ReaderV) => some (1, wx_23)) fC (nI (k + 1)) (Reader_lesson_s wx_81 t3)))) hst ho with ⟨l2, pos2, r2, m2, a1, a2, a3, a4, a5, a6⟩ | ⟨r2, m2, a1, a2, a3⟩
      · rw [a1, a2, m_bind_some]
        obtain ⟨le3, m3, b1, b2, b3, b4⟩ := pr_emit d hz a3 2
        have b1' : fn_X3_addCode (Reader_lesson r2) (-3) = some le3 := b1
        have b2' : fn_X8_emits m2 (-3) = some m3 := b2
        rw [b1', b2', m_bind_some, m_bind_some]
        have b3' : PR tp e a m0 T0 z γ f K pos2 (L ++ (l ++ l2 ++ [2])) (Reader_lesson_s r2 le3) m3 := by
          rw [show L ++ (l ++ l2 ++ [2]) = L ++ l ++ l2 ++ [2] by simp only [List.append_assoc]]
          exact b3
        rcases ih K pos2 (k + 1) fC fM L (l ++ l2 ++ [2]) _ m3 (by omega) (by omega) (by omega) (by omega) (by omega) b3' (b4.trans a4) (dep_and (Or.inr rfl) hl a6) with ⟨l', pos', r', m', c1, c2, c3, c4, c5, c6⟩ | ⟨r', m', c1, c2, c3⟩
        · exact Or.inl ⟨l', pos', r', m', c1, c2, c3, c4, by omega, c6⟩
        · exact Or.inr ⟨r', m', c1, c2, c3⟩
      · rw [a1, a2, m_bind_some]
        obtain ⟨p', f0, f1, f2, f3⟩ := a3
        rw [fl_emits f3, m_bind_some, fl_some _ f3 (by omega)]
        exact Or.inr ⟨r2, m2, rfl, rfl, p', f0, f1, f2, f3⟩
    · rw [if_neg q, if_neg q]
      exact Or.inl ⟨l, pos, r, m, rfl, rfl, h, ho, Nat.le_refl _, hl⟩
/-- an E -/
theorem some_all (d : DT tp e a m0 T0) (hz : z.length ≤ 10) {o M : Nat} {rp re : ReaderV → Int32 → Option (Int32 × ReaderV)} {fa ev so fb eb : ModelV → Option ModelV} (hS : SAME tp e a m0 T0 z γ f o (M + 2) (fun r => rp r (nI o)) fa) : SAME tp e a m0 T0 z γ f o M (fun r => bd_X4_readEither re rp r (nI o)) (bd_X8_some fb (bd_X8_every fa ev so) eb) := by
  intro K pos L r m h ho
  have he := d.1
  have hsz : Reader_size r = nI e := h.1.2.1
  have eC : bd_X4_readEither re rp r (nI o) = lp_X4_readEither_28 rp (nI o) (fun (wx_81 : ReaderV) => lp_X4_readEither_2 rp (nI o) (fun (wx_23 : ReaderV) => some (1, wx_23)) 1999 (nI 1) wx_81) (fun (wx_81 : ReaderV) => lp_X4_readEither_2 rp (nI o) (fun (wx_23 : ReaderV) => some (1, wx_23)) 1999 (nI 1) wx_81) m_N 0 r := by
    unfold bd_X4_readEither
    rw [m_jp_eq]
    conv => lhs; rw [m_N_val]
    show st_X4_readEither_2 rp _ _ _ _ _ = _
    unfold st_X4_readEither_2
    rw [hsz, if_neg (nI_pos (by omega)), m_jp_eq, if_pos (show (0 : Int32) ≤ 0 by decide)]
    simp only [m_jp_eq, if_pos (show (0 : Int32) ≤ 0 by decide)]
    rfl
  show (∃ l pos' r' m', bd_X4_readEither re rp r (nI o) = some (1, r') ∧ _) ∨ (∃ r' m', bd_X4_readEither re rp r (nI o) = some (0, r') ∧ _)
  rw [eC]
  unfold bd_X8_some
  rcases every_all d hz (M := M + 1) (ev := ev) (so := so) hS (fun (wx_81 : ReaderV) => lp_X4_readEither_2 rp (nI o) (fun (wx_23 : ReaderV) => some (1, wx_23)) 1999 (nI 1) wx_81) h ho with ⟨l2, pos2, r2, m2, a1, a2, a3, a4, a5, a6⟩ | ⟨r2, m2, a1, a2, a3⟩
  · rw [a1, a2, m_bind_some]
    have hpe : pos2 ≤ e := a3.2.2.2.2.2.1
    rcases some_loop d hz (M := M) (ev := ev) (so := so) hS e K pos2 1 1999 m_N L l2 r2 m2 (by omega) (by omega) (by omega) (by omega) (by rw [m_N_val]; omega) a3 a4 (dep_less a6 (by omega)) with ⟨l', pos', r', m', c1, c2, c3, c4, c5, c6⟩ | ⟨r', m', c1, c2, c3⟩
    · exact Or.inl ⟨l', pos', r', m', c1, c2, c3, c4, by omega, c6⟩
    · exact Or.inr ⟨r', m', c1, c2, c3⟩
  · rw [a1, a2, m_bind_some]
    obtain ⟨p', f0, f1, f2, f3⟩ := a3
    rw [fl_some _ f3 (by rw [m_N_val]; omega)]
    exact Or.inr ⟨r2, m2, rfl, rfl, p', f0, f1, f2, f3⟩
end EI
