/-! Reading: a clause whole, a class, school. -/
section SC
variable {tp : Nat → Nat} {e a : Nat} {m0 : ModelV} {T0 : Nat → Int32} {z : LZ} {γ f : Nat} {K pos : Nat} {L : List Nat} {r : ReaderV} {m : ModelV}
theorem clause_same (d : DT tp e a m0 T0) (k : Nat) (hzk : z.length ≤ k) (hk : k ≤ 9) (hZ : ZOK z) (hγ : γ < 100) (hf : f < 100) (h : PR tp e a m0 T0 z γ f 0 pos [] r m) (hop : Model_open m = nI 0) : CLO tp e a m0 T0 (k + 1) (fn_X4_readClause r) (fn_X8_clauseHere m) := by
  have ha := d.2.1
  have lift : ∀ {x y}, CLO tp e a m0 T0 k x y → CLO tp e a m0 T0 (k + 1) x y := fun hc => by
    rcases hc with ⟨z', γ', f', p', r', m', a1, a2, a3, a4, a5, a6, a7, a8⟩ | hc
    · exact Or.inl ⟨z', γ', f', p', r', m', a1, a2, a3, a4, by omega, a6, a7, a8⟩
    · exact Or.inr hc
  unfold fn_X4_readClause fn_X8_clauseHere
  rw [pr_here d h, m_bind_some, show fn_X4_take r 103 = fn_X4_take r (nI 103) from rfl, pr_take d h 103 (by omega)]
  by_cases q1 : cur tp e pos = nI 103
  · rw [if_pos q1, m_bind_some, if_neg n10, if_neg (show ¬ cur tp e pos = 102 by rw [q1]; decide), if_pos (show cur tp e pos = 103 from q1)]
    have := tells_same (x := 4) (x' := 6) (c := 103) (off := 211) d k hzk hZ hγ hf (by omega) (by omega) (by omega) ⟨rfl, rfl⟩ rfl (fun i hi => (word_ok i hi).1) (fun le v => Lesson_toldGoal_s le v) h hop q1 (fun r1 m1 pos1 v hv h1 => ⟨q_i211 (by omega), v, f, hv, hf, by rw [q_a211 (by omega)]; exact pr_goal h1 ha v⟩)
    have h2 := lift this
    cases hh : fn_X8_tellsHere m 211 4 with
    | none =>
      rw [hh] at h2
      rcases h2 with ⟨_, _, _, _, _, _, _, w, _⟩ | ⟨_, _, _, w, _⟩ <;> cases w
    | some mm =>
      rw [hh] at h2
      exact h2
  rw [if_neg q1, m_bind_some, if_pos n0]
  show CLO tp e a m0 T0 (k + 1) (Option.bind (fn_X4_take r (nI 102)) _) _
  rw [pr_take d h 102 (by omega)]
  by_cases q2 : cur tp e pos = nI 102
  · rw [if_pos q2, m_bind_some, if_neg n10, if_pos (show cur tp e pos = 102 from q2)]
    have := tells_same (x := 5) (x' := 7) (c := 102) (off := 216) d k hzk hZ hγ hf (by omega) (by omega) (by omega) ⟨rfl, rfl⟩ rfl (fun i hi => (word_ok i hi).2) (fun le v => Lesson_fair_s le v) h hop q2 (fun r1 m1 pos1 v hv h1 => ⟨q_i216 (by omega), γ, v, hγ, hv, by rw [q_a216 (by omega)]; exact pr_fair h1 ha v⟩)
    have h2 := lift this
    cases hh : fn_X8_tellsHere m 216 5 with
    | none =>
      rw [hh] at h2
      rcases h2 with ⟨_, _, _, _, _, _, _, w, _⟩ | ⟨_, _, _, w, _⟩ <;> cases w
    | some mm =>
      rw [hh] at h2
      exact h2
  rw [if_neg q2, m_bind_some, if_pos n0, if_neg (show ¬ cur tp e pos = 102 from q2), if_neg (show ¬ cur tp e pos = 103 from q1)]
  show CLO tp e a m0 T0 (k + 1) (Option.bind (fn_X4_take r (nI 115)) _) _
  rw [pr_take d h 115 (by omega)]
  by_cases q3 : cur tp e pos = nI 115
  · rw [if_pos q3, m_bind_some, if_pos n10, if_pos (show cur tp e pos = 115 from q3)]
    unfold fn_X8_wordOfS fn_X8_much
    show CLO tp e a m0 T0 (k + 1) _ (Option.bind (Option.bind (fn_X8_must m (nI 115)) _) _)
    rcases pr_must d h 115 (by omega) with ⟨_, m1, b1, b2, b3⟩ | ⟨qq, _⟩
    · have hop1 : Model_open m1 = nI 0 := b3.trans hop
      rw [b1, m_bind_some, pr_here d b2, m_bind_some]
      show CLO tp e a m0 T0 (k + 1) (Option.bind (fn_X4_take (Reader_place_s r (nI (pos + 1))) (nI 112)) _) _
      rw [pr_take d b2 112 (by omega)]
      by_cases q4 : cur tp e (pos + 1) = nI 112
      · rw [if_pos q4, m_bind_some, if_neg (show ¬ ¬ cur tp e (pos + 1) = 112 from fun w => w q4), m_jp_eq, if_neg n10]
        have eM : fn_X8_spells m1 2 = Option.bind (fn_X8_must m1 (nI 112)) (fun t6 => lp_X8_spells_2 2 1999 (nI 1) t6) := by
          unfold fn_X8_spells
          rw [m_N_val]
          exact spells_step 2 (by omega) 0 1999 (by decide) m1
        rw [eM]
        rcases pr_must d b2 112 (by omega) with ⟨_, m2, c1, c2, c3⟩ | ⟨qq, _⟩
        · have hop2 : Model_open m2 = nI 0 := c3.trans hop1
          rw [c1, m_bind_some]
          rcases pr_word (L := []) d (x := 2) (x' := 8) (by omega) (by omega) 3 1 0 1999 m_N 0 (pos + 1 + 1) _ m2 rfl rfl word_ok2 (by omega) (by rw [m_N_val]; omega) (pr_less (pr_less c2)) with ⟨pos2, r2, m3, g1, g2, g3, g4, g5⟩ | ⟨r2, m3, g1, g2, g3⟩
          · have g1' : fn_X4_readWord (Reader_place_s (Reader_place_s r (nI (pos + 1))) (nI (pos + 1 + 1))) 8 = some (1, r2) := g1
            show CLO tp e a m0 T0 (k + 1) (Option.bind (fn_X4_readWord (Reader_place_s (Reader_place_s r (nI (pos + 1))) (nI (pos + 1 + 1))) 8) _) _
            rw [g1', g2, m_bind_some, m_bind_some, if_neg n10]
            have := much_same d k hzk hk hZ hγ hf true g3 (g4.trans hop2) (-10) (fun n hn => by unfold lz_z; rw [if_pos rfl])
            rcases this with ⟨z', γ', f', p', r', m', a1, a2, a3⟩ | ⟨r', m', a1, a2, a3⟩
            · refine Or.inl ⟨z', γ', f', p', r', m', ?_, ?_, a3⟩
              · refine Eq.trans ?_ a1
                simp only [m_jp_eq, n10, if_false, if_true]
              · show Option.bind (Option.bind _ _) _ = _
                rw [a2]
                rfl
            · refine Or.inr ⟨r', m', ?_, ?_, a3⟩
              · refine Eq.trans ?_ a1
                simp only [m_jp_eq, n10, if_false, if_true]
              · show Option.bind (Option.bind _ _) _ = _
                rw [a2]
                rfl
          · have g1' : fn_X4_readWord (Reader_place_s (Reader_place_s r (nI (pos + 1))) (nI (pos + 1 + 1))) 8 = some (0, r2) := g1
            show CLO tp e a m0 T0 (k + 1) (Option.bind (fn_X4_readWord (Reader_place_s (Reader_place_s r (nI (pos + 1))) (nI (pos + 1 + 1))) 8) _) _
            obtain ⟨v, m4, k1, k2⟩ := fr_num g3
            obtain ⟨m5, k3, k4⟩ := fr_must k2 32
            rw [g1', g2, m_bind_some, m_bind_some, if_pos n0, k1, m_bind_some, k3, m_bind_some, fr_some k4 21, m_bind_some, fr_emits k4, m_bind_some]
            exact Or.inr ⟨r2, m5, rfl, rfl, k4⟩
        · exact absurd q4 qq
      · rw [if_neg q4, m_bind_some, if_pos (show ¬ cur tp e (pos + 1) = 112 from q4), m_jp_eq, if_pos n0]
        rcases pr_word (L := []) d (x := 3) (x' := 3) (by omega) (by omega) 5 0 0 m_N m_N 0 (pos + 1) _ m1 rfl rfl (fun _ _ => rfl) (by rw [m_N_val]; omega) (by rw [m_N_val]; omega) (pr_less b2) with ⟨pos2, r2, m3, g1, g2, g3, g4, g5⟩ | ⟨r2, m3, g1, g2, g3⟩
        · have g1' : fn_X4_readWord (Reader_place_s r (nI (pos + 1))) 3 = some (1, r2) := g1
          have g2' : fn_X8_spells m1 3 = some m3 := g2
          show CLO tp e a m0 T0 (k + 1) (Option.bind (fn_X4_readWord (Reader_place_s r (nI (pos + 1))) 3) _) _
          rw [g1', g2', m_bind_some, m_bind_some, if_neg n10]
          have := much_same d k hzk hk hZ hγ hf false g3 (g4.trans hop1) (-200) (fun n hn => by show _ = (if false = true then (-10 : Int32) - nI n else -200 - nI n); rw [if_neg (by decide)])
          rcases this with ⟨z', γ', f', p', r', m', a1, a2, a3⟩ | ⟨r', m', a1, a2, a3⟩
          · refine Or.inl ⟨z', γ', f', p', r', m', ?_, ?_, a3⟩
            · refine Eq.trans ?_ a1
              simp only [m_jp_eq, if_true, Bool.false_eq_true, if_false]
            · show Option.bind (Option.bind _ _) _ = _
              rw [a2]
              rfl
          · refine Or.inr ⟨r', m', ?_, ?_, a3⟩
            · refine Eq.trans ?_ a1
              simp only [m_jp_eq, if_true, Bool.false_eq_true, if_false]
            · show Option.bind (Option.bind _ _) _ = _
              rw [a2]
              rfl
        · have g1' : fn_X4_readWord (Reader_place_s r (nI (pos + 1))) 3 = some (0, r2) := g1
          have g2' : fn_X8_spells m1 3 = some m3 := g2
          show CLO tp e a m0 T0 (k + 1) (Option.bind (fn_X4_readWord (Reader_place_s r (nI (pos + 1))) 3) _) _
          obtain ⟨v, m4, k1, k2⟩ := fr_num g3
          obtain ⟨m5, k3, k4⟩ := fr_must k2 32
          rw [g1', g2', m_bind_some, m_bind_some, if_pos n0, k1, m_bind_some, k3, m_bind_some, fr_some k4 21, m_bind_some, fr_emits k4, m_bind_some]
          exact Or.inr ⟨r2, m5, rfl, rfl, k4⟩
    · exact absurd q3 qq
  · rw [if_neg q3, m_bind_some, if_neg n00, if_neg (show ¬ cur tp e pos = 115 from q3)]
    obtain ⟨g1, g2, g3, g4⟩ := pr_w1 h
    exact Or.inr ⟨r, _, rfl, rfl, pos, g2, g3, g4, g1⟩
/-- further clauses -/
theorem lesson_loop (d : DT tp e a m0 T0) (JC : ReaderV → Option (Int32 × ReaderV)) (JM : ModelV → Option (Int32 × ModelV)) : ∀ n k fC fM (z : LZ) γ f pos (r : ReaderV) (m : ModelV), k + n = 10 → 1 ≤ k → n < fC → n < fM → z.length ≤ k → ZOK z → γ < 100 → f < 100 → PR tp e a m0 T0 z γ f 0 pos [] r m → Model_open m = nI 0 →
    (∃ z' γ' f' pos' r' m', lp_X4_readLesson_2 JC JC fC (nI k) r = JC r' ∧ lp_X8_school_108 JM fM (nI k) m = JM m' ∧ PR tp e a m0 T0 z' γ' f' 0 pos' [] r' m' ∧ z'.length ≤ 10 ∧ ZOK z' ∧ γ' < 100 ∧ f' < 100) ∨ (∃ r' m', lp_X4_readLesson_2 JC JC fC (nI k) r = some (0, r') ∧ lp_X8_school_108 JM fM (nI k) m = JM m' ∧ FR e a m0 T0 r' m') := by
  intro n
  induction n with
  | zero =>
    intro k fC fM z γ f pos r m hk hk1 hC hM hz hZ hγ hf h hop
    obtain ⟨fC, rfl⟩ : ∃ f', fC = f' + 1 := ⟨fC - 1, by omega⟩
    obtain ⟨fM, rfl⟩ : ∃ f', fM = f' + 1 := ⟨fM - 1, by omega⟩
    have h10 : (10 : Int32) ≤ nI k := nI_le (a := 10) (by omega) (by omega)
    refine Or.inl ⟨z, γ, f, pos, r, m, ?_, ?_, h, by omega, hZ, hγ, hf⟩
    · show st_X4_readLesson_2 JC JC _ _ _ = _
      unfold st_X4_readLesson_2
      rw [if_pos h10]
    · show st_X8_school_108 JM _ _ _ = _
      unfold st_X8_school_108
      rw [h.2.2.2.2.2.2.1, if_neg n00, if_pos h10]
  | succ n ih =>
    intro k fC fM z γ f pos r m hk hk1 hC hM hz hZ hγ hf h hop
    obtain ⟨fC, rfl⟩ : ∃ f', fC = f' + 1 := ⟨fC - 1, by omega⟩
    obtain ⟨fM, rfl⟩ : ∃ f', fM = f' + 1 := ⟨fM - 1, by omega⟩
    have h10 : ¬ (10 : Int32) ≤ nI k := nI_ge (b := 10) (by omega) (by omega)
    have eC : lp_X4_readLesson_2 JC JC (fC + 1) (nI k) r = if cur tp e pos = nI 59 then Option.bind (fn_X4_readClause (Reader_place_s r (nI (pos + 1)))) (fun t3 => (if ¬ t3.1 = 0 then lp_X4_readLesson_2 JC JC fC (nI (k + 1)) t3.2 else some (0, t3.2))) else JC r := by
      show st_X4_readLesson_2 JC JC _ _ _ = _
      unfold st_X4_readLesson_2
      rw [if_neg h10, m_jp_eq, if_neg (nI_nle (by omega) (by omega)), show (59 : Int32) = nI 59 from rfl, pr_take d h 59 (by omega), ← nI_succ]
      by_cases q : cur tp e pos = nI 59
      · rw [if_pos q, if_pos q, m_bind_some, if_pos n10]
      · rw [if_neg q, if_neg q, m_bind_some, if_neg n00]
    have eM : lp_X8_school_108 JM (fM + 1) (nI k) m = if cur tp e pos = nI 59 then Option.bind (fn_X8_clauseHere (Model_spot_s m (nI (pos + 1)))) (fun t19 => lp_X8_school_108 JM fM (nI (k + 1)) t19) else JM m := by
      show st_X8_school_108 JM _ _ _ = _
      unfold st_X8_school_108
      rw [h.2.2.2.2.2.2.1, if_neg n00, if_neg h10, pr_here d h, m_bind_some, h.2.2.2.2.1, nI_1, ← nI_succ]
      by_cases q : cur tp e pos = nI 59
      · rw [if_pos q, if_neg (show ¬ ¬ cur tp e pos = 59 from fun w => w q)]
      · rw [if_neg q, if_pos (show ¬ cur tp e pos = 59 from q)]
    rw [eC, eM]
    by_cases q : cur tp e pos = nI 59
    · rw [if_pos q, if_pos q]
      have hst := pr_less (pr_step h (cur_lt q (by omega)))
      rcases clause_same d k hz (by omega) hZ hγ hf hst hop with ⟨z1, γ1, f1, pos1, r1, m1, a1, a2, a3, a4, a5, a6, a7, a8⟩ | ⟨r1, m1, a1, a2, a3⟩
      · rw [a1, a2, m_bind_some, m_bind_some, if_pos n10]
        exact ih (k + 1) fC fM z1 γ1 f1 pos1 r1 m1 (by omega) (by omega) (by omega) (by omega) a5 a6 a7 a8 a3 a4
      · rw [a1, a2, m_bind_some, m_bind_some, if_neg n00]
        refine Or.inr ⟨r1, m1, rfl, ?_, a3⟩
        obtain ⟨fM, rfl⟩ : ∃ f', fM = f' + 1 := ⟨fM - 1, by omega⟩
        show st_X8_school_108 JM _ _ _ = _
        unfold st_X8_school_108
        rw [fr_wrong a3, if_pos n10]
    · rw [if_neg q, if_neg q]
      exact Or.inl ⟨z, γ, f, pos, r, m, rfl, rfl, h, by omega, hZ, hγ, hf⟩
end SC
theorem R_mono {Q Q' : Nat → Option LessonV} (hQ : ∀ x le, Q x = some le → Q' x = some le) {v : OneV} {m : ModelV} (h : R Q v m) : R Q' v m := by
  have hn : ∀ r, rn Q r → rn Q' r := fun r ⟨le, a1, a2⟩ => ⟨le, hQ _ _ a1, a2⟩
  have hl : ∀ r s, rl Q r s → rl Q' r s := fun r s ⟨L, l1, l2, l3, l4, l5⟩ => ⟨L, l1, l2, l3, l4, fun i hi => by
    obtain ⟨a, le, z, γ, f, g1, g2, g3⟩ := l5 i hi
    exact ⟨a, le, z, γ, f, g1, hQ _ _ g2, g3⟩⟩
  have hr : ∀ n r s, rr Q n r s → rr Q' n r s := fun n r s ⟨a1, a2, a3, a4, a5⟩ => ⟨a1, a2, hl _ _ a3, hn _ a4, a5⟩
  obtain ⟨⟨n, h1⟩, ⟨i1, i2, i3, i4, i5⟩, ha⟩ := h
  refine ⟨⟨n, hr _ _ _ h1⟩, ⟨hn _ i1, i2, i3, i4, ?_⟩, ha⟩
  rcases i5 with j | ⟨j1, j2, n', j3⟩
  · exact Or.inl j
  · exact Or.inr ⟨j1, j2, n', hr _ _ _ j3⟩
section SH
variable {Q : Nat → Option LessonV} {v : OneV} {m : ModelV}
theorem sim_school_full (h : R Q v m) (hL : Room_lessonCount (One_now v) = 5) : fn_X8_school m = some (-4, m) := by
  obtain ⟨⟨n, hg, ht, ⟨L, l1, l2, l3, l4, l5⟩, _⟩, hi, ha⟩ := h
  unfold fn_X8_school
  rw [if_pos q_j21, q_c21, l3, ← l2, hL, if_neg (fun w => w rfl)]
theorem sim_school (h : R Q v m) {L : Nat} (hLc : Room_lessonCount (One_now v) = nI L) (hL5 : L < 5) {q : Nat} (hq : Q q = none) : ∃ ans v' le' m', fn_X7_school v q = some (ans, v', le') ∧ fn_X8_school m = some (ans, m') ∧ R (fun x => if x = q then some le' else Q x) v' m' := by
  obtain ⟨⟨n, hg, ⟨t, t1, t2, t3, t4, t5⟩, ⟨L', l1, l2, l3, l4, l5⟩, hn, hs, hp, hb, hpe, hbe⟩, hi, ha⟩ := h
  have eL : L' = L := (nI_eq (by omega) (by omega)).mp (l2.symm.trans hLc)
  subst eL
  have hQ : ∀ le' x le, Q x = some le → (fun x => if x = q then some le' else Q x) x = some le := fun le' x le hx => by
    show (if x = q then some le' else Q x) = some le
    rw [if_neg (fun w => by rw [w, hq] at hx; cases hx)]
    exact hx
  obtain ⟨tp, htp⟩ : ∃ tp : Nat → Nat, ∀ j, j < 100 → tp j < 128 ∧ Room_tape (One_now v) j = nI (tp j) := ⟨fun j => (Room_tape (One_now v) j).toNatClampNeg, fun j hj => by
    obtain ⟨c, c1, c2⟩ := t5 j hj
    show (Room_tape (One_now v) j).toNatClampNeg < 128 ∧ Room_tape (One_now v) j = nI (Room_tape (One_now v) j).toNatClampNeg
    rw [c2, nI_clamp (by omega)]
    exact ⟨c1, rfl⟩⟩
  -- the start of both
  let s0 : Nat → Int32 := upd (upd (upd (upd (Model_s m) 25 0) (211 + L') 60) (216 + L') 2) (221 + L') 0
  let M0 : ModelV := Model_open_s (Model_isWrong_s (Model_end_s (Model_spot_s (Model_act_s (Model_s_s m s0) (nI L')) 0) (nI t)) 0) 0
  let R0 : ReaderV := (Room_tape (One_now v), nI t, 0, 0, Lesson_0)
  have hs0 : ∀ j, j ≠ 25 → j ≠ 211 + L' → j ≠ 216 + L' → j ≠ 221 + L' → s0 j = Model_s m j := fun j h1 h2 h3 h4 => by
    show upd (upd (upd (upd (Model_s m) 25 0) (211 + L') 60) (216 + L') 2) (221 + L') 0 j = _
    rw [pk_un h4, pk_un h3, pk_un h2, pk_un h1]
  have d : DT tp t L' M0 (Room_tape (One_now v)) := ⟨t1, hL5, htp, fun j hj => by
    show s0 (111 + j) = _
    rw [hs0 _ (by omega) (by omega) (by omega) (by omega), t4 j hj, (htp j (by omega)).2]⟩
  have h0 : PR tp t L' M0 (Room_tape (One_now v)) [] 60 2 0 0 [] R0 M0 := by
    refine ⟨⟨rfl, rfl, rfl, rfl, fun j _ _ _ _ => rfl, rfl⟩, ⟨rfl, fun j hj => absurd hj (by simp [lz_c, lc_len]), rfl, fun i hi => absurd hi (by simp), rfl, rfl⟩, ⟨?_, fun j hj => absurd hj (by simp [lz_steps]), ?_, ?_⟩, rfl, rfl, by omega, rfl, by simp [lz_c, lc_len]⟩
    · exact pk_us
    · show upd (upd (upd (upd (Model_s m) 25 0) (211 + L') 60) (216 + L') 2) (221 + L') 0 (211 + L') = _
      rw [pk_un (by omega), pk_un (by omega), pk_us]
      rfl
    · show upd (upd (upd (upd (Model_s m) 25 0) (211 + L') 60) (216 + L') 2) (221 + L') 0 (216 + L') = _
      rw [pk_un (by omega), pk_us]
      rfl
  -- both readings
  let JC : ReaderV → Option (Int32 × ReaderV) := fun (wx_39 : ReaderV) => (if ¬ (Reader_place wx_39) = (Reader_size wx_39) then some (0, wx_39) else some (1, wx_39))
  let JM : ModelV → Option (Int32 × ModelV) := fun (wx_150 : ModelV) => jp (fun (_ : Unit) => some (((-10) - (Model_spot wx_150)), wx_150)) (fun j168 => (if ¬ (Model_isWrong wx_150) = 0 then j168 () else (if (Model_spot wx_150) = (Model_end wx_150) then (if mIn 21 926 = true then (if mIn 21 926 = true then (if mIn 26 926 = true then some ((Model_act wx_150), (Model_s_s wx_150 (upd (upd (Model_s wx_150) (21 : Int32).toNatClampNeg (((Model_s wx_150) (21 : Int32).toNatClampNeg) + 1)) (26 : Int32).toNatClampNeg (Model_act wx_150)))) else none) else none) else none) else j168 ())))
  have hMe : fn_X8_school m = Option.bind (fn_X8_clauseHere M0) (fun t9 => lp_X8_school_108 JM m_N 1 t9) := by
    unfold fn_X8_school
    rw [if_pos q_j21, q_c21, l3, if_pos (show ¬ nI L' = 5 from fun w => by have := (nI_eq (b := 5) (by omega) (by omega)).mp w; omega), if_pos q_j25, if_pos q_j21, if_pos q_j25, q_c25, t3, if_pos (q_i211 (by omega)), if_pos (q_i216 (by omega)), if_pos (q_i221 (by omega)), q_a211 (by omega), q_a216 (by omega), q_a221 (by omega)]
    rfl
  have hCe : fn_X4_readLesson R0 = Option.bind (fn_X4_readClause R0) (fun t3 => (if ¬ t3.1 = 0 then lp_X4_readLesson_2 JC JC 1999 (nI 1) t3.2 else some (0, t3.2))) := by
    unfold fn_X4_readLesson
    rw [m_jp_eq, m_jp_eq]
    show lp_X4_readLesson_2 JC JC m_N 0 R0 = _
    rw [m_N_val]
    show st_X4_readLesson_2 JC JC _ _ _ = _
    unfold st_X4_readLesson_2
    rw [if_neg (by decide), m_jp_eq, if_pos (show (0 : Int32) ≤ 0 by decide)]
    rfl
  have hout : ∀ s : Nat → Int32, out_of L' (Model_s M0) s → ∀ j, j ≠ 25 → j ≠ 211 + L' → j ≠ 216 + L' → j ≠ 221 + L' → (j < 226 + 140 * L' ∨ 226 + 140 * L' + 140 ≤ j) → s j = Model_s m j := fun s hs j h1 h2 h3 h4 h5 => (hs j h2 h3 h4 h5).trans (hs0 j h1 h2 h3 h4)
  -- the rows of the elder classes stay
  have hold : ∀ s : Nat → Int32, out_of L' (Model_s M0) s → ∀ i, i < L' → rlx Q (One_now v) s i := fun s hs i hi => by
    obtain ⟨a, le, z, γ, f, g1, g2, g3, g4, g5, g6, g7⟩ := l5 i hi
    have hz := lz_small g3.2.1
    exact ⟨a, le, z, γ, f, g1, g2, g3, g4, ⟨(hout s hs _ (by omega) (by omega) (by omega) (by omega) (by omega)).trans g5.1, fun j hj => (hout s hs _ (by omega) (by omega) (by omega) (by omega) (by omega)).trans (g5.2 j hj)⟩, (hout s hs _ (by omega) (by omega) (by omega) (by omega) (by omega)).trans g6, (hout s hs _ (by omega) (by omega) (by omega) (by omega) (by omega)).trans g7⟩
  have h25 : ∀ s : Nat → Int32, out_of L' (Model_s M0) s → s 25 = 0 := fun s hs => by
    rw [hs 25 (by omega) (by omega) (by omega) (by omega)]
    show upd (upd (upd (upd (Model_s m) 25 0) (211 + L') 60) (216 + L') 2) (221 + L') 0 25 = 0
    rw [pk_un (by omega), pk_un (by omega), pk_un (by omega), pk_us]
  have hrest : ∀ s : Nat → Int32, out_of L' (Model_s M0) s → rg n (One_now v) s ∧ rws (Room_seen (One_now v)) 5 69 74 22 s ∧ rws (Room_plan (One_now v)) 8 79 87 23 s ∧ rws (Room_book (One_now v)) 8 95 103 24 s := fun s hs' => ⟨rg_same hg (fun j hj => hout s hs' j (by omega) (by omega) (by omega) (by omega) (by omega)), rws_same hs (fun j hj => hout s hs' j (by omega) (by omega) (by omega) (by omega) (by omega)), rws_same hp (fun j hj => hout s hs' j (by omega) (by omega) (by omega) (by omega) (by omega)), rws_same hb (fun j hj => hout s hs' j (by omega) (by omega) (by omega) (by omega) (by omega))⟩
  have hmin : mMin (Room_signs (One_now v)) 100 = nI t := by
    rw [t2, show (100 : Int32) = nI 100 from rfl, mMin_nI (by omega) (by omega), Nat.min_eq_left t1]
  -- a fault: both stay with the elder ones
  have hfault : ∀ (r' : ReaderV) (m' : ModelV) pos, fn_X4_readLesson R0 = some (0, r') → fn_X8_school m = some ((-10) - nI pos, m') → Reader_place r' = nI pos → Reader_tape r' = Room_tape (One_now v) → out_of L' (Model_s M0) (Model_s m') → core m' = core m → ∃ ans v' le' m', fn_X7_school v q = some (ans, v', le') ∧ fn_X8_school m = some (ans, m') ∧ R (fun x => if x = q then some le' else Q x) v' m' := by
    intro r' m' pos e1 e2 e3 e4 e5 e6
    obtain ⟨b1, b2, b3, b4⟩ := hrest _ e5
    refine ⟨(-10) - nI pos, One_now_s v (Room_signs_s (Room_tape_s (One_now v) (Reader_tape r')) 0), Reader_lesson r', m', ?_, e2, R_mono (hQ _) ?_⟩
    · unfold fn_X7_school
      rw [hmin]
      show Option.bind (fn_X4_readLesson R0) _ = _
      rw [e1, m_bind_some, if_neg n00, e3]
    · refine ⟨⟨n, b1, ⟨0, by omega, rfl, h25 _ e5, fun j hj => absurd hj (by omega), fun j hj => ?_⟩, ⟨L', l1, l2, (hout _ e5 21 (by omega) (by omega) (by omega) (by omega) (by omega)).trans l3, (hout _ e5 26 (by omega) (by omega) (by omega) (by omega) (by omega)).trans l4, hold _ e5⟩, hn, b2, b3, b4, hpe, hbe⟩, ?_, ?_⟩
      · show ∃ c, c < 128 ∧ Reader_tape r' j = nI c
        rw [e4]
        exact t5 j hj
      · rw [e6]; exact hi
      · rw [e6]; exact ha
  have hcore0 : core M0 = core m := rfl
  have hfr : ∀ (r' : ReaderV) (m' : ModelV), fn_X4_readLesson R0 = some (0, r') → fn_X8_school m = JM m' → FR t L' M0 (Room_tape (One_now v)) r' m' → ∃ ans v' le' m', fn_X7_school v q = some (ans, v', le') ∧ fn_X8_school m = some (ans, m') ∧ R (fun x => if x = q then some le' else Q x) v' m' := by
    intro r' m' e1 e2 e3
    obtain ⟨pos, f0, f1, f2, f3, f4, f5, f6, f7, f8⟩ := e3
    refine hfault r' m' pos e1 ?_ f1 f2 f7 (f8.trans hcore0)
    rw [e2]
    show jp _ _ = _
    rw [m_jp_eq, f3, if_pos n10, f4]
  rcases clause_same d 0 (by simp) (by omega) (fun q hq => by cases hq) (by omega) (by omega) h0 rfl with ⟨z1, γ1, f1, pos1, r1, m1, a1, a2, a3, a4, a5, a6, a7, a8⟩ | ⟨r1, m1, a1, a2, a3⟩
  · rcases lesson_loop d JC JM 9 1 1999 m_N z1 γ1 f1 pos1 r1 m1 (by omega) (by omega) (by omega) (by rw [m_N_val]; omega) a5 a6 a7 a8 a3 a4 with ⟨z', γ', f', pos', r', m', b1, b2, b3, b4, b5, b6, b7⟩ | ⟨r', m', b1, b2, b3⟩
    · have hC2 : fn_X4_readLesson R0 = JC r' := by rw [hCe, a1, m_bind_some, if_pos n10]; exact b1
      have hM2 : fn_X8_school m = JM m' := by rw [hMe, a2, m_bind_some]; exact b2
      obtain ⟨⟨s1, s2, s3, s4, s5, s6⟩, ⟨c1, c2, c3, c4, c5, c6⟩, ⟨k1, k2, k3, k4⟩, p4, p5, p6, p7, p8⟩ := b3
      by_cases qe : pos' = t
      · subst qe
        have hC3 : fn_X4_readLesson R0 = some (1, r') := by
          rw [hC2]
          show (if ¬ Reader_place r' = Reader_size r' then _ else _) = _
          rw [p4, s2, if_neg (fun w => w rfl)]
        have e21 : Model_s m' 21 = nI L' := (hout _ s5 21 (by omega) (by omega) (by omega) (by omega) (by omega)).trans l3
        have hM3 : fn_X8_school m = some (nI L', Model_s_s m' (upd (upd (Model_s m') 21 (nI (L' + 1))) 26 (nI L'))) := by
          rw [hM2]
          show jp _ _ = _
          rw [m_jp_eq, p7, if_neg n00, p5, s3, if_pos rfl, if_pos q_j21, if_pos q_j21, if_pos q_j26, q_c21, q_c26, e21, s4, nI_1]
        obtain ⟨g1, g2, g3, g4⟩ := hrest _ s5
        have hu : ∀ j, j ≠ 21 → j ≠ 26 → upd (upd (Model_s m') 21 (nI (L' + 1))) 26 (nI L') j = Model_s m' j := fun j h1 h2 => by rw [pk_un h2, pk_un h1]
        have hlq : lq (Reader_lesson r') z' (nI γ') f' := by
          refine ⟨⟨by rw [c3, lz_c_len], fun i hi => ?_, fun j hj => ?_⟩, ⟨⟨by rw [lz_c_len]; exact b4, ?_, fun w hw => ?_⟩, fun w hw => (b5 w hw).2.2⟩, c5, c6, b7⟩
          · rw [lz_c_len] at hi
            exact c4 i hi
          · have := c2 j (by rw [List.length_nil]; exact hj)
            rw [List.append_nil] at this
            exact this
          · rw [List.length_nil] at p8
            omega
          · obtain ⟨w', hw', rfl⟩ := List.mem_map.mp hw
            exact ⟨(b5 w' hw').1, (b5 w' hw').2.1⟩
        refine ⟨nI L', One_now_s v (Room_lessonCount_s (Room_lessons_s (Room_signs_s (Room_tape_s (One_now v) (Reader_tape r')) 0) (va_up (Room_lessons (One_now v)) L' (some q))) (nI (L' + 1))), Reader_lesson r', _, ?_, hM3, ⟨⟨n, rg_same g1 (fun j hj => hu j (by omega) (by omega)), ⟨0, by omega, rfl, (hu 25 (by omega) (by omega)).trans (h25 _ s5), fun j hj => absurd hj (by omega), fun j hj => ?_⟩, ⟨L' + 1, by omega, rfl, ?_, ?_, fun i hi => ?_⟩, ?_, rws_same g2 (fun j hj => hu j (by omega) (by omega)), rws_same g3 (fun j hj => hu j (by omega) (by omega)), rws_same g4 (fun j hj => hu j (by omega) (by omega)), hpe, hbe⟩, ?_, ?_⟩⟩
        · unfold fn_X7_school
          rw [hmin]
          show Option.bind (fn_X4_readLesson R0) _ = _
          rw [hC3, m_bind_some, if_pos n10, l2, if_pos (mIn_nI (by omega) (by omega)), q_n (by omega), nI_1, nI_pred]
        · show ∃ c, c < 128 ∧ Reader_tape r' j = nI c
          rw [s1]
          exact t5 j hj
        · show upd (upd (Model_s m') 21 (nI (L' + 1))) 26 (nI L') 21 = _
          rw [pk_un (by omega), pk_us]
        · show upd (upd (Model_s m') 21 (nI (L' + 1))) 26 (nI L') 26 = _
          rw [pk_us, if_neg (by omega)]
          rfl
        · by_cases qi : i = L'
          · subst qi
            refine ⟨q, Reader_lesson r', z', γ', f', ?_, ?_, hlq, b6, ⟨?_, fun j hj => ?_⟩, ?_, ?_⟩
            · exact if_pos rfl
            · exact if_pos rfl
            · refine (hu _ (by omega) (by omega)).trans ?_
              rw [k1, List.map_nil, List.append_nil]
            · refine (hu _ (by omega) (by omega)).trans ?_
              have := k2 j (by rw [List.map_nil, List.append_nil]; exact hj)
              rw [List.map_nil, List.append_nil] at this
              exact this
            · exact (hu _ (by omega) (by omega)).trans k3
            · exact (hu _ (by omega) (by omega)).trans k4
          · obtain ⟨a, le, z, γ, f, w1, w2, w3, w4, w5, w6, w7⟩ := hold _ s5 i (by omega)
            refine ⟨a, le, z, γ, f, ?_, hQ _ _ _ w2, w3, w4, ⟨(hu _ (by omega) (by omega)).trans w5.1, fun j hj => (hu _ (by omega) (by omega)).trans (w5.2 j hj)⟩, (hu _ (by omega) (by omega)).trans w6, (hu _ (by omega) (by omega)).trans w7⟩
            show (if i = L' then some q else Room_lessons (One_now v) i) = some a
            rw [if_neg qi]
            exact w1
        · obtain ⟨le, w1, w2⟩ := hn
          exact ⟨le, hQ _ _ _ w1, w2⟩
        · have hi2 := (R_mono (hQ (Reader_lesson r')) (v := v) (m := m) ⟨⟨n, hg, ⟨t1 |> fun _ => pos', t1, t2, t3, t4, t5⟩, ⟨L', l1, l2, l3, l4, l5⟩, hn, hs, hp, hb, hpe, hbe⟩, hi, ha⟩).2.1
          show rim _ _ _ (core m')
          rw [s6, hcore0]
          exact hi2
        · show rac _ (core m')
          rw [s6, hcore0]
          exact ha
      · refine hfault r' m' pos' ?_ ?_ p4 s1 s5 (s6.trans hcore0)
        · rw [hC2]
          show (if ¬ Reader_place r' = Reader_size r' then _ else _) = _
          rw [p4, s2, if_pos (fun w => qe ((nI_eq (by omega) (by omega)).mp w))]
        · rw [hM2]
          show jp _ _ = _
          rw [m_jp_eq, p7, if_neg n00, p5, s3, if_neg (fun w => qe ((nI_eq (by omega) (by omega)).mp w))]
    · refine hfr r' m' ?_ ?_ b3
      · rw [hCe, a1, m_bind_some, if_pos n10]
        exact b1
      · rw [hMe, a2, m_bind_some]
        exact b2
  · refine hfr r1 m1 ?_ ?_ a3
    · rw [hCe, a1, m_bind_some, if_neg n00]
    · rw [hMe, a2, m_bind_some, m_N_val]
      show st_X8_school_108 JM _ _ _ = _
      unfold st_X8_school_108
      rw [fr_wrong a3, if_pos n10]
end SH
