/-! on, ready, done. -/
section ON
variable {Q : Nat → Option LessonV} {v : OneV} {m : ModelV} {ea : Nat} {le : LessonV}
theorem fore {n : Nat} {z : LZ} {γ f w : Nat} (hx : CX v m ea le n z γ f w) {N : Nat} (hN : N ≤ 60) (fc : ForecastV) : ∃ f1 f2 m1 m2, fn_X1_begin fc (One_now v) = some f1 ∧ fn_X1_go f1 le ea (nI N) = some f2 ∧ fn_X8_keeps m = some m1 ∧ fn_X8_goesOn m1 (nI N) = some m2 ∧ FC n (Room_group (One_now v)) ea (n_iter (sp_week n (lz_c z) (nI f) 0) N (Room_group (One_now v))) f2 ∧ FS n m (n_iter (sp_week n (lz_c z) (nI f) 0) N (Room_group (One_now v))) m2 ∧ Group_size (n_iter (sp_week n (lz_c z) (nI f) 0) N (Room_group (One_now v))) = nI n := by
  obtain ⟨hg, hh, hl, h1, hw, hwl, hγ, hn⟩ := hx
  have eg : Group_size (Room_group (One_now v)) = nI n := hg.2.1.2.1
  obtain ⟨f1, a1, a2⟩ := fc_begin fc h1 hg.2.1
  obtain ⟨f2, a3, a4⟩ := fc_go a2 hl hg.2.1 hw hN (by omega)
  obtain ⟨m1, b1, b2⟩ := fs_keeps n m
  have b2' : FS n m (Room_group (One_now v)) m1 := ⟨b2.1, b2.2.1, b2.2.2.1, ag_trans hg.1 b2.2.2.2⟩
  obtain ⟨m2, b3, b4⟩ := fs_goesOn b2' hh hg.2.1 hw hN (by omega)
  exact ⟨f1, f2, m1, m2, a1, a3, b1, b3, a4, b4, (n_iter_week eg hw N).1⟩
theorem more_same {n : Nat} {g g' : GroupV} {s : Nat → Int32} (a : ag n g (sv s)) : n_sum n (fun p => Group_hours g' p - s (2 + p)) = sp_all n g' - sp_all n g := by
  rw [n_sum_sub]
  unfold sp_all
  rw [n_sum_congr (f := fun p => s (2 + p)) (g := Group_hours g) (fun k hk => ag_hours a hk)]
theorem ten {x : Int32} {p : Nat} {c : Int32} {C : Nat} (hc : c = nI C) (h : x - c = nI p) : x = nI (C + p) := by
  rw [Nat.add_comm C p, ← nI_add, ← h, hc]
  exact (Int32.sub_add_cancel x (nI C)).symm
theorem sim_on (h : R Q v m) (hH : HL Q (One_now v) (Model_s m) ea le) (x y : Int32) : SIM Q (fn_X7_on v le ea x y) (fn_X8_on m x y) := by
  obtain ⟨n, z, γ, f, w, hx⟩ := cx h hH
  have hx0 := hx
  obtain ⟨hg, hh, hl, h1, hw, hwl, hγ, hn⟩ := hx
  have e1 : Model_s m 1 = Group_work (Room_group (One_now v)) := hg.1.2.2.1
  -- the numbers
  have hNum : ∀ (A : Option (Int32 × OneV)) (B : Option (Int32 × ModelV)), (∀ N, N ≤ 60 → x = nI N → SIM Q A B) → SIM Q (if x < 0 then some ((-2), v) else (if x ≤ 60 then A else some ((-2), v))) (Option.bind (fn_X8_in x 0 60) (fun t2 => (if ¬ t2 = 0 then B else some ((-2), m)))) := by
    intro A B hAB
    rw [show fn_X8_in x 0 60 = fn_X8_in x 0 (nI 60) from rfl]
    rcases c_cases x with hx | ⟨N, hN, rfl⟩
    · rw [if_pos hx, in_neg hx, m_bind_some, if_neg n00]
      exact ⟨_, v, m, rfl, rfl, h⟩
    rw [if_neg (nI_pos hN)]
    by_cases qN : N ≤ 60
    · rw [if_pos (show nI N ≤ 60 from nI_le (b := 60) qN (by omega)), in_yes qN (by omega), m_bind_some, if_pos n10]
      exact hAB N qN rfl
    · rw [if_neg (show ¬ nI N ≤ 60 from nI_ge (a := 60) (by omega) hN), in_no (by omega) hN, m_bind_some, if_neg n00]
      exact ⟨_, v, m, rfl, rfl, h⟩
  unfold fn_X7_on fn_X8_on
  simp only [m_jp_eq]
  by_cases q0 : y = 0
  · subst q0
    rw [if_pos (show (0 : Int32) < 10 by decide), if_pos (show (0 : Int32) < 20 by decide), if_pos rfl, in01_y (Or.inl rfl), m_bind_some, if_pos n10]
    refine hNum _ _ (fun N hN he => ?_)
    subst he
    obtain ⟨f1, f2, m1, m2, a1, a2, b1, b2, c1, c2, c3⟩ := fore hx0 hN (One_forecast v)
    obtain ⟨m3, d1, d2⟩ := fs_back c2
    rw [a1, m_bind_some, a2, m_bind_some, b1, m_bind_some, b2, m_bind_some, fc_workMore c1, fs_workMore c2, d1, e1]
    simp only [m_bind_some, if_true, not_true_eq_false, if_false]
    exact ⟨_, _, m3, rfl, rfl, R_mk h d2 rfl rfl rfl rfl⟩
  by_cases q1 : y = 1
  · subst q1
    rw [if_pos (show (1 : Int32) < 10 by decide), if_pos (show (1 : Int32) < 20 by decide), if_neg n10, if_pos (show (1 : Int32) = 1 from rfl), in01_y (Or.inr rfl), m_bind_some, if_pos n10]
    refine hNum _ _ (fun N hN he => ?_)
    subst he
    obtain ⟨f1, f2, m1, m2, a1, a2, b1, b2, c1, c2, c3⟩ := fore hx0 hN (One_forecast v)
    obtain ⟨m3, d1, d2⟩ := fs_back c2
    rw [a1, m_bind_some, a2, m_bind_some, b1, m_bind_some, b2, m_bind_some, fc_hoursMore c1 c3 hg.2.1.2.1 hn, fs_allMore c2 c3 hn, d1, more_same hg.1]
    simp only [m_bind_some, if_true, not_true_eq_false, if_false, n10, not_false_eq_true]
    exact ⟨_, _, m3, rfl, rfl, R_mk h d2 rfl rfl rfl rfl⟩
  rw [in01_n q0 q1, m_bind_some, if_neg n00]
  rcases pupil_c hg (y - 10) with ⟨p, p1, p2, p3, p4⟩ | ⟨p3, p4⟩
  · have hy := ten (C := 10) rfl p2
    have e10 : ¬ y < 10 := by rw [hy]; exact nI_nlt (b := 10) (by omega) (by omega)
    have e20 : y < 20 := by rw [hy]; exact nI_lt (b := 20) (by omega) (by omega)
    rw [p3, p4]
    simp only [m_bind_some, if_neg e10, if_pos e20, if_neg n10, if_pos n10, if_neg q0, if_neg q1]
    refine hNum _ _ (fun N hN he => ?_)
    subst he
    obtain ⟨f1, f2, m1, m2, a1, a2, b1, b2, c1, c2, c3⟩ := fore hx0 hN (One_forecast v)
    obtain ⟨m3, d1, d2⟩ := fs_back c2
    rw [a1, m_bind_some, a2, m_bind_some, b1, m_bind_some, b2, m_bind_some, if_pos q0, if_pos q1, if_neg (show ¬ 20 ≤ y from Int32.not_le.mpr e20), p2, fc_hoursMoreOf c1 p1 hn, m_bind_some, fs_hoursMore c2 p1 hn, m_bind_some, d1, m_bind_some, show Model_s m (2 + p) = Group_hours (Room_group (One_now v)) p from ag_hours hg.1 p1]
    exact ⟨_, _, m3, rfl, rfl, R_mk h d2 rfl rfl rfl rfl⟩
  · rw [p3, p4]
    rcases pupil_c hg (y - 20) with ⟨p, p1, p2, p5, p6⟩ | ⟨p5, p6⟩
    · have hy := ten (C := 20) rfl p2
      have e10 : ¬ y < 10 := by rw [hy]; exact nI_nlt (b := 10) (by omega) (by omega)
      have e20 : ¬ y < 20 := by rw [hy]; exact nI_nlt (b := 20) (by omega) (by omega)
      have e8 : (8 + y) - 20 = nI (8 + p) := by
        rw [hy, show (8 : Int32) = nI 8 from rfl, nI_add, show (20 : Int32) = nI 20 from rfl, pk_sub (by omega)]
        congr 1
        omega
      rw [p5, p6]
      simp only [m_bind_some, e10, e20, q0, q1, if_true, if_false, not_true_eq_false, not_false_eq_true, n10, eq_self]
      refine hNum _ _ (fun N hN he => ?_)
      subst he
      obtain ⟨f1, f2, m1, m2, a1, a2, b1, b2, c1, c2, c3⟩ := fore hx0 hN (One_forecast v)
      obtain ⟨m3, d1, d2⟩ := fs_back c2
      rw [a1, m_bind_some, a2, m_bind_some, b1, m_bind_some, b2, m_bind_some, if_pos (show 20 ≤ y from Int32.not_lt.mp e20), p2, e8, if_pos (q_6 (by omega)), q_n (by omega), if_pos (mIn_nI (by omega) (by omega)), q_n (by omega), d1, m_bind_some, ag_wills c1.1 p1, show Model_s m2 (8 + p) = Group_wills (n_iter (sp_week n (lz_c z) (nI f) 0) N (Room_group (One_now v))) p from ag_wills c2.2.2.2 p1]
      exact ⟨_, _, m3, rfl, rfl, R_mk h d2 rfl rfl rfl rfl⟩
    · rw [p5, p6]
      by_cases e10 : y < 10
      · by_cases e20 : y < 20
        · simp only [m_bind_some, e10, e20, q0, q1, if_true, if_false, not_true_eq_false, not_false_eq_true, n10, eq_self]
          exact ⟨_, v, m, rfl, rfl, h⟩
        · simp only [m_bind_some, e10, e20, q0, q1, if_true, if_false, not_true_eq_false, not_false_eq_true, n10, eq_self]
          exact ⟨_, v, m, rfl, rfl, h⟩
      · by_cases e20 : y < 20
        · simp only [m_bind_some, e10, e20, q0, q1, if_true, if_false, not_true_eq_false, not_false_eq_true, n10, eq_self]
          exact ⟨_, v, m, rfl, rfl, h⟩
        · simp only [m_bind_some, e10, e20, q0, q1, if_true, if_false, not_true_eq_false, not_false_eq_true, n10, eq_self]
          exact ⟨_, v, m, rfl, rfl, h⟩
theorem n_iter_1 {α : Type} (f : α → α) (a : α) : n_iter f 1 a = f a := rfl
theorem sim_ready (h : R Q v m) (hH : HL Q (One_now v) (Model_s m) ea le) : SIM Q (fn_X7_ready v le ea) (fn_X8_ready m) := by
  obtain ⟨n, z, γ, f, w, hx⟩ := cx h hH
  obtain ⟨hg, hh, hl, h1, hw, hwl, hγ, hn⟩ := hx
  have eg : Group_size (Room_group (One_now v)) = nI n := hg.2.1.2.1
  obtain ⟨e1, e2, e3, e4⟩ := gl_w γ hγ
  obtain ⟨f1, a1, a2⟩ := fc_begin (One_forecast v) h1 hg.2.1
  obtain ⟨m1, b1, b2⟩ := fs_keeps n m
  have b2' : FS n m (Room_group (One_now v)) m1 := ⟨b2.1, b2.2.1, b2.2.2.1, ag_trans hg.1 b2.2.2.2⟩
  have main : ∀ d k, k + d = 61 → ∀ fC fM (v1 : OneV) (s : ModelV), d < fC → d + 1 < fM → vk v v1 → FC n (Room_group (One_now v)) ea (n_iter (sp_week n (lz_c z) (nI f) 0) k (Room_group (One_now v))) (One_forecast v1) → FS n m (n_iter (sp_week n (lz_c z) (nI f) 0) k (Room_group (One_now v))) s →
      ∃ a v' m', lp_X7_ready_24 le ea (nI (GL γ)) fC (nI k) v1 = some (a, v') ∧ lp_X8_ready_9 (fun (x1_51 : Int32) (wx_51 : ModelV) => (Option.bind (fn_X8_goesBack wx_51) (fun t2 => some (x1_51, t2)))) fM (-5) (nI k) s = some (a, m') ∧ vk v v' ∧ mk0 m m' := by
    intro d
    induction d with
    | zero =>
      intro k hk fC fM v1 s hC hM hv hfc hfs
      obtain ⟨fC, rfl⟩ : ∃ f', fC = f' + 1 := ⟨fC - 1, by omega⟩
      obtain ⟨fM, rfl⟩ : ∃ f', fM = f' + 1 := ⟨fM - 1, by omega⟩
      obtain ⟨m3, d1, d2⟩ := fs_back hfs
      have h60 : (60 : Int32) < nI k := nI_lt (a := 60) (by omega) (by omega)
      refine ⟨-5, v1, m3, ?_, ?_, hv, d2⟩
      · show st_X7_ready_24 le ea _ _ _ _ = _
        unfold st_X7_ready_24
        rw [if_pos h60]
      · show st_X8_ready_9 _ _ _ _ _ = _
        unfold st_X8_ready_9
        rw [if_pos h60]
        show Option.bind (fn_X8_goesBack s) _ = _
        rw [d1, m_bind_some]
    | succ d ih =>
      intro k hk fC fM v1 s hC hM hv hfc hfs
      obtain ⟨fC, rfl⟩ : ∃ f', fC = f' + 1 := ⟨fC - 1, by omega⟩
      obtain ⟨fM, rfl⟩ : ∃ f', fM = f' + 1 + 1 := ⟨fM - 2, by omega⟩
      have h60 : ¬ (60 : Int32) < nI k := nI_nlt (a := 60) (by omega) (by omega)
      have hgk := gk_weeks (c := lz_c z) (held := 0) hg.2.1 hh.2.1 k
      have hwk := (n_iter_week (c := lz_c z) (F := nI f) (held := 0) eg hw k).2
      obtain ⟨s', g1, g2⟩ := fs_goes hfs hh hgk hwk (by omega)
      have hgoal : fn_X8_goalNow s = some (nI (GL γ)) := by rw [x8_goalNow (lh_same hh.1 hfs.2.2.1), e1]
      have hM1 : lp_X8_ready_9 (fun (x1_51 : Int32) (wx_51 : ModelV) => (Option.bind (fn_X8_goesBack wx_51) (fun t2 => some (x1_51, t2)))) (fM + 1 + 1) (-5) (nI k) s = if Group_work (n_iter (sp_week n (lz_c z) (nI f) 0) k (Room_group (One_now v))) < nI (GL γ) then lp_X8_ready_9 (fun (x1_51 : Int32) (wx_51 : ModelV) => (Option.bind (fn_X8_goesBack wx_51) (fun t2 => some (x1_51, t2)))) (fM + 1) (-5) (nI (k + 1)) s' else lp_X8_ready_9 (fun (x1_51 : Int32) (wx_51 : ModelV) => (Option.bind (fn_X8_goesBack wx_51) (fun t2 => some (x1_51, t2)))) (fM + 1) (nI k) (nI (k + 1)) s' := by
        show st_X8_ready_9 _ (lp_X8_ready_9 _ (fM + 1)) _ _ _ = _
        unfold st_X8_ready_9
        rw [if_neg h60, if_neg (show ¬ ¬ (-5 : Int32) = -5 from fun z => z rfl), if_pos q_j1, q_c1, hgoal, m_bind_some, m_jp_eq, g1, ← nI_succ, show Model_s s 1 = Group_work (n_iter (sp_week n (lz_c z) (nI f) 0) k (Room_group (One_now v))) from hfs.2.2.2.2.2.1]
        simp only [m_bind_some]
      have hC1 : lp_X7_ready_24 le ea (nI (GL γ)) (fC + 1) (nI k) v1 = if Group_work (n_iter (sp_week n (lz_c z) (nI f) 0) k (Room_group (One_now v))) < nI (GL γ) then (Option.bind (fn_X1_go (One_forecast v1) le ea 1) (fun t8 => lp_X7_ready_24 le ea (nI (GL γ)) fC (nI (k + 1)) (One_forecast_s v1 t8))) else some (nI k, v1) := by
        show st_X7_ready_24 le ea _ _ _ _ = _
        unfold st_X7_ready_24
        rw [if_neg h60, ← nI_succ, show Group_work (Forecast_trial (One_forecast v1)) = Group_work (n_iter (sp_week n (lz_c z) (nI f) 0) k (Room_group (One_now v))) from hfc.1.2.2.1]
      rw [hM1, hC1]
      by_cases q : Group_work (n_iter (sp_week n (lz_c z) (nI f) 0) k (Room_group (One_now v))) < nI (GL γ)
      · rw [if_pos q, if_pos q]
        obtain ⟨f3, c1, c2⟩ := fc_go (N := 1) hfc hl hgk hwk (by omega) (by omega)
        rw [show (1 : Int32) = nI 1 from rfl, c1, m_bind_some]
        exact ih (k + 1) (by omega) fC (fM + 1) (One_forecast_s v1 f3) s' (by omega) (by omega) (vk_f hv f3) c2 g2
      · rw [if_neg q, if_neg q]
        obtain ⟨m3, d1, d2⟩ := fs_back g2
        refine ⟨nI k, v1, m3, rfl, ?_, hv, d2⟩
        show st_X8_ready_9 _ _ _ _ _ = _
        unfold st_X8_ready_9
        have hne : ¬ nI k = (-5 : Int32) := fun z => nI_pos (n := k) (by omega) (by rw [z]; decide)
        have hJ : (Option.bind (fn_X8_goesBack s') (fun t2 => some (nI k, t2))) = some (nI k, m3) := by rw [d1, m_bind_some]
        by_cases h61 : (60 : Int32) < nI (k + 1)
        · rw [if_pos h61]
          exact hJ
        · rw [if_neg h61, if_pos hne]
          exact hJ
  obtain ⟨a, v', m', c1, c2, c3, c4⟩ := main 61 0 rfl m_N m_N (One_forecast_s v f1) m1 (by rw [m_N_val]; omega) (by rw [m_N_val]; omega) (vk_refl v) a2 b2'
  unfold fn_X7_ready fn_X8_ready fn_X3_goal
  rw [h1, m_bind_some, if_pos rfl, m_bind_some, hl.2.2.1, e2, a1, m_bind_some, b1, m_bind_some, m_jp_eq]
  exact ⟨a, v', m', c1, c2, R_vk h c4 c3⟩
theorem rg_w99 {n : Nat} {g : GroupV} {p : Nat} (h : gk n g) : gk n (Group_wills_s g (upd (Group_wills g) p 99)) := ⟨h.1, h.2.1, fun k hk => ⟨(h.2.2 k hk).1, by
  show ∃ x, x < 100 ∧ upd (Group_wills g) p 99 k = nI x
  by_cases q : k = p
  · subst q; exact ⟨99, by omega, pk_us⟩
  · rw [pk_un q]; exact (h.2.2 k hk).2⟩⟩
theorem rg_o01 {n : Nat} {g : GroupV} {p : Nat} {x : Int32} (hx : x = 0 ∨ x = 1) (h : gk n g) : gk n (Group_outs_s g (upd (Group_outs g) p x)) := ⟨h.1, h.2.1, fun k hk => ⟨by
  show upd (Group_outs g) p x k = 0 ∨ upd (Group_outs g) p x k = 1
  by_cases q : k = p
  · subst q; rw [pk_us]; exact hx
  · rw [pk_un q]; exact (h.2.2 k hk).1, (h.2.2 k hk).2⟩⟩
theorem ag_uw {n : Nat} {g h : GroupV} (a : ag n g h) (p : Nat) (x : Int32) : ag n (Group_wills_s g (upd (Group_wills g) p x)) (Group_wills_s h (upd (Group_wills h) p x)) := ⟨a.1, a.2.1, a.2.2.1, fun k hk => by
  obtain ⟨⟨a1, a2, a3, a4, a5, a6⟩, a7⟩ := a.2.2.2 k hk
  refine ⟨⟨a1, a2, a3, ?_, a5, a6⟩, a7⟩
  show upd (Group_wills h) p x k = upd (Group_wills g) p x k
  by_cases q : k = p
  · subst q; rw [pk_us, pk_us]
  · rw [pk_un q, pk_un q]; exact a4⟩
theorem ag_uo {n : Nat} {g h : GroupV} (a : ag n g h) (p : Nat) (x : Int32) : ag n (Group_outs_s g (upd (Group_outs g) p x)) (Group_outs_s h (upd (Group_outs h) p x)) := ⟨a.1, a.2.1, a.2.2.1, fun k hk => by
  obtain ⟨⟨a1, a2, a3, a4, a5, a6⟩, a7⟩ := a.2.2.2 k hk
  refine ⟨⟨a1, a2, a3, a4, a5, ?_⟩, a7⟩
  show upd (Group_outs h) p x k = upd (Group_outs g) p x k
  by_cases q : k = p
  · subst q; rw [pk_us, pk_us]
  · rw [pk_un q, pk_un q]; exact a6⟩
theorem ag_sw {n : Nat} {g : GroupV} {s : Nat → Int32} (a : ag n g (sv s)) (hn : n ≤ 6) {p : Nat} (hp : p < n) (x : Int32) : ag n (Group_wills_s g (upd (Group_wills g) p x)) (sv (upd s (8 + p) x)) := ⟨(pk_un (by omega)).trans a.1, (pk_un (by omega)).trans a.2.1, (pk_un (by omega)).trans a.2.2.1, fun k hk => ⟨⟨(pk_un (by omega)).trans (ag_kinds a hk), (pk_un (by omega)).trans (ag_vs a hk), (pk_un (by omega)).trans (ag_skills a hk), ro_up (n := n) (f := s) (g := Group_wills g) (ag_wills a hk), (pk_un (by omega)).trans (ag_hours a hk), (pk_un (by omega)).trans (ag_outs a hk)⟩, fun i hi => (pk_un (by omega)).trans (ag_rows a hk hi)⟩⟩
theorem ag_so {n : Nat} {g : GroupV} {s : Nat → Int32} (a : ag n g (sv s)) (hn : n ≤ 6) {p : Nat} (hp : p < n) (x : Int32) : ag n (Group_outs_s g (upd (Group_outs g) p x)) (sv (upd s (14 + p) x)) := ⟨(pk_un (by omega)).trans a.1, (pk_un (by omega)).trans a.2.1, (pk_un (by omega)).trans a.2.2.1, fun k hk => ⟨⟨(pk_un (by omega)).trans (ag_kinds a hk), (pk_un (by omega)).trans (ag_vs a hk), (pk_un (by omega)).trans (ag_skills a hk), (pk_un (by omega)).trans (ag_wills a hk), (pk_un (by omega)).trans (ag_hours a hk), ro_up (n := n) (f := s) (g := Group_outs g) (ag_outs a hk)⟩, fun i hi => (pk_un (by omega)).trans (ag_rows a hk hi)⟩⟩
theorem sim_done (h : R Q v m) (hH : HL Q (One_now v) (Model_s m) ea le) (x : Int32) : SIM Q (fn_X7_done v le ea x) (fn_X8_done m x) := by
  obtain ⟨n', z, γ, f, w, hx⟩ := cx h hH
  obtain ⟨_, hh, hl, h1, hw, hwl, hγ, _⟩ := hx
  have h0 := h
  obtain ⟨⟨n, hg, ht, hrl, hn0, hs, ⟨l0, K, k1, k2, k3, k4⟩, hb, hpe, hbe⟩, hi, ha⟩ := h
  have hn := hg.2.1.1
  have eg : Group_size (Room_group (One_now v)) = nI n := hg.2.1.2.1
  have e1 : Model_s m 1 = Group_work (Room_group (One_now v)) := hg.1.2.2.1
  obtain ⟨f1, a1, a2⟩ := fc_begin (One_forecast v) h1 hg.2.1
  obtain ⟨m1, b1, b2⟩ := fs_keeps n m
  have b2' : FS n m (Room_group (One_now v)) m1 := ⟨b2.1, b2.2.1, b2.2.2.1, ag_trans hg.1 b2.2.2.2⟩
  have main : ∀ d j, j + d = K → ∀ (J : ModelV → Option (Int32 × ModelV)) fC fM (fc : ForecastV) (s : ModelV) (g' : GroupV) (u : Nat), d < fC → d < fM → u ≤ w + j → FC n (Room_group (One_now v)) ea g' fc → FS n m g' s → gk n g' → Group_week g' = nI u →
      ∃ fc' s' g'', lp_X1_follow_2 (Room_plan (One_now v)) le ea fC (nI j) fc = some fc' ∧ lp_X8_done_17 J fM (nI j) s = J s' ∧ FC n (Room_group (One_now v)) ea g'' fc' ∧ FS n m g'' s' ∧ gk n g'' := by
    intro d
    induction d with
    | zero =>
      intro j hj J fC fM fc s g' u hC hM hu hfc hfs hgk hwk
      obtain ⟨fC, rfl⟩ : ∃ f', fC = f' + 1 := ⟨fC - 1, by omega⟩
      obtain ⟨fM, rfl⟩ : ∃ f', fM = f' + 1 := ⟨fM - 1, by omega⟩
      have ej : j = K := by omega
      subst ej
      refine ⟨fc, s, g', ?_, ?_, hfc, hfs, hgk⟩
      · show st_X1_follow_2 _ le ea _ _ _ = _
        unfold st_X1_follow_2
        rw [k2, if_pos (nI_le (Nat.le_refl j) (by omega))]
      · show st_X8_done_17 J _ _ _ = _
        unfold st_X8_done_17
        rw [if_pos q_j23, q_c23, hfs.2.2.1 23 (by omega), k3, if_pos (nI_le (Nat.le_refl j) (by omega))]
    | succ d ih =>
      intro j hj J fC fM fc s g' u hC hM hu hfc hfs hgk hwk
      obtain ⟨fC, rfl⟩ : ∃ f', fC = f' + 1 := ⟨fC - 1, by omega⟩
      obtain ⟨fM, rfl⟩ : ∃ f', fM = f' + 1 := ⟨fM - 1, by omega⟩
      obtain ⟨wt, w1, w2, w3⟩ := hpe K k1 k2 j (by omega)
      have s79 : Model_s s (79 + j) = nI wt := by rw [hfs.2.2.1 _ (by omega), (k4 j (by omega)).1, w2]
      have s87 : Model_s s (87 + j) = Rows_seconds (Room_plan (One_now v)) j := by rw [hfs.2.2.1 _ (by omega), (k4 j (by omega)).2]
      have hC1 : lp_X1_follow_2 (Room_plan (One_now v)) le ea (fC + 1) (nI j) fc = st_X1_follow_2 (Room_plan (One_now v)) le ea (lp_X1_follow_2 (Room_plan (One_now v)) le ea fC) (nI j) fc := rfl
      have hM1 : lp_X8_done_17 J (fM + 1) (nI j) s = Option.bind (fn_X8_goesBy s (nI wt) (Rows_seconds (Room_plan (One_now v)) j)) (fun t12 => lp_X8_done_17 J fM (nI (j + 1)) t12) := by
        show st_X8_done_17 J _ _ _ = _
        unfold st_X8_done_17
        rw [if_pos q_j23, q_c23, hfs.2.2.1 23 (by omega), k3, if_neg (nI_ge (by omega) (by omega)), if_pos (q_i79 (by omega)), q_a79 (by omega), if_pos (q_i87 (by omega)), q_a87 (by omega), s79, s87, ← nI_succ]
      unfold st_X1_follow_2 at hC1
      rw [k2, if_neg (nI_ge (by omega) (by omega)), l0, if_pos (mIn_nI (by omega) (by omega)), if_pos (mIn_nI (by omega) (by omega)), m_jp_eq, q_n (by omega), w2, ← nI_succ] at hC1
      unfold fn_X8_goesBy at hM1
      by_cases q0 : wt = 0
      · subst q0
        obtain ⟨t, c1, c2⟩ := fc_weeks (N := 1) hfc hl hgk hwk (by omega) (by omega)
        obtain ⟨s', d1, d2⟩ := fs_goes hfs hh hgk hwk (by omega)
        rw [if_neg (show ¬ ¬ nI 0 = 0 from fun z => z rfl), if_pos hfc.2.2, show (1 : Int32) = nI 1 from rfl, c1, m_bind_some] at hC1
        rw [if_neg (show ¬ ¬ nI 0 = 0 from fun z => z rfl), d1, m_bind_some, m_bind_some] at hM1
        rw [hC1, hM1]
        exact ih (j + 1) (by omega) J fC fM _ s' _ (u + 1) (by omega) (by omega) (by omega) ⟨c2, hfc.2.1, hfc.2.2⟩ d2 (gk_week hgk hh.2.1) (by rw [n_iter_1, sp_week_week, hwk, nI_1])
      · obtain ⟨p, p1, p2⟩ := w3 q0
        have hne0 : ¬ nI wt = 0 := nI_ne0 (by omega) (by omega)
        rw [if_pos hne0, p2, if_neg (nI_pos (by omega)), show Group_size (Forecast_trial fc) = nI n from hfc.1.1.trans hgk.2.1, if_pos (nI_lt p1 (by omega)), q_n (by omega)] at hC1
        rw [if_pos hne0, p2] at hM1
        have i6 : mIn (nI p) 6 = true := q_6 (by omega)
        by_cases q3 : wt = 3
        · subst q3
          rw [if_neg (show ¬ ¬ nI 3 = 3 from fun z => z rfl), if_pos i6] at hC1
          rw [if_neg (show ¬ ¬ nI 3 = 3 from fun z => z rfl), if_pos (q_i8 (by omega)), q_a8 (by omega), m_bind_some] at hM1
          rw [hC1, hM1]
          refine ih (j + 1) (by omega) J fC fM _ _ (Group_wills_s g' (upd (Group_wills g') p 99)) u (by omega) (by omega) (by omega) ⟨ag_uw hfc.1 p 99, hfc.2.1, hfc.2.2⟩ ⟨hfs.1, hfs.2.1, fun i hi => (pk_un (by omega)).trans (hfs.2.2.1 i hi), ag_sw hfs.2.2.2 hn p1 99⟩ (rg_w99 hgk) hwk
        · have hne3 : ¬ nI wt = 3 := fun z => q3 ((nI_eq (b := 3) (by omega) (by omega)).mp z)
          rw [if_pos hne3, m_jp_eq] at hC1
          rw [if_pos hne3, m_jp_eq] at hM1
          have step : ∀ o : Int32, (o = 0 ∨ o = 1) → lp_X1_follow_2 (Room_plan (One_now v)) le ea (fC + 1) (nI j) fc = lp_X1_follow_2 (Room_plan (One_now v)) le ea fC (nI (j + 1)) (Forecast_trial_s fc (Group_outs_s (Forecast_trial fc) (upd (Group_outs (Forecast_trial fc)) p o))) → lp_X8_done_17 J (fM + 1) (nI j) s = lp_X8_done_17 J fM (nI (j + 1)) (Model_s_s s (upd (Model_s s) (14 + p) o)) → ∃ fc' s' g'', lp_X1_follow_2 (Room_plan (One_now v)) le ea (fC + 1) (nI j) fc = some fc' ∧ lp_X8_done_17 J (fM + 1) (nI j) s = J s' ∧ FC n (Room_group (One_now v)) ea g'' fc' ∧ FS n m g'' s' ∧ gk n g'' := by
            intro o ho hc hm
            rw [hc, hm]
            exact ih (j + 1) (by omega) J fC fM _ _ (Group_outs_s g' (upd (Group_outs g') p o)) u (by omega) (by omega) (by omega) ⟨ag_uo hfc.1 p o, hfc.2.1, hfc.2.2⟩ ⟨hfs.1, hfs.2.1, fun i hi => (pk_un (by omega)).trans (hfs.2.2.1 i hi), ag_so hfs.2.2.2 hn p1 o⟩ (rg_o01 ho hgk) hwk
          by_cases q1 : wt = 1
          · subst q1
            rw [if_neg (show ¬ ¬ nI 1 = 1 from fun z => z rfl)] at hC1
            rw [if_neg (show ¬ ¬ nI 1 = 1 from fun z => z rfl)] at hM1
            simp only [i6, if_true, nar_1] at hC1
            simp only [q_i14 (show 14 + p < 926 by omega), q_a14 (show 14 + p < 926 by omega), if_true, m_bind_some] at hM1
            exact step 1 (Or.inr rfl) hC1 hM1
          · have hne1 : ¬ nI wt = 1 := fun z => q1 ((nI_eq (b := 1) (by omega) (by omega)).mp z)
            rw [if_pos hne1] at hC1
            rw [if_pos hne1] at hM1
            simp only [i6, if_true, nar_0] at hC1
            simp only [q_i14 (show 14 + p < 926 by omega), q_a14 (show 14 + p < 926 by omega), if_true, m_bind_some] at hM1
            exact step 0 (Or.inl rfl) hC1 hM1
  unfold fn_X7_done fn_X8_done
  simp only [m_jp_eq]
  by_cases q0 : x = 0 ∨ x = 1
  case neg =>
    rw [if_neg (fun z => q0 (Or.inl z)), if_neg (fun z => q0 (Or.inr z)), in01_n (fun z => q0 (Or.inl z)) (fun z => q0 (Or.inr z)), m_bind_some, if_neg n00]
    exact ⟨_, v, m, rfl, rfl, h0⟩
  have hred : ∀ (A B : Option (Int32 × OneV)), (if x = 0 then A else if x = 1 then A else B) = A := fun A B => by
    rcases q0 with q | q
    · rw [if_pos q]
    · rw [if_neg (by rw [q]; decide), if_pos q]
  obtain ⟨fc', s', g'', c1, c2, c3, c4, c5⟩ := main K 0 (by omega) (fun (wx_56 : ModelV) => (if ¬ x = 0 then (Option.bind (fn_X8_allMore wx_56) (fun t6 => (Option.bind (fn_X8_goesBack wx_56) (fun t4 => some (t6, t4))))) else (Option.bind (fn_X8_workMore wx_56) (fun t7 => (Option.bind (fn_X8_goesBack wx_56) (fun t4 => some (t7, t4))))))) m_N m_N f1 m1 _ w (by rw [m_N_val]; omega) (by rw [m_N_val]; omega) (by omega) a2 b2' hg.2.1 hw
  obtain ⟨m3, d1, d2⟩ := fs_back c4
  rw [hred, a1, m_bind_some, in01_y q0, m_bind_some, if_pos n10, b1, m_bind_some]
  unfold fn_X1_follow
  rw [show (0 : Int32) = nI 0 from rfl] at *
  rw [c1, m_bind_some, c2]
  show SIM Q (if ¬ x = nI 0 then _ else _) (if ¬ x = nI 0 then _ else _)
  by_cases q : x = nI 0
  · rw [if_neg (fun z => z q), if_neg (fun z => z q), fc_workMore c3, m_bind_some, fs_workMore c4, m_bind_some, d1, m_bind_some, e1]
    exact ⟨_, _, m3, rfl, rfl, R_mk h0 d2 rfl rfl rfl rfl⟩
  · rw [if_pos q, if_pos q, fc_hoursMore c3 c5.2.1 eg hn, m_bind_some, fs_allMore c4 c5.2.1 hn, m_bind_some, d1, m_bind_some, more_same hg.1]
    exact ⟨_, _, m3, rfl, rfl, R_mk h0 d2 rfl rfl rfl rfl⟩
end ON
