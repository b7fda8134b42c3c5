/-! The class's forecasts. -/
theorem cpy_at {f g : Nat → Int32} {n i : Nat} (h : i < n) : va_cpy f g 0 0 n i = f i := by
  unfold va_cpy
  simp [h]
def cpS (v v0 : GroupV) (k : Nat) : GroupV := Group_outs_s (Group_hours_s (Group_wills_s (Group_skills_s (Group_vs_s (Group_kinds_s (Group_work_s (Group_week_s (Group_size_s v (Group_size v0)) (Group_week v0)) (Group_work v0)) (n_fill (Group_kinds v0) (Group_kinds v) k)) (n_fill (Group_vs v0) (Group_vs v) k)) (n_fill (Group_skills v0) (Group_skills v) k)) (n_fill (Group_wills v0) (Group_wills v) k)) (n_fill (Group_hours v0) (Group_hours v) k)) (n_fill (Group_outs v0) (Group_outs v) k)
theorem nar_out {x : Int32} (h : x = 0 ∨ x = 1) : vp_nar .boolean x = x := by
  rcases h with h | h <;> subst h <;> rfl
theorem x2_copyFrom {n : Nat} (v v0 : GroupV) (hs : Group_size v0 = nI n) (hn : n ≤ 6) (ho : ∀ k, k < n → Group_outs v0 k = 0 ∨ Group_outs v0 k = 1) : ∃ g, fn_X2_copyFrom v v0 = some g ∧ ag n v0 g := by
  have e4 : nI n * 4 = nI (4 * n) := by
    rw [show (4 : Int32) = nI 4 from rfl]
    show Int32.ofNat n * Int32.ofNat 4 = Int32.ofNat (4 * n)
    rw [← Int32.ofNat_mul, Nat.mul_comm]
  unfold fn_X2_copyFrom
  rw [m_jp_eq]
  have e0 : cpS v v0 0 = Group_work_s (Group_week_s (Group_size_s v (Group_size v0)) (Group_week v0)) (Group_work v0) := by
    unfold cpS
    simp only [n_fill_0]
  rw [← e0]
  refine ⟨Group_rows_s (cpS v v0 n) (va_cpy (Group_rows v0) (Group_rows v) 0 0 (4 * n)), ?_, ?_⟩
  · refine n_loop (fun f y (s : GroupV) => lp_X2_copyFrom_26 v0 _ f y s) (cpS v v0) n _ (fun f => ?_) (fun f k hk => ?_) m_N (by rw [m_N_val]; omega)
    · show st_X2_copyFrom_26 v0 _ _ _ _ = _
      unfold st_X2_copyFrom_26
      have e1 : Group_size (cpS v v0 n) = nI n := hs
      rw [e1, if_pos (nI_le (Nat.le_refl n) (by omega))]
      show (if ¬ (Group_size (cpS v v0 n) * 4) < 0 then _ else _) = _
      rw [e1, e4, if_pos (nI_pos (by omega)), q_n (by omega), q_c0, if_pos (by omega)]
      rfl
    · show st_X2_copyFrom_26 v0 _ _ _ _ = _
      unfold st_X2_copyFrom_26
      have e1 : Group_size (cpS v v0 k) = nI n := hs
      rw [e1, if_neg (nI_ge hk (by omega))]
      simp only [q_6 (show k < 6 by omega), if_true, q_n (show k < 100000 by omega), nar_out (ho k hk), ← nI_succ]
      have e2 : Group_outs_s (Group_hours_s (Group_wills_s (Group_skills_s (Group_vs_s (Group_kinds_s (cpS v v0 k) (upd (Group_kinds (cpS v v0 k)) k (Group_kinds v0 k))) (upd (Group_vs (cpS v v0 k)) k (Group_vs v0 k))) (upd (Group_skills (cpS v v0 k)) k (Group_skills v0 k))) (upd (Group_wills (cpS v v0 k)) k (Group_wills v0 k))) (upd (Group_hours (cpS v v0 k)) k (Group_hours v0 k))) (upd (Group_outs (cpS v v0 k)) k (Group_outs v0 k)) = cpS v v0 (k + 1) := by
        show Group_outs_s (Group_hours_s (Group_wills_s (Group_skills_s (Group_vs_s (Group_kinds_s (cpS v v0 k) (upd (n_fill (Group_kinds v0) (Group_kinds v) k) k (Group_kinds v0 k))) (upd (n_fill (Group_vs v0) (Group_vs v) k) k (Group_vs v0 k))) (upd (n_fill (Group_skills v0) (Group_skills v) k) k (Group_skills v0 k))) (upd (n_fill (Group_wills v0) (Group_wills v) k) k (Group_wills v0 k))) (upd (n_fill (Group_hours v0) (Group_hours v) k) k (Group_hours v0 k))) (upd (n_fill (Group_outs v0) (Group_outs v) k) k (Group_outs v0 k)) = cpS v v0 (k + 1)
        simp only [n_fill_succ]
        rfl
      rw [← e2]
  · exact ⟨rfl, rfl, rfl, fun k hk => ⟨⟨n_fill_in hk, n_fill_in hk, n_fill_in hk, n_fill_in hk, n_fill_in hk, n_fill_in hk⟩, fun i hi => cpy_at (by omega)⟩⟩
/-- in the class's forecast over the group g0 stands the group g -/
def FC (n : Nat) (g0 : GroupV) (ea : Nat) (g : GroupV) (v : ForecastV) : Prop := ag n g (Forecast_trial v) ∧ ag n g0 (Forecast_start v) ∧ Forecast_lesson v = ea
/-- a lesson's values, with its bounds -/
def lq (le : LessonV) (z : LZ) (G : Int32) (f : Nat) : Prop := lc_in le (lz_c z) ∧ lz_ok z ∧ Lesson_toldGoal le = G ∧ Lesson_fair le = nI f ∧ f < 100
section FO
variable {le : LessonV} {z : LZ} {G : Int32} {n w f ea : Nat} {g g0 : GroupV} {v : ForecastV} {r : RoomV}
theorem fc_begin (v : ForecastV) (hr : fn_X5_lesson r = some ea) (hg : gk n (Room_group r)) : ∃ v', fn_X1_begin v r = some v' ∧ FC n (Room_group r) ea (Room_group r) v' := by
  obtain ⟨g1, a1, a2⟩ := x2_copyFrom (n := n) (Forecast_start v) (Room_group r) hg.2.1 hg.1 (fun k hk => (hg.2.2 k hk).1)
  obtain ⟨g2, b1, b2⟩ := x2_copyFrom (n := n) (Forecast_trial v) (Room_group r) hg.2.1 hg.1 (fun k hk => (hg.2.2 k hk).1)
  refine ⟨Forecast_lesson_s (Forecast_start_s (Forecast_trial_s v g2) g1) ea, ?_, b2, a2, rfl⟩
  unfold fn_X1_begin
  rw [a1, m_bind_some, b1, m_bind_some, hr, m_bind_some]
/-- one more is out -/
def sp_out1 (p : Nat) (g : GroupV) : GroupV := Group_outs_s g (upd (Group_outs g) p 1)
theorem gk_out1 {n : Nat} {g : GroupV} (h : gk n g) (p : Nat) : gk n (sp_out1 p g) := ⟨h.1, h.2.1, fun k hk => ⟨by
  show upd (Group_outs g) p 1 k = 0 ∨ upd (Group_outs g) p 1 k = 1
  by_cases q : k = p
  · subst q; exact Or.inr pk_us
  · rw [pk_un q]; exact (h.2.2 k hk).1, (h.2.2 k hk).2⟩⟩
theorem ag_out1 {n : Nat} {g h : GroupV} (a : ag n g h) (p : Nat) : ag n (sp_out1 p g) (sp_out1 p h) := ⟨a.1, a.2.1, a.2.2.1, fun k hk => by
  obtain ⟨⟨a1, a2, a3, a4, a5, a6⟩, a7⟩ := a.2.2.2 k hk
  refine ⟨⟨a1, a2, a3, a4, a5, ?_⟩, a7⟩
  show upd (Group_outs h) p 1 k = upd (Group_outs g) p 1 k
  by_cases q : k = p
  · subst q; rw [pk_us, pk_us]
  · rw [pk_un q, pk_un q]; exact a6⟩
theorem fc_without (v : ForecastV) (hr : fn_X5_lesson r = some ea) (hg : gk n (Room_group r)) {p : Nat} (hp : p < n) : ∃ v', fn_X1_beginWithout v r (nI p) = some v' ∧ FC n (Room_group r) ea (sp_out1 p (Room_group r)) v' := by
  have hn := hg.1
  obtain ⟨v', a1, a2, a3, a4⟩ := fc_begin v hr hg
  refine ⟨Forecast_trial_s v' (sp_out1 p (Forecast_trial v')), ?_, ag_out1 a2 p, a3, a4⟩
  unfold fn_X1_beginWithout
  rw [a1, m_bind_some, if_pos (q_6 (by omega)), q_n (by omega)]
  rfl
theorem fc_weeks (h : FC n g0 ea g v) (hl : lq le z G f) (hg : gk n g) (hw : Group_week g = nI w) {N : Nat} (hN : N ≤ 60) (hwl : w + N < 20000) : ∃ t, fn_X2_goWeeks (Forecast_trial v) le (nI N) 0 = some t ∧ ag n (n_iter (sp_week n (lz_c z) (nI f) 0) N g) t := by
  have h1 := x2_goWeeks (g := Forecast_trial v) (le := le) (n := n) (N := N) (w := w) (c := lz_c z) 0 (h.1.1.trans hg.2.1) hg.1 (h.1.2.1.trans hw) hN hwl hl.2.1.1 hl.1
  rw [hl.2.2.2.1] at h1
  exact ⟨_, h1, ag_weeks h.1 hg.2.1 hw hg.1 (lz_c z) (nI f) 0 N hwl⟩
theorem fc_go (h : FC n g0 ea g v) (hl : lq le z G f) (hg : gk n g) (hw : Group_week g = nI w) {N : Nat} (hN : N ≤ 60) (hwl : w + N < 20000) : ∃ v', fn_X1_go v le ea (nI N) = some v' ∧ FC n g0 ea (n_iter (sp_week n (lz_c z) (nI f) 0) N g) v' := by
  obtain ⟨t, a1, a2⟩ := fc_weeks h hl hg hw hN hwl
  refine ⟨Forecast_trial_s v t, ?_, a2, h.2.1, h.2.2⟩
  unfold fn_X1_go
  rw [if_pos h.2.2, a1, m_bind_some]
theorem fc_workMore (h : FC n g0 ea g v) : fn_X1_workMore v = some (Group_work g - Group_work g0) := by
  unfold fn_X1_workMore
  rw [h.1.2.2.1, h.2.1.2.2.1]
theorem fc_hoursMore (h : FC n g0 ea g v) (hs : Group_size g = nI n) (hs0 : Group_size g0 = nI n) (hn : n ≤ 6) : fn_X1_hoursMore v = some (sp_all n g - sp_all n g0) := by
  unfold fn_X1_hoursMore
  rw [x2_hoursOfAll (g := Forecast_trial v) (h.1.1.trans hs) hn, m_bind_some, x2_hoursOfAll (g := Forecast_start v) (h.2.1.1.trans hs0) hn, m_bind_some, ag_all h.1, ag_all h.2.1]
theorem fc_hoursMoreOf (h : FC n g0 ea g v) {p : Nat} (hp : p < n) (hn : n ≤ 6) : fn_X1_hoursMoreOf v (nI p) = some (Group_hours g p - Group_hours g0 p) := by
  unfold fn_X1_hoursMoreOf
  rw [if_pos (q_6 (by omega)), if_pos (q_6 (by omega)), q_n (by omega), ag_hours h.1 hp, ag_hours h.2.1 hp]
theorem x1_workOf (v : ForecastV) {set N : Nat} (hset : set < 64) (hr : fn_X5_lesson r = some ea) (hg : gk n (Room_group r)) (hl : lq le z G f) (hw : Group_week (Room_group r) = nI w) (hN : N ≤ 60) (hwl : w + N < 20000) : ∃ v', fn_X1_workOf v r le ea (nI set) (nI N) = some (sp_wb n (lz_c z) (nI f) (Room_group r) set N, v') := by
  have hn := hg.1
  obtain ⟨v1, a1, a2, a3, a4⟩ := fc_begin v hr hg
  unfold fn_X1_workOf
  rw [a1, m_bind_some, m_jp_eq]
  refine n_loopI (fun f y (s : ForecastV) => lp_X1_workOf_8 (nI set) _ f y s) (fun k s => Forecast_start s = Forecast_start v1 ∧ Forecast_lesson s = ea ∧ ag n (Group_outs_s (Room_group r) (fun j => if j < k then (if set.testBit j = true then 0 else 1) else Group_outs (Room_group r) j)) (Forecast_trial s)) n (fun x => ∃ v', x = some (sp_wb n (lz_c z) (nI f) (Room_group r) set N, v')) (fun f s hi => ?_) (fun f k s hk hi => ?_) m_N v1 (by rw [m_N_val]; omega) ⟨rfl, a4, ?_⟩
  · obtain ⟨i1, i2, i3⟩ := hi
    show ∃ v', st_X1_workOf_8 (nI set) _ _ _ _ = _
    unfold st_X1_workOf_8
    have e : Group_size (Forecast_trial s) = nI n := i3.1.trans hg.2.1
    rw [e, if_pos (nI_le (Nat.le_refl n) (by omega))]
    have i4 : ag n (sp_in set (Room_group r)) (Forecast_trial s) := by
      obtain ⟨b1, b2, b3, b4⟩ := i3
      refine ⟨b1, b2, b3, fun k hk => ⟨⟨(b4 k hk).1.1, (b4 k hk).1.2.1, (b4 k hk).1.2.2.1, (b4 k hk).1.2.2.2.1, (b4 k hk).1.2.2.2.2.1, ?_⟩, (b4 k hk).2⟩⟩
      exact (b4 k hk).1.2.2.2.2.2.trans (if_pos hk)
    have hF : FC n (Room_group r) ea (sp_in set (Room_group r)) s := ⟨i4, by rw [i1]; exact a3, i2⟩
    obtain ⟨t, b1, b2⟩ := fc_weeks hF hl (gk_in hg set) hw hN hwl
    have hF2 : FC n (Room_group r) ea (n_iter (sp_week n (lz_c z) (nI _) 0) N (sp_in set (Room_group r))) (Forecast_trial_s s t) := ⟨b2, by rw [show Forecast_start (Forecast_trial_s s t) = Forecast_start v1 from i1]; exact a3, i2⟩
    show ∃ v', (if Forecast_lesson s = ea then _ else none) = _
    rw [if_pos i2, b1, m_bind_some, fc_workMore hF2, m_bind_some]
    exact ⟨_, rfl⟩
  · obtain ⟨i1, i2, i3⟩ := hi
    have e : Group_size (Forecast_trial s) = nI n := i3.1.trans hg.2.1
    refine ⟨Forecast_trial_s s (Group_outs_s (Forecast_trial s) (upd (Group_outs (Forecast_trial s)) k (if set.testBit k = true then 0 else 1))), ⟨i1, i2, ?_⟩, ?_⟩
    · obtain ⟨b1, b2, b3, b4⟩ := i3
      refine ⟨b1, b2, b3, fun j hj => ⟨⟨(b4 j hj).1.1, (b4 j hj).1.2.1, (b4 j hj).1.2.2.1, (b4 j hj).1.2.2.2.1, (b4 j hj).1.2.2.2.2.1, ?_⟩, (b4 j hj).2⟩⟩
      show upd (Group_outs (Forecast_trial s)) k _ j = if j < k + 1 then _ else _
      by_cases q : j = k
      · subst q; rw [pk_us, if_pos (show j < j + 1 by omega)]
      · rw [pk_un q, (b4 j hj).1.2.2.2.2.2]
        show (if j < k then _ else _) = _
        by_cases q2 : j < k
        · rw [if_pos q2, if_pos (show j < k + 1 by omega)]
        · rw [if_neg q2, if_neg (show ¬ j < k + 1 by omega)]
    · show st_X1_workOf_8 (nI set) _ _ _ _ = _
      unfold st_X1_workOf_8
      rw [e, if_neg (nI_ge hk (by omega)), m_jp_eq, bit_if set hset k (by omega), ← nI_succ]
      simp only [q_6 (show k < 6 by omega), if_true, q_n (show k < 100000 by omega)]
      cases set.testBit k with
      | true => rw [if_pos (by decide)]; rfl
      | false => rw [if_neg (by decide)]; rfl
  · obtain ⟨b1, b2, b3, b4⟩ := a2
    exact ⟨b1, b2, b3, fun k hk => ⟨⟨(b4 k hk).1.1, (b4 k hk).1.2.1, (b4 k hk).1.2.2.1, (b4 k hk).1.2.2.2.1, (b4 k hk).1.2.2.2.2.1, (b4 k hk).1.2.2.2.2.2⟩, (b4 k hk).2⟩⟩
end FO
