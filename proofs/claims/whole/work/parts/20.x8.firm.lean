/-! skilled, firm: the calls. -/
section SF
variable {Q : Nat → Option LessonV} {v : OneV} {m : ModelV} {ea : Nat} {le : LessonV}
theorem sim_skilled (h : R Q v m) (hH : HL Q (One_now v) (Model_s m) ea le) (x y : Int32) : SIM Q (fn_X7_skilled v le ea x y) (fn_X8_skilled m x y) := by
  obtain ⟨n', z, γ, f, w, hx⟩ := cx h hH
  obtain ⟨_, hh, hl, h1, hw, hwl, hγ, _⟩ := hx
  have h0 := h
  obtain ⟨⟨n, hg, ht, hrl, hn0, hs, hp, hb, hpe, hbe⟩, hi, ha⟩ := h
  have hn := hg.2.1.1
  unfold fn_X7_skilled fn_X8_skilled
  simp only [m_jp_eq]
  rcases pupil_c hg x with ⟨p, p1, rfl, p3, p4⟩ | ⟨p3, p4⟩
  · obtain ⟨F, F1, F2⟩ := fit_both (v := v) (m := m) (ea := ea) (le := le) (n := n) (w := w) (wh := 39 + p) hh hl hg hw hwl hs (by omega) (fun u => Group_skills_s (Room_group (One_now v)) (upd (Group_skills (Room_group (One_now v))) p (nI u))) (fun u hu s hs => ag_off hg.1 hn p1 (nI u) hs) (fun u => ⟨hg.2.1.1, hg.2.1.2.1, hg.2.1.2.2⟩) (fun u => hw)
    have hB := fit_M (m := m) (lo := 1) (wh := 39 + p) (by omega) (by omega) (F := F) (fun s u hu hlo he hc => F2 s u hu he)
    rw [p3, p4, m_bind_some, m_bind_some, if_neg n10, if_neg n10, show 39 + nI p = nI (39 + p) from nI_add 39 p]
    refine fit_end (lo := 1) (by omega) h0 (F := F) (fun J => lp_X7_skilled_24 le ea (nI p) J m_N 0 1 v) (39 + p) (fun J => ?_) hB
    refine fit_C (v := v) (lo := 1) (by omega) (F := F) (fun f a y w => lp_X7_skilled_24 le ea (nI p) J f a y w) J (fun f a w => ?_) (fun f a u w' hu1 hu2 hv => ?_)
    · show st_X7_skilled_24 le ea (nI p) J _ _ _ _ = _
      unfold st_X7_skilled_24
      rw [if_pos (show (9 : Int32) < nI 10 by decide)]
    · obtain ⟨f1, a1, a2⟩ := fc_begin (r := One_now v) (One_forecast w') h1 hg.2.1
      obtain ⟨f2, b1⟩ := F1 u hu2 (Forecast_trial_s f1 (Group_skills_s (Forecast_trial f1) (upd (Group_skills (Forecast_trial f1)) p (nI u)))) ⟨ag_us a2.1 p (nI u), a2.2.1, a2.2.2⟩
      refine ⟨One_forecast_s w' f2, vk_f hv f2, ?_⟩
      show st_X7_skilled_24 le ea (nI p) J _ _ _ _ = _
      unfold st_X7_skilled_24
      rw [if_neg (show ¬ (9 : Int32) < nI u from nI_nlt (a := 9) hu2 (by omega)), hv.1, a1, m_bind_some, if_pos (q_6 (by omega)), q_n (by omega), b1, m_bind_some, m_jp_eq, ← nI_succ, b01_0]
      cases F u <;> rfl
  · rw [p3, p4, m_bind_some, m_bind_some, if_pos n0, if_pos n0]
    exact ⟨_, v, m, rfl, rfl, h0⟩
theorem sim_firm (h : R Q v m) (hH : HL Q (One_now v) (Model_s m) ea le) (x y : Int32) : SIM Q (fn_X7_firm v le ea x y) (fn_X8_firm m x y) := by
  obtain ⟨n', z, γ, f, w, hx⟩ := cx h hH
  obtain ⟨_, hh, hl, h1, hw, hwl, hγ, _⟩ := hx
  have h0 := h
  obtain ⟨⟨n, hg, ht, hrl, hn0, hs, hp, hb, hpe, hbe⟩, hi, ha⟩ := h
  have hn := hg.2.1.1
  unfold fn_X7_firm fn_X8_firm
  simp only [m_jp_eq]
  rcases pupil_c hg x with ⟨p, p1, rfl, p3, p4⟩ | ⟨p3, p4⟩
  · obtain ⟨F, F1, F2⟩ := fit_both (v := v) (m := m) (ea := ea) (le := le) (n := n) (w := w) (wh := 33 + p) hh hl hg hw hwl hs (by omega) (fun u => Group_vs_s (Room_group (One_now v)) (upd (Group_vs (Room_group (One_now v))) p (nI u))) (fun u hu s hs => ag_ofv hg.1 hn p1 (nI u) hs) (fun u => ⟨hg.2.1.1, hg.2.1.2.1, hg.2.1.2.2⟩) (fun u => hw)
    have hB := fit_M (m := m) (lo := 0) (wh := 33 + p) (by omega) (by omega) (F := F) (fun s u hu hlo he hc => F2 s u hu he)
    rw [p3, p4, m_bind_some, m_bind_some, if_neg n10, if_neg n10, show 33 + nI p = nI (33 + p) from nI_add 33 p]
    refine fit_end (lo := 0) (by omega) h0 (F := F) (fun J => lp_X7_firm_24 le ea (nI p) J m_N 0 0 v) (33 + p) (fun J => ?_) hB
    refine fit_C (v := v) (lo := 0) (by omega) (F := F) (fun f a y w => lp_X7_firm_24 le ea (nI p) J f a y w) J (fun f a w => ?_) (fun f a u w' hu1 hu2 hv => ?_)
    · show st_X7_firm_24 le ea (nI p) J _ _ _ _ = _
      unfold st_X7_firm_24
      rw [if_pos (show (9 : Int32) < nI 10 by decide)]
    · obtain ⟨f1, a1, a2⟩ := fc_begin (r := One_now v) (One_forecast w') h1 hg.2.1
      obtain ⟨f2, b1⟩ := F1 u hu2 (Forecast_trial_s f1 (Group_vs_s (Forecast_trial f1) (upd (Group_vs (Forecast_trial f1)) p (nI u)))) ⟨ag_uv a2.1 p (nI u), a2.2.1, a2.2.2⟩
      refine ⟨One_forecast_s w' f2, vk_f hv f2, ?_⟩
      show st_X7_firm_24 le ea (nI p) J _ _ _ _ = _
      unfold st_X7_firm_24
      rw [if_neg (show ¬ (9 : Int32) < nI u from nI_nlt (a := 9) hu2 (by omega)), hv.1, a1, m_bind_some, if_pos (q_6 (by omega)), q_n (by omega), b1, m_bind_some, m_jp_eq, ← nI_succ, b01_0]
      cases F u <;> rfl
  · rw [p3, p4, m_bind_some, m_bind_some, if_pos n0, if_pos n0]
    exact ⟨_, v, m, rfl, rfl, h0⟩
end SF
