/-! What is said of the addresses in the rooms' rows of lessons stays, call by call. -/
def LR (P : Nat → Prop) (r : RoomV) : Prop := ∀ i q, Room_lessons r i = some q → P q
def LV (P : Nat → Prop) (v : OneV) : Prop := LR P (One_now v) ∧ LR P (One_image v)
def OI {α : Type} (P : Nat → Prop) (x : Option (α × OneV)) : Prop := ∀ z, x = some z → LV P z.2
def OP (P : Nat → Prop) (x : Option RoomV) : Prop := ∀ z, x = some z → LR P z
theorem oi_n {α : Type} {P : Nat → Prop} : OI P (none : Option (α × OneV)) := fun z h => by cases h
theorem oi_s {α : Type} {P : Nat → Prop} {z : α × OneV} (h : LV P z.2) : OI P (some z) := fun w hw => by cases hw; exact h
theorem oi_i {α : Type} {P : Nat → Prop} {c : Prop} [Decidable c] {x y : Option (α × OneV)} (hx : OI P x) (hy : OI P y) : OI P (if c then x else y) := by
  by_cases h : c
  · rw [if_pos h]; exact hx
  · rw [if_neg h]; exact hy
theorem oi_b {α β : Type} {P : Nat → Prop} {x : Option β} {f : β → Option (α × OneV)} (h : ∀ t, OI P (f t)) : OI P (Option.bind x f) := by
  cases x with
  | none => exact oi_n
  | some t => exact h t
theorem oi_j {α K : Type} {P : Nat → Prop} {k : K} {f : K → Option (α × OneV)} (h : OI P (f k)) : OI P (jp k f) := h
theorem oq_n {P : Nat → Prop} : OP P (none : Option RoomV) := fun z h => by cases h
theorem oq_s {P : Nat → Prop} {z : RoomV} (h : LR P z) : OP P (some z) := fun w hw => by cases hw; exact h
theorem oq_i {P : Nat → Prop} {c : Prop} [Decidable c] {x y : Option RoomV} (hx : OP P x) (hy : OP P y) : OP P (if c then x else y) := by
  by_cases h : c
  · rw [if_pos h]; exact hx
  · rw [if_neg h]; exact hy
theorem oq_b {β : Type} {P : Nat → Prop} {x : Option β} {f : β → Option RoomV} (h : ∀ t, OP P (f t)) : OP P (Option.bind x f) := by
  cases x with
  | none => exact oq_n
  | some t => exact h t
theorem lr_up {P : Nat → Prop} {r : RoomV} (h : LR P r) (i : Nat) (o : Option Nat) (ho : ∀ q, o = some q → P q) : LR P (Room_lessons_s r (va_up (Room_lessons r) i o)) := by
  intro j q hq
  have hq : va_up (Room_lessons r) i o j = some q := hq
  unfold va_up at hq
  by_cases e : j = i
  · rw [if_pos e] at hq; exact ho q hq
  · rw [if_neg e] at hq; exact h j q hq
theorem lo_copy {P : Nat → Prop} {v0 : RoomV} (h0 : LR P v0) {j : RoomV → Option RoomV} (hj : ∀ w, LR P w → OP P (j w)) : ∀ (n : Nat) (y : Int32) (w : RoomV), LR P w → OP P (lp_X5_copyFrom_36 v0 j n y w) := by
  intro n
  induction n with
  | zero => intro y w hw; exact oq_n
  | succ n ih =>
    intro y w hw
    show OP P (st_X5_copyFrom_36 v0 j (lp_X5_copyFrom_36 v0 j n) y w)
    unfold st_X5_copyFrom_36
    refine oq_i (hj _ hw) (oq_i ?_ oq_n)
    cases e : Room_lessons v0 y.toNatClampNeg with
    | none => exact oq_i (ih _ _ (lr_up hw _ none (fun q h => by cases h))) oq_n
    | some q => exact oq_i (ih _ _ (lr_up hw _ (some q) (fun q' h => by cases h; exact h0 _ _ e))) oq_n
theorem lr_copy {P : Nat → Prop} {v v0 : RoomV} (h : LR P v) (h0 : LR P v0) : OP P (fn_X5_copyFrom v v0) := by
  unfold fn_X5_copyFrom
  refine oq_b (fun t1 => oq_i ?_ oq_n)
  show OP P (lp_X5_copyFrom_36 _ _ _ _ _)
  refine lo_copy h0 (fun w hw => ?_) _ _ _ ?_
  · exact oq_b (fun _ => oq_b (fun _ => oq_b (fun _ => oq_s (by exact hw))))
  · exact h
theorem li_image {P : Nat → Prop} {v v' : OneV} {a : Int32} (h : fn_X7_image v = some (a, v')) (hv : LV P v) : LV P v' := by
  unfold fn_X7_image at h
  cases e : fn_X5_copyFrom (One_image v) (One_now v) with
  | none => rw [e] at h; cases h
  | some t =>
    rw [e] at h
    cases h
    exact ⟨hv.1, lr_copy hv.2 hv.1 t e⟩
theorem li_undo {P : Nat → Prop} {v v' : OneV} {a : Int32} (h : fn_X7_undo v = some (a, v')) (hv : LV P v) : LV P v' := by
  unfold fn_X7_undo at h
  by_cases c : ¬ One_imageIsTaken v = 0
  · rw [if_pos c] at h
    cases e : fn_X5_copyFrom (One_now v) (One_image v) with
    | none => rw [e] at h; cases h
    | some t =>
      rw [e] at h
      cases h
      exact ⟨lr_copy hv.1 hv.2 t e, hv.2⟩
  · rw [if_neg c] at h
    cases h
    exact hv
theorem school_any {v : OneV} {q : Nat} {t : Int32 × OneV × LessonV} (h : fn_X7_school v q = some t) (q' : Nat) : ∃ t', fn_X7_school v q' = some t' := by
  unfold fn_X7_school at h ⊢
  cases e : fn_X4_readLesson ((Room_tape (One_now v), mMin (Room_signs (One_now v)) 100, 0, 0, Lesson_0) : ReaderV) with
  | none => rw [e] at h; cases h
  | some z =>
    rw [e, m_bind_some] at h
    rw [m_bind_some]
    by_cases c : ¬ z.1 = 0
    · rw [if_pos c] at h
      rw [if_pos c]
      by_cases d : mIn (Room_lessonCount (One_now v)) 5 = true
      · exact ⟨_, if_pos d⟩
      · rw [if_neg d] at h; cases h
    · rw [if_neg c]
      exact ⟨_, rfl⟩
theorem li_school {P : Nat → Prop} {v v' : OneV} {a : Int32} {q : Nat} {le : LessonV} (h : fn_X7_school v q = some (a, v', le)) (hv : LV P v) (hq : P q) : LV P v' := by
  unfold fn_X7_school at h
  cases e : fn_X4_readLesson ((Room_tape (One_now v), mMin (Room_signs (One_now v)) 100, 0, 0, Lesson_0) : ReaderV) with
  | none => rw [e] at h; cases h
  | some z =>
    rw [e, m_bind_some] at h
    by_cases c : ¬ z.1 = 0
    · rw [if_pos c] at h
      by_cases d : mIn (Room_lessonCount (One_now v)) 5 = true
      · rw [if_pos d] at h
        have e2 : _ = v' := congrArg (fun z : Int32 × OneV × LessonV => z.2.1) (Option.some.inj h)
        rw [← e2]
        exact ⟨lr_up (r := One_now v) hv.1 _ (some q) (fun q' h => by cases h; exact hq), hv.2⟩
      · rw [if_neg d] at h; cases h
    · rw [if_neg c] at h
      have e2 : _ = v' := congrArg (fun z : Int32 × OneV × LessonV => z.2.1) (Option.some.inj h)
      rw [← e2]
      exact hv

theorem lo_ready_24 {P : Nat → Prop} (le : LessonV) (ea : Nat) (t3 : Int32) : ∀ (n : Nat) (y2_24 : Int32) (wy_24 : OneV), LV P wy_24 → OI P (lp_X7_ready_24 le ea t3 n y2_24 wy_24) := by
  intro n
  induction n with
  | zero => intro y2_24 wy_24 hw; exact oi_n
  | succ n ih =>
    intro y2_24 wy_24 hw
    show OI P (st_X7_ready_24 le ea t3 (lp_X7_ready_24 le ea t3 n) y2_24 wy_24)
    unfold st_X7_ready_24
    repeat' (first | with_reducible exact oi_n | with_reducible refine oi_s ?_ | with_reducible refine oi_i ?_ ?_ | with_reducible refine oi_b (fun _ => ?_) | with_reducible refine ih _ _ ?_ | with_reducible refine oi_j ?_ | exact hw)
theorem lo_throwOut_33 {P : Nat → Prop} (le : LessonV) (ea : Nat) : ∀ (n : Nat) (y1_33 : Int32) (y2_33 : Int32) (y3_33 : Int32) (wy_33 : OneV), LV P wy_33 → OI P (lp_X7_throwOut_33 le ea n y1_33 y2_33 y3_33 wy_33) := by
  intro n
  induction n with
  | zero => intro y1_33 y2_33 y3_33 wy_33 hw; exact oi_n
  | succ n ih =>
    intro y1_33 y2_33 y3_33 wy_33 hw
    show OI P (st_X7_throwOut_33 le ea (lp_X7_throwOut_33 le ea n) y1_33 y2_33 y3_33 wy_33)
    unfold st_X7_throwOut_33
    repeat' (first | with_reducible exact oi_n | with_reducible refine oi_s ?_ | with_reducible refine oi_i ?_ ?_ | with_reducible refine oi_b (fun _ => ?_) | with_reducible refine ih _ _ _ _ ?_ | with_reducible refine oi_j ?_ | exact hw)
theorem lo_team_50 {P : Nat → Prop} (le : LessonV) (ea : Nat) (x0 : Int32) (j115 : Int32 → Int32 → OneV → Option (Int32 × OneV)) (hj115 : ∀ (z0 : Int32) (z1 : Int32) (z2 : OneV), LV P z2 → OI P (j115 z0 z1 z2)) : ∀ (n : Nat) (y3_50 : Int32) (y4_50 : Int32) (y5_50 : Int32) (wy_50 : OneV), LV P wy_50 → OI P (lp_X7_team_50 le ea x0 j115 n y3_50 y4_50 y5_50 wy_50) := by
  intro n
  induction n with
  | zero => intro y3_50 y4_50 y5_50 wy_50 hw; exact oi_n
  | succ n ih =>
    intro y3_50 y4_50 y5_50 wy_50 hw
    show OI P (st_X7_team_50 le ea x0 j115 (lp_X7_team_50 le ea x0 j115 n) y3_50 y4_50 y5_50 wy_50)
    unfold st_X7_team_50
    repeat' (first | with_reducible exact oi_n | with_reducible refine oi_s ?_ | with_reducible refine oi_i ?_ ?_ | with_reducible refine oi_b (fun _ => ?_) | with_reducible refine ih _ _ _ _ ?_ | with_reducible refine hj115 _ _ _ ?_ | with_reducible refine oi_j ?_ | exact hw)
theorem lo_split_51 {P : Nat → Prop} (v : OneV) (le : LessonV) (ea : Nat) (j119 : Int32 → Int32 → OneV → Option (Int32 × OneV)) (hj119 : ∀ (z0 : Int32) (z1 : Int32) (z2 : OneV), LV P z2 → OI P (j119 z0 z1 z2)) : ∀ (n : Nat) (y3_51 : Int32) (y4_51 : Int32) (y5_51 : Int32) (wy_51 : OneV), LV P wy_51 → OI P (lp_X7_split_51 v le ea j119 n y3_51 y4_51 y5_51 wy_51) := by
  intro n
  induction n with
  | zero => intro y3_51 y4_51 y5_51 wy_51 hw; exact oi_n
  | succ n ih =>
    intro y3_51 y4_51 y5_51 wy_51 hw
    show OI P (st_X7_split_51 v le ea j119 (lp_X7_split_51 v le ea j119 n) y3_51 y4_51 y5_51 wy_51)
    unfold st_X7_split_51
    repeat' (first | with_reducible exact oi_n | with_reducible refine oi_s ?_ | with_reducible refine oi_i ?_ ?_ | with_reducible refine oi_b (fun _ => ?_) | with_reducible refine ih _ _ _ _ ?_ | with_reducible refine hj119 _ _ _ ?_ | with_reducible refine oi_j ?_ | exact hw)
theorem lo_part_48 {P : Nat → Prop} (v : OneV) (le : LessonV) (ea : Nat) (x0 : Int32) (j152 : Int64 → OneV → Option (Int64 × OneV)) (hj152 : ∀ (z0 : Int64) (z1 : OneV), LV P z1 → OI P (j152 z0 z1)) : ∀ (n : Nat) (y4_48 : Int64) (y6_48 : Int32) (wy_48 : OneV), LV P wy_48 → OI P (lp_X7_part_48 v le ea x0 j152 n y4_48 y6_48 wy_48) := by
  intro n
  induction n with
  | zero => intro y4_48 y6_48 wy_48 hw; exact oi_n
  | succ n ih =>
    intro y4_48 y6_48 wy_48 hw
    show OI P (st_X7_part_48 v le ea x0 j152 (lp_X7_part_48 v le ea x0 j152 n) y4_48 y6_48 wy_48)
    unfold st_X7_part_48
    repeat' (first | with_reducible exact oi_n | with_reducible refine oi_s ?_ | with_reducible refine oi_i ?_ ?_ | with_reducible refine oi_b (fun _ => ?_) | with_reducible refine ih _ _ _ ?_ | with_reducible refine hj152 _ _ ?_ | with_reducible refine oi_j ?_ | exact hw)
theorem lo_skilled_24 {P : Nat → Prop} (le : LessonV) (ea : Nat) (x0 : Int32) (j86 : Int32 → OneV → Option (Int32 × OneV)) (hj86 : ∀ (z0 : Int32) (z1 : OneV), LV P z1 → OI P (j86 z0 z1)) : ∀ (n : Nat) (y3_24 : Int32) (y4_24 : Int32) (wy_24 : OneV), LV P wy_24 → OI P (lp_X7_skilled_24 le ea x0 j86 n y3_24 y4_24 wy_24) := by
  intro n
  induction n with
  | zero => intro y3_24 y4_24 wy_24 hw; exact oi_n
  | succ n ih =>
    intro y3_24 y4_24 wy_24 hw
    show OI P (st_X7_skilled_24 le ea x0 j86 (lp_X7_skilled_24 le ea x0 j86 n) y3_24 y4_24 wy_24)
    unfold st_X7_skilled_24
    repeat' (first | with_reducible exact oi_n | with_reducible refine oi_s ?_ | with_reducible refine oi_i ?_ ?_ | with_reducible refine oi_b (fun _ => ?_) | with_reducible refine ih _ _ _ ?_ | with_reducible refine hj86 _ _ ?_ | with_reducible refine oi_j ?_ | exact hw)
theorem lo_firm_24 {P : Nat → Prop} (le : LessonV) (ea : Nat) (x0 : Int32) (j86 : Int32 → OneV → Option (Int32 × OneV)) (hj86 : ∀ (z0 : Int32) (z1 : OneV), LV P z1 → OI P (j86 z0 z1)) : ∀ (n : Nat) (y3_24 : Int32) (y4_24 : Int32) (wy_24 : OneV), LV P wy_24 → OI P (lp_X7_firm_24 le ea x0 j86 n y3_24 y4_24 wy_24) := by
  intro n
  induction n with
  | zero => intro y3_24 y4_24 wy_24 hw; exact oi_n
  | succ n ih =>
    intro y3_24 y4_24 wy_24 hw
    show OI P (st_X7_firm_24 le ea x0 j86 (lp_X7_firm_24 le ea x0 j86 n) y3_24 y4_24 wy_24)
    unfold st_X7_firm_24
    repeat' (first | with_reducible exact oi_n | with_reducible refine oi_s ?_ | with_reducible refine oi_i ?_ ?_ | with_reducible refine oi_b (fun _ => ?_) | with_reducible refine ih _ _ _ ?_ | with_reducible refine hj86 _ _ ?_ | with_reducible refine oi_j ?_ | exact hw)
theorem lo_odds_54 {P : Nat → Prop} (le : LessonV) (ea : Nat) (x0 : Int32) (x1 : Int32) (j110 : Int32 → OneV → Option (Int64 × OneV)) (hj110 : ∀ (z0 : Int32) (z1 : OneV), LV P z1 → OI P (j110 z0 z1)) : ∀ (n : Nat) (y4_54 : Int32) (y5_54 : Int32) (wy_54 : OneV), LV P wy_54 → OI P (lp_X7_odds_54 le ea x0 x1 j110 n y4_54 y5_54 wy_54) := by
  intro n
  induction n with
  | zero => intro y4_54 y5_54 wy_54 hw; exact oi_n
  | succ n ih =>
    intro y4_54 y5_54 wy_54 hw
    show OI P (st_X7_odds_54 le ea x0 x1 j110 (lp_X7_odds_54 le ea x0 x1 j110 n) y4_54 y5_54 wy_54)
    unfold st_X7_odds_54
    repeat' (first | with_reducible exact oi_n | with_reducible refine oi_s ?_ | with_reducible refine oi_i ?_ ?_ | with_reducible refine oi_b (fun _ => ?_) | with_reducible refine ih _ _ _ ?_ | with_reducible refine hj110 _ _ ?_ | with_reducible refine oi_j ?_ | exact hw)
theorem li_feed {P : Nat → Prop} {v v' : OneV} {a : Int32} {x0 : Int32} (h : fn_X7_feed v x0 = some (a, v')) (hv : LV P v) : LV P v' := by
  suffices hh : OI P (fn_X7_feed v x0) from hh _ h
  unfold fn_X7_feed
  repeat' (first | with_reducible exact oi_n | with_reducible refine oi_s ?_ | with_reducible refine oi_i ?_ ?_ | with_reducible refine oi_b (fun _ => ?_) | with_reducible refine oi_j ?_ | exact hv | assumption)
theorem li_see {P : Nat → Prop} {v v' : OneV} {a : Int32} {x0 : Int32} {x1 : Int32} (h : fn_X7_see v x0 x1 = some (a, v')) (hv : LV P v) : LV P v' := by
  suffices hh : OI P (fn_X7_see v x0 x1) from hh _ h
  unfold fn_X7_see
  repeat' (first | with_reducible exact oi_n | with_reducible refine oi_s ?_ | with_reducible refine oi_i ?_ ?_ | with_reducible refine oi_b (fun _ => ?_) | with_reducible refine oi_j ?_ | exact hv | assumption)
theorem li_pupil {P : Nat → Prop} {v v' : OneV} {a : Int32} {x0 : Int32} {x1 : Int32} {x2 : Int32} {x3 : Int32} (h : fn_X7_pupil v x0 x1 x2 x3 = some (a, v')) (hv : LV P v) : LV P v' := by
  suffices hh : OI P (fn_X7_pupil v x0 x1 x2 x3) from hh _ h
  unfold fn_X7_pupil
  repeat' (first | with_reducible exact oi_n | with_reducible refine oi_s ?_ | with_reducible refine oi_i ?_ ?_ | with_reducible refine oi_b (fun _ => ?_) | with_reducible refine oi_j ?_ | exact hv | assumption)
theorem li_row {P : Nat → Prop} {v v' : OneV} {a : Int32} {x0 : Int32} {x1 : Int32} {x2 : Int32} (h : fn_X7_row v x0 x1 x2 = some (a, v')) (hv : LV P v) : LV P v' := by
  suffices hh : OI P (fn_X7_row v x0 x1 x2) from hh _ h
  unfold fn_X7_row
  repeat' (first | with_reducible exact oi_n | with_reducible refine oi_s ?_ | with_reducible refine oi_i ?_ ?_ | with_reducible refine oi_b (fun _ => ?_) | with_reducible refine oi_j ?_ | exact hv | assumption)
theorem li_will {P : Nat → Prop} {v v' : OneV} {a : Int32} {x0 : Int32} {x1 : Int32} (h : fn_X7_will v x0 x1 = some (a, v')) (hv : LV P v) : LV P v' := by
  suffices hh : OI P (fn_X7_will v x0 x1) from hh _ h
  unfold fn_X7_will
  repeat' (first | with_reducible exact oi_n | with_reducible refine oi_s ?_ | with_reducible refine oi_i ?_ ?_ | with_reducible refine oi_b (fun _ => ?_) | with_reducible refine oi_j ?_ | exact hv | assumption)
theorem li_out {P : Nat → Prop} {v v' : OneV} {a : Int32} {x0 : Int32} {x1 : Int32} (h : fn_X7_out v x0 x1 = some (a, v')) (hv : LV P v) : LV P v' := by
  suffices hh : OI P (fn_X7_out v x0 x1) from hh _ h
  unfold fn_X7_out
  repeat' (first | with_reducible exact oi_n | with_reducible refine oi_s ?_ | with_reducible refine oi_i ?_ ?_ | with_reducible refine oi_b (fun _ => ?_) | with_reducible refine oi_j ?_ | exact hv | assumption)
theorem li_plan {P : Nat → Prop} {v v' : OneV} {a : Int32} {x0 : Int32} {x1 : Int32} (h : fn_X7_plan v x0 x1 = some (a, v')) (hv : LV P v) : LV P v' := by
  suffices hh : OI P (fn_X7_plan v x0 x1) from hh _ h
  unfold fn_X7_plan
  repeat' (first | with_reducible exact oi_n | with_reducible refine oi_s ?_ | with_reducible refine oi_i ?_ ?_ | with_reducible refine oi_b (fun _ => ?_) | with_reducible refine oi_j ?_ | exact hv | assumption)
theorem li_book {P : Nat → Prop} {v v' : OneV} {a : Int32} {x0 : Int32} {x1 : Int32} (h : fn_X7_book v x0 x1 = some (a, v')) (hv : LV P v) : LV P v' := by
  suffices hh : OI P (fn_X7_book v x0 x1) from hh _ h
  unfold fn_X7_book
  repeat' (first | with_reducible exact oi_n | with_reducible refine oi_s ?_ | with_reducible refine oi_i ?_ ?_ | with_reducible refine oi_b (fun _ => ?_) | with_reducible refine oi_j ?_ | exact hv | assumption)
theorem li_act {P : Nat → Prop} {v v' : OneV} {a : Int32} {x0 : Int32} {x1 : Int32} {x2 : Int32} (h : fn_X7_act v x0 x1 x2 = some (a, v')) (hv : LV P v) : LV P v' := by
  suffices hh : OI P (fn_X7_act v x0 x1 x2) from hh _ h
  unfold fn_X7_act
  repeat' (first | with_reducible exact oi_n | with_reducible refine oi_s ?_ | with_reducible refine oi_i ?_ ?_ | with_reducible refine oi_b (fun _ => ?_) | with_reducible refine oi_j ?_ | exact hv | assumption)
theorem li_pass {P : Nat → Prop} {v v' : OneV} {a : Int32} {le : LessonV} {ea : Nat} {x0 : Int32} (h : fn_X7_pass v le ea x0 = some (a, v')) (hv : LV P v) : LV P v' := by
  suffices hh : OI P (fn_X7_pass v le ea x0) from hh _ h
  unfold fn_X7_pass
  repeat' (first | with_reducible exact oi_n | with_reducible refine oi_s ?_ | with_reducible refine oi_i ?_ ?_ | with_reducible refine oi_b (fun _ => ?_) | with_reducible refine oi_j ?_ | exact hv | assumption)
theorem li_on {P : Nat → Prop} {v v' : OneV} {a : Int32} {le : LessonV} {ea : Nat} {x0 : Int32} {x1 : Int32} (h : fn_X7_on v le ea x0 x1 = some (a, v')) (hv : LV P v) : LV P v' := by
  suffices hh : OI P (fn_X7_on v le ea x0 x1) from hh _ h
  unfold fn_X7_on
  repeat' (first | with_reducible exact oi_n | with_reducible refine oi_s ?_ | with_reducible refine oi_i ?_ ?_ | with_reducible refine oi_b (fun _ => ?_) | with_reducible refine oi_j ?_ | exact hv | assumption)
theorem li_ready {P : Nat → Prop} {v v' : OneV} {a : Int32} {le : LessonV} {ea : Nat} (h : fn_X7_ready v le ea = some (a, v')) (hv : LV P v) : LV P v' := by
  suffices hh : OI P (fn_X7_ready v le ea) from hh _ h
  unfold fn_X7_ready
  repeat' (first | with_reducible exact oi_n | with_reducible refine oi_s ?_ | with_reducible refine oi_i ?_ ?_ | with_reducible refine oi_b (fun _ => ?_) | with_reducible refine lo_ready_24 _ _ _ _ _ _ ?_ | with_reducible refine oi_j ?_ | exact hv | assumption)
theorem li_throwOut {P : Nat → Prop} {v v' : OneV} {a : Int32} {le : LessonV} {ea : Nat} (h : fn_X7_throwOut v le ea = some (a, v')) (hv : LV P v) : LV P v' := by
  suffices hh : OI P (fn_X7_throwOut v le ea) from hh _ h
  unfold fn_X7_throwOut
  repeat' (first | with_reducible exact oi_n | with_reducible refine oi_s ?_ | with_reducible refine oi_i ?_ ?_ | with_reducible refine oi_b (fun _ => ?_) | with_reducible refine lo_throwOut_33 _ _ _ _ _ _ _ ?_ | with_reducible refine oi_j ?_ | exact hv | assumption)
theorem li_alone {P : Nat → Prop} {v v' : OneV} {a : Int32} {le : LessonV} {ea : Nat} {x0 : Int32} (h : fn_X7_alone v le ea x0 = some (a, v')) (hv : LV P v) : LV P v' := by
  suffices hh : OI P (fn_X7_alone v le ea x0) from hh _ h
  unfold fn_X7_alone
  repeat' (first | with_reducible exact oi_n | with_reducible refine oi_s ?_ | with_reducible refine oi_i ?_ ?_ | with_reducible refine oi_b (fun _ => ?_) | with_reducible refine oi_j ?_ | exact hv | assumption)
theorem li_team {P : Nat → Prop} {v v' : OneV} {a : Int32} {le : LessonV} {ea : Nat} {x0 : Int32} {x1 : Int32} (h : fn_X7_team v le ea x0 x1 = some (a, v')) (hv : LV P v) : LV P v' := by
  suffices hh : OI P (fn_X7_team v le ea x0 x1) from hh _ h
  unfold fn_X7_team
  repeat' (first | with_reducible exact oi_n | with_reducible refine oi_s ?_ | with_reducible refine oi_i ?_ ?_ | with_reducible refine oi_b (fun _ => ?_) | with_reducible refine lo_team_50 _ _ _ _ (fun _ _ _ hw => ?_) _ _ _ _ _ ?_ | with_reducible refine oi_j ?_ | exact hv | assumption)
theorem li_split {P : Nat → Prop} {v v' : OneV} {a : Int32} {le : LessonV} {ea : Nat} {x0 : Int32} (h : fn_X7_split v le ea x0 = some (a, v')) (hv : LV P v) : LV P v' := by
  suffices hh : OI P (fn_X7_split v le ea x0) from hh _ h
  unfold fn_X7_split
  repeat' (first | with_reducible exact oi_n | with_reducible refine oi_s ?_ | with_reducible refine oi_i ?_ ?_ | with_reducible refine oi_b (fun _ => ?_) | with_reducible refine lo_split_51 _ _ _ _ (fun _ _ _ hw => ?_) _ _ _ _ _ ?_ | with_reducible refine oi_j ?_ | exact hv | assumption)
theorem li_part {P : Nat → Prop} {v v' : OneV} {a : Int64} {le : LessonV} {ea : Nat} {x0 : Int32} {x1 : Int32} (h : fn_X7_part v le ea x0 x1 = some (a, v')) (hv : LV P v) : LV P v' := by
  suffices hh : OI P (fn_X7_part v le ea x0 x1) from hh _ h
  unfold fn_X7_part
  repeat' (first | with_reducible exact oi_n | with_reducible refine oi_s ?_ | with_reducible refine oi_i ?_ ?_ | with_reducible refine oi_b (fun _ => ?_) | with_reducible refine lo_part_48 _ _ _ _ _ (fun _ _ hw => ?_) _ _ _ _ ?_ | with_reducible refine oi_j ?_ | exact hv | assumption)
theorem li_skilled {P : Nat → Prop} {v v' : OneV} {a : Int32} {le : LessonV} {ea : Nat} {x0 : Int32} {x1 : Int32} (h : fn_X7_skilled v le ea x0 x1 = some (a, v')) (hv : LV P v) : LV P v' := by
  suffices hh : OI P (fn_X7_skilled v le ea x0 x1) from hh _ h
  unfold fn_X7_skilled
  repeat' (first | with_reducible exact oi_n | with_reducible refine oi_s ?_ | with_reducible refine oi_i ?_ ?_ | with_reducible refine oi_b (fun _ => ?_) | with_reducible refine lo_skilled_24 _ _ _ _ (fun _ _ hw => ?_) _ _ _ _ ?_ | with_reducible refine oi_j ?_ | exact hv | assumption)
theorem li_firm {P : Nat → Prop} {v v' : OneV} {a : Int32} {le : LessonV} {ea : Nat} {x0 : Int32} {x1 : Int32} (h : fn_X7_firm v le ea x0 x1 = some (a, v')) (hv : LV P v) : LV P v' := by
  suffices hh : OI P (fn_X7_firm v le ea x0 x1) from hh _ h
  unfold fn_X7_firm
  repeat' (first | with_reducible exact oi_n | with_reducible refine oi_s ?_ | with_reducible refine oi_i ?_ ?_ | with_reducible refine oi_b (fun _ => ?_) | with_reducible refine lo_firm_24 _ _ _ _ (fun _ _ hw => ?_) _ _ _ _ ?_ | with_reducible refine oi_j ?_ | exact hv | assumption)
theorem li_odds {P : Nat → Prop} {v v' : OneV} {a : Int64} {le : LessonV} {ea : Nat} {x0 : Int32} {x1 : Int32} {x2 : Int32} (h : fn_X7_odds v le ea x0 x1 x2 = some (a, v')) (hv : LV P v) : LV P v' := by
  suffices hh : OI P (fn_X7_odds v le ea x0 x1 x2) from hh _ h
  unfold fn_X7_odds
  repeat' (first | with_reducible exact oi_n | with_reducible refine oi_s ?_ | with_reducible refine oi_i ?_ ?_ | with_reducible refine oi_b (fun _ => ?_) | with_reducible refine lo_odds_54 _ _ _ _ _ (fun _ _ hw => ?_) _ _ _ _ ?_ | with_reducible refine oi_j ?_ | exact hv | assumption)
theorem li_mean {P : Nat → Prop} {v v' : OneV} {a : Int64} {le : LessonV} {ea : Nat} {x0 : Int32} {x1 : Int32} (h : fn_X7_mean v le ea x0 x1 = some (a, v')) (hv : LV P v) : LV P v' := by
  suffices hh : OI P (fn_X7_mean v le ea x0 x1) from hh _ h
  unfold fn_X7_mean
  repeat' (first | with_reducible exact oi_n | with_reducible refine oi_s ?_ | with_reducible refine oi_i ?_ ?_ | with_reducible refine oi_b (fun _ => ?_) | with_reducible refine oi_j ?_ | exact hv | assumption)
theorem li_done {P : Nat → Prop} {v v' : OneV} {a : Int32} {le : LessonV} {ea : Nat} {x0 : Int32} (h : fn_X7_done v le ea x0 = some (a, v')) (hv : LV P v) : LV P v' := by
  suffices hh : OI P (fn_X7_done v le ea x0) from hh _ h
  unfold fn_X7_done
  repeat' (first | with_reducible exact oi_n | with_reducible refine oi_s ?_ | with_reducible refine oi_i ?_ ?_ | with_reducible refine oi_b (fun _ => ?_) | with_reducible refine oi_j ?_ | exact hv | assumption)
