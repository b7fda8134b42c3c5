/-- a lesson's cell may be stored in a row of lessons -/
theorem m_any {E : mE} {s : State} {H : Heap} {RP : va_W} {r k : Nat} {fs : List Value} (hK : va_K E.1 vwCl (mT E) s) (hR : va_P E.1 vwCl RP H) (hk : RP[k]? = some (r, .inr (3, fs))) : va_Any "OneDidAll$Lesson" s H r := by
  refine va_rAny (r := (RX3, TX3, 7)) hK hR hk rfl (fun comp c0 h1 h2 => ?_)
  have hcls := (hK.1 3 _ (rfl : vwCl[3]? = some (RX3, TX3, 7))).2
  have e1 := Option.some.inj (h1.symm.trans hcls.1)
  have e2 := Option.some.inj (h2.symm.trans hcls.1)
  subst e1
  subst e2
  exact va_assign hcls
