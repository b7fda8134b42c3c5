/-! The mirrors of the methods; gen.py wrote this. -/
abbrev Acts_0 : ActsV := ((fun _ => 0), 0, 0, 0, 0)
abbrev Rows_0 (n : Nat) : RowsV := ((fun _ => 0), (fun _ => 0), 0, n)
abbrev Lesson_0 : LessonV := ((fun _ => 0), 0, (fun _ => 0), (fun _ => 0), 0, 60, 2)
abbrev Group_0 : GroupV := (0, 0, 0, (fun _ => 0), (fun _ => 0), (fun _ => 0), (fun _ => 0), (fun _ => 0), (fun _ => 0), (fun _ => 0), (fun _ => 0))
abbrev Room_0 (n : Nat) : RoomV := (Group_0, (fun _ => 0), 0, (fun _ => none), 0, n, (Rows_0 5), (Rows_0 8), (Rows_0 8))
abbrev Forecast_0 (n : Nat) : ForecastV := (Group_0, Group_0, n)
abbrev One_0 (n1 n2 n3 : Nat) : OneV := ((Room_0 n1), (Room_0 n2), 0, (Forecast_0 n3), Acts_0)
abbrev Model_0 : ModelV := (0, (upd (fun _ => 0) (26 : Int32).toNatClampNeg (-1)), (fun _ => 0), (fun _ => 0), 0, 0, 0, 0, 0, 0, (fun _ => 0), (fun _ => 0), (fun _ => 0), 0, 0, (fun _ => 0), 0, 0, 0, 0)
def fn_J6_bitCount_0f7a4 (x0 : Int32) : Option Int32 :=
  some ((((((((x0 - ((((x0).toUInt32 >>> ((1 : Int32).toUInt32 &&& Int32.toUInt32 31)).toInt32) &&& 1431655765)) &&& 858993459) + (((((x0 - ((((x0).toUInt32 >>> ((1 : Int32).toUInt32 &&& Int32.toUInt32 31)).toInt32) &&& 1431655765))).toUInt32 >>> ((2 : Int32).toUInt32 &&& Int32.toUInt32 31)).toInt32) &&& 858993459)) + ((((((x0 - ((((x0).toUInt32 >>> ((1 : Int32).toUInt32 &&& Int32.toUInt32 31)).toInt32) &&& 1431655765)) &&& 858993459) + (((((x0 - ((((x0).toUInt32 >>> ((1 : Int32).toUInt32 &&& Int32.toUInt32 31)).toInt32) &&& 1431655765))).toUInt32 >>> ((2 : Int32).toUInt32 &&& Int32.toUInt32 31)).toInt32) &&& 858993459))).toUInt32 >>> ((4 : Int32).toUInt32 &&& Int32.toUInt32 31)).toInt32)) &&& 252645135) + ((((((((x0 - ((((x0).toUInt32 >>> ((1 : Int32).toUInt32 &&& Int32.toUInt32 31)).toInt32) &&& 1431655765)) &&& 858993459) + (((((x0 - ((((x0).toUInt32 >>> ((1 : Int32).toUInt32 &&& Int32.toUInt32 31)).toInt32) &&& 1431655765))).toUInt32 >>> ((2 : Int32).toUInt32 &&& Int32.toUInt32 31)).toInt32) &&& 858993459)) + ((((((x0 - ((((x0).toUInt32 >>> ((1 : Int32).toUInt32 &&& Int32.toUInt32 31)).toInt32) &&& 1431655765)) &&& 858993459) + (((((x0 - ((((x0).toUInt32 >>> ((1 : Int32).toUInt32 &&& Int32.toUInt32 31)).toInt32) &&& 1431655765))).toUInt32 >>> ((2 : Int32).toUInt32 &&& Int32.toUInt32 31)).toInt32) &&& 858993459))).toUInt32 >>> ((4 : Int32).toUInt32 &&& Int32.toUInt32 31)).toInt32)) &&& 252645135)).toUInt32 >>> ((8 : Int32).toUInt32 &&& Int32.toUInt32 31)).toInt32)) + (((((((((x0 - ((((x0).toUInt32 >>> ((1 : Int32).toUInt32 &&& Int32.toUInt32 31)).toInt32) &&& 1431655765)) &&& 858993459) + (((((x0 - ((((x0).toUInt32 >>> ((1 : Int32).toUInt32 &&& Int32.toUInt32 31)).toInt32) &&& 1431655765))).toUInt32 >>> ((2 : Int32).toUInt32 &&& Int32.toUInt32 31)).toInt32) &&& 858993459)) + ((((((x0 - ((((x0).toUInt32 >>> ((1 : Int32).toUInt32 &&& Int32.toUInt32 31)).toInt32) &&& 1431655765)) &&& 858993459) + (((((x0 - ((((x0).toUInt32 >>> ((1 : Int32).toUInt32 &&& Int32.toUInt32 31)).toInt32) &&& 1431655765))).toUInt32 >>> ((2 : Int32).toUInt32 &&& Int32.toUInt32 31)).toInt32) &&& 858993459))).toUInt32 >>> ((4 : Int32).toUInt32 &&& Int32.toUInt32 31)).toInt32)) &&& 252645135) + ((((((((x0 - ((((x0).toUInt32 >>> ((1 : Int32).toUInt32 &&& Int32.toUInt32 31)).toInt32) &&& 1431655765)) &&& 858993459) + (((((x0 - ((((x0).toUInt32 >>> ((1 : Int32).toUInt32 &&& Int32.toUInt32 31)).toInt32) &&& 1431655765))).toUInt32 >>> ((2 : Int32).toUInt32 &&& Int32.toUInt32 31)).toInt32) &&& 858993459)) + ((((((x0 - ((((x0).toUInt32 >>> ((1 : Int32).toUInt32 &&& Int32.toUInt32 31)).toInt32) &&& 1431655765)) &&& 858993459) + (((((x0 - ((((x0).toUInt32 >>> ((1 : Int32).toUInt32 &&& Int32.toUInt32 31)).toInt32) &&& 1431655765))).toUInt32 >>> ((2 : Int32).toUInt32 &&& Int32.toUInt32 31)).toInt32) &&& 858993459))).toUInt32 >>> ((4 : Int32).toUInt32 &&& Int32.toUInt32 31)).toInt32)) &&& 252645135)).toUInt32 >>> ((8 : Int32).toUInt32 &&& Int32.toUInt32 31)).toInt32))).toUInt32 >>> ((16 : Int32).toUInt32 &&& Int32.toUInt32 31)).toInt32)) &&& 63)

def fn_J0_coder_7d493 (x : Nat) : Option Int32 :=
  (if (1 : Int32) = 0 then some 1 else (if x < 10 then some 0 else none))

def fn_J0_isLatin1_aae02 (x : Nat) : Option Int32 :=
  (if (1 : Int32) = 0 then some 0 else (if x < 10 then (if ¬ (0 : Int32) = 0 then some 0 else some 1) else none))

def fn_J0_length_8abf5 (x : Nat) : Option Int32 :=
  (if x < 10 then (if x < 10 then (if x < 10 then (Option.bind (fn_J0_coder_7d493 x) (fun t3 => some ((Int32.ofNat (mSL.getD x 0)) >>> (t3 &&& 31)))) else none) else none) else none)

def fn_J3_checkIndex_8e157 (x0 : Int32) (x1 : Int32) : Option Int32 :=
  jp (fun (_ : Unit) => none) (fun j9 => (if x0 < 0 then j9 () else (if x0 < x1 then some x0 else j9 ())))

def fn_J0_checkIndex_df160 (x0 : Int32) (x1 : Int32) : Option Unit :=
  (Option.bind (fn_J3_checkIndex_8e157 x0 x1) (fun t1 => some ()))

def fn_J1_charAt_3b067 (x0 : Nat) (x1 : Int32) : Option Int32 :=
  (if x0 < 10 then (Option.bind (fn_J0_checkIndex_df160 x1 (Int32.ofNat (mSL.getD x0 0))) (fun t2 => (if x0 < 10 then (if mIn x1 (mSL.getD x0 0) = true then (if vp_nar .char (((((mSB.getD x0 []).getD (x1).toNatClampNeg 0) &&& 255)).toUInt32 % 65536).toInt32 = (((((mSB.getD x0 []).getD (x1).toNatClampNeg 0) &&& 255)).toUInt32 % 65536).toInt32 then some (((((mSB.getD x0 []).getD (x1).toNatClampNeg 0) &&& 255)).toUInt32 % 65536).toInt32 else none) else none) else none))) else none)

def fn_J0_charAt_5068e (x : Nat) (x0 : Int32) : Option Int32 :=
  (if x < 10 then (Option.bind (fn_J0_isLatin1_aae02 x) (fun t1 => (if t1 = 0 then (if x < 10 then none else none) else (if x < 10 then (Option.bind (fn_J1_charAt_3b067 x x0) (fun t6 => (if vp_nar .char t6 = t6 then some t6 else none))) else none)))) else none)

def fn_J1_canEncode_9a6ad (x0 : Int32) : Option Int32 :=
  (if x0 < 0 then some 0 else (if 255 < x0 then some 0 else some 1))

def st_J1_indexOfChar_4cfef_7 (x0 : Nat) (x1 : Int32) (x3 : Int32) (rec7 : Int32 → Option Int32) (y5_7 : Int32) : Option Int32 :=
  (if x3 ≤ y5_7 then some (-1) else (if x0 < 10 then (if mIn y5_7 (mSL.getD x0 0) = true then (if ¬ ((mSB.getD x0 []).getD (y5_7).toNatClampNeg 0) = (x1).toInt8.toInt32 then rec7 (y5_7 + 1) else some y5_7) else none) else none))
def lp_J1_indexOfChar_4cfef_7 (x0 : Nat) (x1 : Int32) (x3 : Int32) : Nat → Int32 → Option Int32
  | 0 => fun _ => none
  | n + 1 => st_J1_indexOfChar_4cfef_7 x0 x1 x3 (lp_J1_indexOfChar_4cfef_7 x0 x1 x3 n)
def fn_J1_indexOfChar_4cfef (x0 : Nat) (x1 : Int32) (x2 : Int32) (x3 : Int32) : Option Int32 :=
  lp_J1_indexOfChar_4cfef_7 x0 x1 x3 m_N x2

def fn_J1_indexOf_4cfef (x0 : Nat) (x1 : Int32) (x2 : Int32) (x3 : Int32) : Option Int32 :=
  (Option.bind (fn_J1_canEncode_9a6ad x1) (fun t1 => (if ¬ t1 = 0 then (if x0 < 10 then (if (mMax x2 0) < (mMin x3 (Int32.ofNat (mSL.getD x0 0))) then (Option.bind (fn_J1_indexOfChar_4cfef x0 x1 (mMax x2 0) (mMin x3 (Int32.ofNat (mSL.getD x0 0)))) (fun t5 => some t5)) else some (-1)) else none) else some (-1))))

def fn_J0_indexOf_7cf53 (x : Nat) (x0 : Int32) (x1 : Int32) : Option Int32 :=
  (if x < 10 then (Option.bind (fn_J0_isLatin1_aae02 x) (fun t1 => (if t1 = 0 then (if x < 10 then (if x < 10 then (Option.bind (fn_J0_length_8abf5 x) (fun t5 => none)) else none) else none) else (if x < 10 then (if x < 10 then (Option.bind (fn_J0_length_8abf5 x) (fun t8 => (Option.bind (fn_J1_indexOf_4cfef x x0 x1 t8) (fun t10 => some t10)))) else none) else none)))) else none)

def fn_J0_indexOf_0f7a4 (x : Nat) (x0 : Int32) : Option Int32 :=
  (if x < 10 then (Option.bind (fn_J0_indexOf_7cf53 x x0 0) (fun t1 => some t1)) else none)

def fn_X0_begins (v : ActsV) (x0 : Int32) : Option ActsV :=
  jp (fun (wx_29 : ActsV) => some (Acts_ran_s wx_29 ((Acts_ran wx_29) + 1))) (fun j29 => (if (Acts_ran v) < 0 then j29 v else (if (Int32.ofNat 20) ≤ (Acts_ran v) then j29 v else (if mIn (Acts_ran v) 20 = true then j29 (Acts_kept_s v (upd (Acts_kept v) ((Acts_ran v)).toNatClampNeg x0)) else none))))

def fn_X1_workMore (v : ForecastV) : Option Int32 :=
  some ((Group_work (Forecast_trial v)) - (Group_work (Forecast_start v)))

def fn_X1_hoursMoreOf (v : ForecastV) (x0 : Int32) : Option Int32 :=
  (if mIn x0 6 = true then (if mIn x0 6 = true then some (((Group_hours (Forecast_trial v)) (x0).toNatClampNeg) - ((Group_hours (Forecast_start v)) (x0).toNatClampNeg)) else none) else none)

def st_X2_add_76 (j103 : GroupV → Option (Int32 × GroupV)) (rec76 : Int32 → GroupV → Option (Int32 × GroupV)) (y5_76 : Int32) (wy_76 : GroupV) : Option (Int32 × GroupV) :=
  (if 4 ≤ y5_76 then j103 wy_76 else (if mIn (((Group_size wy_76) * 4) + y5_76) 24 = true then rec76 (y5_76 + 1) (Group_rows_s wy_76 (upd (Group_rows wy_76) ((((Group_size wy_76) * 4) + y5_76)).toNatClampNeg 0)) else none))
def lp_X2_add_76 (j103 : GroupV → Option (Int32 × GroupV)) : Nat → Int32 → GroupV → Option (Int32 × GroupV)
  | 0 => fun _ _ => none
  | n + 1 => st_X2_add_76 j103 (lp_X2_add_76 j103 n)
def fn_X2_add (v : GroupV) (x0 : Int32) (x1 : Int32) (x2 : Int32) (x3 : Int32) : Option (Int32 × GroupV) :=
  (if (Group_size v) < 6 then (if mIn (Group_size v) 6 = true then (if mIn (Group_size v) 6 = true then (if mIn (Group_size v) 6 = true then (if mIn (Group_size v) 6 = true then (if mIn (Group_size v) 6 = true then (if mIn (Group_size v) 6 = true then jp (fun (wx_103 : GroupV) => some ((((Group_size wx_103) + 1) - 1), (Group_size_s wx_103 ((Group_size wx_103) + 1)))) (fun j103 => lp_X2_add_76 j103 m_N 0 (Group_outs_s (Group_hours_s (Group_wills_s (Group_skills_s (Group_vs_s (Group_kinds_s v (upd (Group_kinds v) ((Group_size v)).toNatClampNeg x0)) (upd (Group_vs v) ((Group_size v)).toNatClampNeg x1)) (upd (Group_skills v) ((Group_size v)).toNatClampNeg x2)) (upd (Group_wills v) ((Group_size v)).toNatClampNeg x3)) (upd (Group_hours v) ((Group_size v)).toNatClampNeg 0)) (upd (Group_outs v) ((Group_size v)).toNatClampNeg (vp_nar .boolean 0)))) else none) else none) else none) else none) else none) else none) else some ((-4), v))

def st_X2_copyFrom_26 (v0 : GroupV) (j112 : GroupV → Option GroupV) (rec26 : Int32 → GroupV → Option GroupV) (y2_26 : Int32) (wy_26 : GroupV) : Option GroupV :=
  (if (Group_size wy_26) ≤ y2_26 then j112 wy_26 else (if mIn y2_26 6 = true then (if mIn y2_26 6 = true then (if mIn y2_26 6 = true then (if mIn y2_26 6 = true then (if mIn y2_26 6 = true then (if mIn y2_26 6 = true then (if mIn y2_26 6 = true then (if mIn y2_26 6 = true then (if mIn y2_26 6 = true then (if mIn y2_26 6 = true then (if mIn y2_26 6 = true then (if mIn y2_26 6 = true then rec26 (y2_26 + 1) (Group_outs_s (Group_hours_s (Group_wills_s (Group_skills_s (Group_vs_s (Group_kinds_s wy_26 (upd (Group_kinds wy_26) (y2_26).toNatClampNeg ((Group_kinds v0) (y2_26).toNatClampNeg))) (upd (Group_vs wy_26) (y2_26).toNatClampNeg ((Group_vs v0) (y2_26).toNatClampNeg))) (upd (Group_skills wy_26) (y2_26).toNatClampNeg ((Group_skills v0) (y2_26).toNatClampNeg))) (upd (Group_wills wy_26) (y2_26).toNatClampNeg ((Group_wills v0) (y2_26).toNatClampNeg))) (upd (Group_hours wy_26) (y2_26).toNatClampNeg ((Group_hours v0) (y2_26).toNatClampNeg))) (upd (Group_outs wy_26) (y2_26).toNatClampNeg (vp_nar .boolean ((Group_outs v0) (y2_26).toNatClampNeg)))) else none) else none) else none) else none) else none) else none) else none) else none) else none) else none) else none) else none))
def lp_X2_copyFrom_26 (v0 : GroupV) (j112 : GroupV → Option GroupV) : Nat → Int32 → GroupV → Option GroupV
  | 0 => fun _ _ => none
  | n + 1 => st_X2_copyFrom_26 v0 j112 (lp_X2_copyFrom_26 v0 j112 n)
def fn_X2_copyFrom (v : GroupV) (v0 : GroupV) : Option GroupV :=
  jp (fun (wx_112 : GroupV) => (if ¬ ((Group_size wx_112) * 4) < 0 then (if (0 : Int32).toNatClampNeg + (((Group_size wx_112) * 4)).toNatClampNeg ≤ 24 then some (Group_rows_s wx_112 (va_cpy (Group_rows v0) (Group_rows wx_112) (0 : Int32).toNatClampNeg (0 : Int32).toNatClampNeg (((Group_size wx_112) * 4)).toNatClampNeg)) else none) else none)) (fun j112 => lp_X2_copyFrom_26 v0 j112 m_N 0 (Group_work_s (Group_week_s (Group_size_s v (Group_size v0)) (Group_week v0)) (Group_work v0)))

def fn_X2_subjectOf (v : GroupV) (x0 : Int32) (x1 : Int32) : Option Int32 :=
  (if x1 = 0 then some x0 else (if x1 = 1 then (if mIn x0 6 = true then some ((Group_kinds v) (x0).toNatClampNeg) else none) else (if x1 = 2 then (if mIn x0 6 = true then some ((Group_vs v) (x0).toNatClampNeg) else none) else (if x1 = 3 then (if mIn x0 6 = true then some ((Group_skills v) (x0).toNatClampNeg) else none) else (if x1 = 4 then (if mIn x0 6 = true then some (((Group_hours v) (x0).toNatClampNeg) / 10) else none) else some (mRem (Group_week v) 10))))))

def fn_X2_rowNow (v : GroupV) (x0 : Int32) : Option Int32 :=
  (if mIn ((x0 * 4) + (mRem (Group_week v) 4)) 24 = true then some ((Group_rows v) (((x0 * 4) + (mRem (Group_week v) 4))).toNatClampNeg) else none)

def st_X2_countIn_4 (v : GroupV) (rec4 : Int32 → Int32 → Option Int32) (y1_4 : Int32) (y2_4 : Int32) : Option Int32 :=
  (if (Group_size v) ≤ y2_4 then some y1_4 else (if mIn y2_4 6 = true then jp (fun (x1_24 : Int32) => rec4 x1_24 (y2_4 + 1)) (fun j24 => (if ¬ ((Group_outs v) (y2_4).toNatClampNeg) = 0 then j24 y1_4 else j24 (y1_4 + 1))) else none))
def lp_X2_countIn_4 (v : GroupV) : Nat → Int32 → Int32 → Option Int32
  | 0 => fun _ _ => none
  | n + 1 => st_X2_countIn_4 v (lp_X2_countIn_4 v n)
def fn_X2_countIn (v : GroupV) : Option Int32 :=
  lp_X2_countIn_4 v m_N 0 0

def st_X2_countBetter_4 (v : GroupV) (x0 : Int32) (rec4 : Int32 → Int32 → Option Int32) (y2_4 : Int32) (y3_4 : Int32) : Option Int32 :=
  (if (Group_size v) ≤ y3_4 then some y2_4 else (if mIn y3_4 6 = true then jp (fun (x2_39 : Int32) => rec4 x2_39 (y3_4 + 1)) (fun j39 => (if ¬ ((Group_outs v) (y3_4).toNatClampNeg) = 0 then j39 y2_4 else (if mIn y3_4 6 = true then (if mIn x0 6 = true then (if ((Group_skills v) (y3_4).toNatClampNeg) ≤ ((Group_skills v) (x0).toNatClampNeg) then j39 y2_4 else j39 (y2_4 + 1)) else none) else none))) else none))
def lp_X2_countBetter_4 (v : GroupV) (x0 : Int32) : Nat → Int32 → Int32 → Option Int32
  | 0 => fun _ _ => none
  | n + 1 => st_X2_countBetter_4 v x0 (lp_X2_countBetter_4 v x0 n)
def fn_X2_countBetter (v : GroupV) (x0 : Int32) : Option Int32 :=
  lp_X2_countBetter_4 v x0 m_N 0 0

def st_X2_hoursOfAll_4 (v : GroupV) (rec4 : Int32 → Int32 → Option Int32) (y1_4 : Int32) (y2_4 : Int32) : Option Int32 :=
  (if (Group_size v) ≤ y2_4 then some y1_4 else (if mIn y2_4 6 = true then rec4 (y1_4 + ((Group_hours v) (y2_4).toNatClampNeg)) (y2_4 + 1) else none))
def lp_X2_hoursOfAll_4 (v : GroupV) : Nat → Int32 → Int32 → Option Int32
  | 0 => fun _ _ => none
  | n + 1 => st_X2_hoursOfAll_4 v (lp_X2_hoursOfAll_4 v n)
def fn_X2_hoursOfAll (v : GroupV) : Option Int32 :=
  lp_X2_hoursOfAll_4 v m_N 0 0

def fn_X2_shareOf (v : GroupV) (x0 : Int32) : Option Int32 :=
  (Option.bind (fn_X2_hoursOfAll v) (fun t1 => (if ¬ t1 = 0 then (if mIn x0 6 = true then (if ¬ t1 = 0 then some ((100 * ((Group_hours v) (x0).toNatClampNeg)) / t1) else none) else none) else some 0)))

def fn_X2_toHundred (x0 : Int32) : Option Int32 :=
  some (mMax 0 (mMin 100 x0))

def fn_X2_base (v : GroupV) (x0 : Int32) : Option Int32 :=
  (if 1 ≤ x0 then (if ¬ x0 = 0 then some (mMin 100 ((100 * (Group_work v)) / x0)) else none) else some 100)

def st_X2_leastSkillIn_5 (v : GroupV) (rec5 : Int32 → Int32 → Option Int32) (y1_5 : Int32) (y2_5 : Int32) : Option Int32 :=
  (if (Group_size v) ≤ y2_5 then some y1_5 else (if mIn y2_5 6 = true then jp (fun (x1_33 : Int32) => rec5 x1_33 (y2_5 + 1)) (fun j33 => (if ¬ ((Group_outs v) (y2_5).toNatClampNeg) = 0 then j33 y1_5 else (if mIn y2_5 6 = true then j33 (mMin y1_5 ((Group_skills v) (y2_5).toNatClampNeg)) else none))) else none))
def lp_X2_leastSkillIn_5 (v : GroupV) : Nat → Int32 → Int32 → Option Int32
  | 0 => fun _ _ => none
  | n + 1 => st_X2_leastSkillIn_5 v (lp_X2_leastSkillIn_5 v n)
def fn_X2_leastSkillIn (v : GroupV) : Option Int32 :=
  lp_X2_leastSkillIn_5 v m_N 9 0

def fn_X3_goal (v : LessonV) : Option Int32 :=
  some (mMax 1 (Lesson_toldGoal v))

def fn_X3_addCode (v : LessonV) (x0 : Int32) : Option LessonV :=
  (if (Lesson_codes v) < (Int32.ofNat 100) then (if mIn (Lesson_codes v) 100 = true then some (Lesson_codes_s (Lesson_code_s v (upd (Lesson_code v) ((Lesson_codes v)).toNatClampNeg x0)) ((Lesson_codes v) + 1)) else none) else some v)

def fn_X3_addTest (v : LessonV) (x0 : Int32) (x1 : Int32) (x2 : Int32) : Option LessonV :=
  (Option.bind (fn_X3_addCode v ((((x0 * 3) + x1) * 100) + x2)) (fun t1 => some t1))

def fn_X3_addSpur (v : LessonV) (x0 : Int32) : Option LessonV :=
  (if (Int32.ofNat 10) ≤ (Lesson_spurs v) then some v else (if (Lesson_spurs v) < (Int32.ofNat 10) then (if mIn (Lesson_spurs v) 10 = true then (if mIn (Lesson_spurs v) 10 = true then some (Lesson_spurs_s (Lesson_ends_s (Lesson_worths_s v (upd (Lesson_worths v) ((Lesson_spurs v)).toNatClampNeg x0)) (upd (Lesson_ends v) ((Lesson_spurs v)).toNatClampNeg (Lesson_codes v))) ((Lesson_spurs v) + 1)) else none) else none) else some v))

def fn_X3_look (v2 : GroupV) (x0 : Int32) (x1 : Int32) (x3 : Int32) : Option Int32 :=
  (if x1 = (-3) then some ((x0 >>> ((1 : Int32) &&& 31)) ||| (x0 &&& 1)) else (if x1 = (-2) then (if ¬ (x0 &&& 1) = 1 then some ((x0 >>> ((1 : Int32) &&& 31)) &&& (-2)) else some (x0 >>> ((1 : Int32) &&& 31))) else (if x1 = (-1) then some (x0 ^^^ 1) else (Option.bind (fn_X2_subjectOf v2 x3 ((x1 / 100) / 3)) (fun t5 => jp (fun (z0_143 : Int32) => jp (fun (z0_158 : Int32) => some ((x0 <<< ((1 : Int32) &&& 31)) ||| z0_158)) (fun j158 => (if z0_143 = 0 then j158 0 else j158 1))) (fun j143 => (if ¬ (mRem (x1 / 100) 3) = 0 then (if ¬ (mRem (x1 / 100) 3) = 1 then (if t5 ≤ (mRem x1 100) then j143 0 else j143 1) else (if ¬ t5 = (mRem x1 100) then j143 0 else j143 1)) else (if (mRem x1 100) ≤ t5 then j143 0 else j143 1))))))))

def fn_X4_take (v : ReaderV) (x0 : Int32) : Option (Int32 × ReaderV) :=
  (if (Reader_size v) ≤ (Reader_place v) then some (0, v) else (if mIn (Reader_place v) 100 = true then (if ((Reader_tape v) ((Reader_place v)).toNatClampNeg) = x0 then some (1, (Reader_place_s v ((Reader_place v) + 1))) else some (0, v)) else none))

def fn_X4_takeOneOf (v : ReaderV) (x0 : Nat) : Option (Int32 × ReaderV) :=
  (if (Reader_place v) < (Reader_size v) then (if mIn (Reader_place v) 100 = true then (if x0 < 10 then (Option.bind (fn_J0_indexOf_0f7a4 x0 ((((Reader_tape v) ((Reader_place v)).toNatClampNeg)).toUInt32 % 65536).toInt32) (fun t3 => (if t3 < 0 then some (t3, v) else some (t3, (Reader_place_s v ((Reader_place v) + 1)))))) else none) else none) else some ((-1), v))

def fn_X5_lesson (v : RoomV) : Option Nat :=
  jp (fun (_ : Unit) => some (Room_none v)) (fun j16 => (if (Room_lessonCount v) < 1 then j16 () else (if (Room_lessonCount v) ≤ 5 then (if mIn ((Room_lessonCount v) - 1) 5 = true then m_opt ((Room_lessons v) (((Room_lessonCount v) - 1)).toNatClampNeg) (some (Room_none v)) (fun r4 => some r4) else none) else j16 ())))

def fn_X6_isFull (v : RowsV) : Option Int32 :=
  jp (fun (_ : Unit) => some 1) (fun j24 => (if (Int32.ofNat (Rows_len v)) ≤ (Rows_size v) then j24 () else (if (Rows_size v) < (Int32.ofNat (Rows_len v)) then some 0 else j24 ())))

def fn_X6_add (v : RowsV) (x0 : Int32) (x1 : Int32) : Option (Int32 × RowsV) :=
  (Option.bind (fn_X6_isFull v) (fun t1 => jp (fun (wx_37 : RowsV) => some ((Rows_size wx_37), wx_37)) (fun j37 => (if ¬ t1 = 0 then j37 v else (if mIn (Rows_size v) (Rows_len v) = true then (if mIn (Rows_size v) (Rows_len v) = true then j37 (Rows_size_s (Rows_seconds_s (Rows_firsts_s v (upd (Rows_firsts v) ((Rows_size v)).toNatClampNeg x0)) (upd (Rows_seconds v) ((Rows_size v)).toNatClampNeg x1)) ((Rows_size v) + 1)) else none) else none)))))

def fn_X6_clear (v : RowsV) : Option (Int32 × RowsV) :=
  some (0, (Rows_size_s v 0))

def st_X6_copyFrom_7 (v0 : RowsV) (rec7 : Int32 → RowsV → Option RowsV) (y2_7 : Int32) (wy_7 : RowsV) : Option RowsV :=
  (if (Rows_size v0) ≤ y2_7 then some wy_7 else (if mIn y2_7 (Rows_len v0) = true then (if mIn y2_7 (Rows_len v0) = true then (Option.bind (fn_X6_add wy_7 ((Rows_firsts v0) (y2_7).toNatClampNeg) ((Rows_seconds v0) (y2_7).toNatClampNeg)) (fun t4 => rec7 (y2_7 + 1) t4.2)) else none) else none))
def lp_X6_copyFrom_7 (v0 : RowsV) : Nat → Int32 → RowsV → Option RowsV
  | 0 => fun _ _ => none
  | n + 1 => st_X6_copyFrom_7 v0 (lp_X6_copyFrom_7 v0 n)
def fn_X6_copyFrom (v : RowsV) (v0 : RowsV) : Option RowsV :=
  lp_X6_copyFrom_7 v0 m_N 0 (Rows_size_s v 0)

def fn_X7_feed (v : OneV) (x0 : Int32) : Option (Int32 × OneV) :=
  (if x0 < 0 then some ((-2), v) else (if x0 ≤ 127 then (if (Room_signs (One_now v)) < 100 then (if mIn (Room_signs (One_now v)) 100 = true then some (((Room_signs (One_now v)) + 1), (One_now_s v (Room_signs_s (Room_tape_s (One_now v) (upd (Room_tape (One_now v)) ((Room_signs (One_now v))).toNatClampNeg (vp_nar .byte (x0).toInt8.toInt32))) ((Room_signs (One_now v)) + 1)))) else none) else some ((-4), v)) else some ((-2), v)))

def fn_X7_see (v : OneV) (x0 : Int32) (x1 : Int32) : Option (Int32 × OneV) :=
  (if ¬ x0 = (-1) then (if x0 < 0 then some ((-2), v) else (if 99999 < x0 then some ((-2), v) else (if x1 < 0 then some ((-2), v) else (if x1 ≤ 20 then (Option.bind (fn_X6_isFull (Room_seen (One_now v))) (fun t6 => (if t6 = 0 then (Option.bind (fn_X6_add (Room_seen (One_now v)) x0 x1) (fun t8 => some (t8.1, (One_now_s v (Room_seen_s (One_now v) t8.2))))) else some ((-4), v)))) else some ((-2), v))))) else (Option.bind (fn_X6_clear (Room_seen (One_now v))) (fun t9 => some (t9.1, (One_now_s v (Room_seen_s (One_now v) t9.2))))))

def fn_X7_trace (v : OneV) (x0 : Int32) : Option Int32 :=
  (if x0 < 0 then some (-1) else (if (Acts_ran (One_acts v)) ≤ x0 then some (-1) else (if x0 < 20 then (if mIn x0 20 = true then some ((Acts_kept (One_acts v)) (x0).toNatClampNeg) else none) else some (-1))))

def fn_X7_count (v : OneV) (x0 : Int32) : Option Int32 :=
  (if x0 = 0 then some (Group_size (Room_group (One_now v))) else (if x0 = 1 then some (Room_lessonCount (One_now v)) else (if x0 = 2 then some (Rows_size (Room_seen (One_now v))) else (if x0 = 3 then some (Rows_size (Room_plan (One_now v))) else (if x0 = 4 then some (Rows_size (Room_book (One_now v))) else (if x0 = 5 then some (Room_signs (One_now v)) else (if x0 = 6 then some (Acts_ran (One_acts v)) else some (-1))))))))

def fn_X7_isPupil (v : OneV) (x0 : Int32) : Option Int32 :=
  (if x0 < 0 then some 0 else (if (Group_size (Room_group (One_now v))) ≤ x0 then some 0 else (if 6 ≤ x0 then some 0 else some 1)))

def fn_X7_isKind (x0 : Int32) : Option Int32 :=
  (if x0 < 0 then some 0 else (if 7 ≤ x0 then some 0 else some 1))

def fn_X7_isRule (x0 : Int32) : Option Int32 :=
  (if x0 < 0 then some 0 else (if 4 ≤ x0 then some 0 else some 1))

def fn_X7_isPart (x0 : Int32) : Option Int32 :=
  jp (fun (_ : Unit) => some 1) (fun j9 => (if x0 = 0 then j9 () else (if ¬ x0 = 1 then some 0 else j9 ())))

def st_X7_isUnder_4 (x1 : Int32) (rec4 : Int32 → Int32 → Option Int32) (y2_4 : Int32) (y3_4 : Int32) : Option Int32 :=
  (if 7 ≤ y3_4 then some 0 else (Option.bind (fn_X7_isKind y2_4) (fun t2 => (if t2 = 0 then some 0 else (if ¬ y2_4 = x1 then (if mIn y2_4 7 = true then rec4 (mKA.getD (y2_4).toNatClampNeg 0) (y3_4 + 1) else none) else some 1)))))
def lp_X7_isUnder_4 (x1 : Int32) : Nat → Int32 → Int32 → Option Int32
  | 0 => fun _ _ => none
  | n + 1 => st_X7_isUnder_4 x1 (lp_X7_isUnder_4 x1 n)
def fn_X7_isUnder (x0 : Int32) (x1 : Int32) : Option Int32 :=
  lp_X7_isUnder_4 x1 m_N x0 0

def st_X7_leastOf_2 (x0 : Int32) (rec2 : Int32 → Option Int32) (y1_2 : Int32) : Option Int32 :=
  (if 9 < y1_2 then some (-5) else (if ¬ ((x0 >>> (y1_2 &&& 31)) &&& 1) = 1 then rec2 (y1_2 + 1) else some y1_2))
def lp_X7_leastOf_2 (x0 : Int32) : Nat → Int32 → Option Int32
  | 0 => fun _ => none
  | n + 1 => st_X7_leastOf_2 x0 (lp_X7_leastOf_2 x0 n)
def fn_X7_leastOf (x0 : Int32) : Option Int32 :=
  lp_X7_leastOf_2 x0 m_N 0

def st_X7_inLowestTerms_12 (j47 : Int64 → Option Int64) (rec12 : Int64 → Int64 → Int32 → Option Int64) (y5_12 : Int64) (y7_12 : Int64) (y9_12 : Int32) : Option Int64 :=
  (if 100 ≤ y9_12 then j47 y5_12 else (if (lg_cmp y7_12 (0 : Int64)) = 0 then j47 y5_12 else (if ¬ y7_12 = 0 then rec12 y7_12 (mRemL y5_12 y7_12) (y9_12 + 1) else none)))
def lp_X7_inLowestTerms_12 (j47 : Int64 → Option Int64) : Nat → Int64 → Int64 → Int32 → Option Int64
  | 0 => fun _ _ _ => none
  | n + 1 => st_X7_inLowestTerms_12 j47 (lp_X7_inLowestTerms_12 j47 n)
def fn_X7_inLowestTerms (x0 : Int64) (x1 : Int64) (x2 : Int32) : Option Int64 :=
  jp (fun (x5_47 : Int64) => (if ¬ (lg_cmp x5_47 (0 : Int64)) = 0 then jp (fun (z0_68 : Int64) => (if ¬ x5_47 = 0 then some (z0_68 / x5_47) else none)) (fun j68 => (if ¬ x2 = 0 then j68 x1 else j68 x0)) else some (-9223372036854775808 : Int64))) (fun j47 => lp_X7_inLowestTerms_12 j47 m_N (mAbsL x0) x1 0)

def fn_X8_in (x0 : Int32) (x1 : Int32) (x2 : Int32) : Option Int32 :=
  (if x0 < x1 then some 0 else (if x2 < x0 then some 0 else some 1))

def fn_X8_within (x0 : Int32) (x1 : Int32) (x2 : Int32) : Option Int32 :=
  (if x1 ≤ x0 then (if x0 ≤ x2 then some x0 else some x2) else some x1)

def fn_X8_size (x0 : Int32) : Option Int32 :=
  (if 0 ≤ x0 then some x0 else some (-x0))

def fn_X8_isPupil (v : ModelV) (x0 : Int32) : Option Int32 :=
  (if mIn 20 926 = true then (Option.bind (fn_X8_in x0 0 (((Model_s v) (20 : Int32).toNatClampNeg) - 1)) (fun t2 => (if mBit t2 = true then some t2 else none))) else none)

def st_X8_keeps_2  (rec2 : Int32 → ModelV → Option ModelV) (y1_2 : Int32) (wy_2 : ModelV) : Option ModelV :=
  (if 20 ≤ y1_2 then some wy_2 else (if mIn y1_2 926 = true then (if mIn y1_2 20 = true then rec2 (y1_2 + 1) (Model_frame_s wy_2 (upd (Model_frame wy_2) (y1_2).toNatClampNeg ((Model_s wy_2) (y1_2).toNatClampNeg))) else none) else none))
def lp_X8_keeps_2  : Nat → Int32 → ModelV → Option ModelV
  | 0 => fun _ _ => none
  | n + 1 => st_X8_keeps_2  (lp_X8_keeps_2  n)
def fn_X8_keeps (v : ModelV) : Option ModelV :=
  lp_X8_keeps_2  m_N 0 v

def st_X8_goesBack_2  (rec2 : Int32 → ModelV → Option ModelV) (y1_2 : Int32) (wy_2 : ModelV) : Option ModelV :=
  (if 20 ≤ y1_2 then some wy_2 else (if mIn y1_2 20 = true then (if mIn y1_2 926 = true then rec2 (y1_2 + 1) (Model_s_s wy_2 (upd (Model_s wy_2) (y1_2).toNatClampNeg ((Model_frame wy_2) (y1_2).toNatClampNeg))) else none) else none))
def lp_X8_goesBack_2  : Nat → Int32 → ModelV → Option ModelV
  | 0 => fun _ _ => none
  | n + 1 => st_X8_goesBack_2  (lp_X8_goesBack_2  n)
def fn_X8_goesBack (v : ModelV) : Option ModelV :=
  lp_X8_goesBack_2  m_N 0 v

def fn_X8_feed (v : ModelV) (x0 : Int32) : Option (Int32 × ModelV) :=
  (Option.bind (fn_X8_in x0 0 127) (fun t1 => (if ¬ t1 = 0 then (if mIn 25 926 = true then (if ¬ ((Model_s v) (25 : Int32).toNatClampNeg) = 100 then (if mIn 25 926 = true then (if mIn (111 + ((Model_s v) (25 : Int32).toNatClampNeg)) 926 = true then (if mIn 25 926 = true then (if mIn 25 926 = true then (if mIn 25 926 = true then some (((upd (upd (Model_s v) ((111 + ((Model_s v) (25 : Int32).toNatClampNeg))).toNatClampNeg x0) (25 : Int32).toNatClampNeg (((upd (Model_s v) ((111 + ((Model_s v) (25 : Int32).toNatClampNeg))).toNatClampNeg x0) (25 : Int32).toNatClampNeg) + 1)) (25 : Int32).toNatClampNeg), (Model_s_s v (upd (upd (Model_s v) ((111 + ((Model_s v) (25 : Int32).toNatClampNeg))).toNatClampNeg x0) (25 : Int32).toNatClampNeg (((upd (Model_s v) ((111 + ((Model_s v) (25 : Int32).toNatClampNeg))).toNatClampNeg x0) (25 : Int32).toNatClampNeg) + 1)))) else none) else none) else none) else none) else none) else some ((-4), v)) else none) else some ((-2), v))))

def fn_X8_here (v : ModelV) : Option Int32 :=
  (if (Model_end v) ≤ (Model_spot v) then some (-1) else (if mIn (111 + (Model_spot v)) 926 = true then some ((Model_s v) ((111 + (Model_spot v))).toNatClampNeg) else none))

def fn_X8_must (v : ModelV) (x0 : Int32) : Option ModelV :=
  jp (fun (z0_21 : Int32) => (if mBit z0_21 = true then jp (fun (z0_41 : Int32) => some (Model_isWrong_s (Model_spot_s v ((Model_spot v) + z0_41)) z0_21)) (fun j41 => (if z0_21 = 0 then j41 1 else j41 0)) else none)) (fun j21 => jp (fun (_ : Unit) => j21 1) (fun j16 => (if ¬ (Model_isWrong v) = 0 then j16 () else (Option.bind (fn_X8_here v) (fun t4 => (if t4 = x0 then j21 0 else j16 ()))))))

def st_X8_spells_2 (x0 : Nat) (rec2 : Int32 → ModelV → Option ModelV) (y2_2 : Int32) (wy_2 : ModelV) : Option ModelV :=
  (if x0 < 10 then (Option.bind (fn_J0_length_8abf5 x0) (fun t1 => (if t1 ≤ y2_2 then some wy_2 else (if x0 < 10 then (Option.bind (fn_J0_charAt_5068e x0 y2_2) (fun t4 => (Option.bind (fn_X8_must wy_2 t4) (fun t6 => rec2 (y2_2 + 1) t6)))) else none)))) else none)
def lp_X8_spells_2 (x0 : Nat) : Nat → Int32 → ModelV → Option ModelV
  | 0 => fun _ _ => none
  | n + 1 => st_X8_spells_2 x0 (lp_X8_spells_2 x0 n)
def fn_X8_spells (v : ModelV) (x0 : Nat) : Option ModelV :=
  lp_X8_spells_2 x0 m_N 0 v

def st_X8_figures_34  (rec34 : Int32 → Int32 → ModelV → Option (Int32 × ModelV)) (y1_34 : Int32) (y2_34 : Int32) (wy_34 : ModelV) : Option (Int32 × ModelV) :=
  (if 2 ≤ y2_34 then some (y1_34, wy_34) else (if ¬ (Model_isWrong wy_34) = 0 then some (y1_34, wy_34) else (Option.bind (fn_X8_here wy_34) (fun t4 => (Option.bind (fn_X8_in t4 48 57) (fun t5 => (if t5 = 0 then some (y1_34, wy_34) else jp (fun (_ : Unit) => (Option.bind (fn_X8_here wy_34) (fun t7 => rec34 (((10 * y1_34) + t7) - 48) (y2_34 + 1) (Model_spot_s wy_34 ((Model_spot wy_34) + 1))))) (fun j68 => (if y2_34 = 0 then j68 () else (if y1_34 ≤ 0 then some (y1_34, wy_34) else j68 ()))))))))))
def lp_X8_figures_34  : Nat → Int32 → Int32 → ModelV → Option (Int32 × ModelV)
  | 0 => fun _ _ _ => none
  | n + 1 => st_X8_figures_34  (lp_X8_figures_34  n)
def fn_X8_figures (v : ModelV) : Option (Int32 × ModelV) :=
  jp (fun (z0_27 : Int32) => (if mBit z0_27 = true then lp_X8_figures_34  m_N 0 0 (Model_isWrong_s v z0_27) else none)) (fun j27 => jp (fun (_ : Unit) => j27 1) (fun j22 => (if ¬ (Model_isWrong v) = 0 then j22 () else (Option.bind (fn_X8_here v) (fun t11 => (Option.bind (fn_X8_in t11 48 57) (fun t12 => (if ¬ t12 = 0 then j27 0 else j22 ()))))))))

def st_X8_among_2 (v : ModelV) (x0 : Nat) (j22 : Int32 → Option (Int32 × ModelV)) (rec2 : Int32 → Option (Int32 × ModelV)) (y2_2 : Int32) : Option (Int32 × ModelV) :=
  (if x0 < 10 then (Option.bind (fn_J0_length_8abf5 x0) (fun t1 => (if t1 ≤ y2_2 then some ((-1), v) else (Option.bind (fn_X8_here v) (fun t4 => (if x0 < 10 then (Option.bind (fn_J0_charAt_5068e x0 y2_2) (fun t5 => (if ¬ t4 = t5 then rec2 (y2_2 + 1) else j22 y2_2))) else none)))))) else none)
def lp_X8_among_2 (v : ModelV) (x0 : Nat) (j22 : Int32 → Option (Int32 × ModelV)) : Nat → Int32 → Option (Int32 × ModelV)
  | 0 => fun _ => none
  | n + 1 => st_X8_among_2 v x0 j22 (lp_X8_among_2 v x0 j22 n)
def fn_X8_among (v : ModelV) (x0 : Nat) : Option (Int32 × ModelV) :=
  jp (fun (x2_22 : Int32) => some (x2_22, (Model_spot_s v ((Model_spot v) + 1)))) (fun j22 => lp_X8_among_2 v x0 j22 m_N 0)

def fn_X8_emits (v : ModelV) (x0 : Int32) : Option ModelV :=
  (if ¬ (Model_isWrong v) = 0 then some v else (if mIn (221 + (Model_act v)) 926 = true then (if mIn ((226 + (140 * (Model_act v))) + ((Model_s v) ((221 + (Model_act v))).toNatClampNeg)) 926 = true then (if mIn (221 + (Model_act v)) 926 = true then (if mIn (221 + (Model_act v)) 926 = true then some (Model_s_s v (upd (upd (Model_s v) (((226 + (140 * (Model_act v))) + ((Model_s v) ((221 + (Model_act v))).toNatClampNeg))).toNatClampNeg x0) ((221 + (Model_act v))).toNatClampNeg (((upd (Model_s v) (((226 + (140 * (Model_act v))) + ((Model_s v) ((221 + (Model_act v))).toNatClampNeg))).toNatClampNeg x0) ((221 + (Model_act v))).toNatClampNeg) + 1))) else none) else none) else none) else none))

def fn_X8_tellsHere (v : ModelV) (x0 : Int32) (x1 : Nat) : Option ModelV :=
  (Option.bind (fn_X8_spells v x1) (fun t1 => (Option.bind (fn_X8_figures t1) (fun t2 => (if ¬ (Model_isWrong t2.2) = 0 then some t2.2 else (if mIn (x0 + (Model_act t2.2)) 926 = true then some (Model_s_s t2.2 (upd (Model_s t2.2) ((x0 + (Model_act t2.2))).toNatClampNeg t2.1)) else none))))))

def fn_X8_tellsOf (v : ModelV) (x0 : Int32) (x1 : Int32) : Option Int32 :=
  (if mIn 26 926 = true then (if ¬ ((Model_s v) (26 : Int32).toNatClampNeg) = (-1) then (if mIn 26 926 = true then (if mIn (x0 + ((Model_s v) (26 : Int32).toNatClampNeg)) 926 = true then some ((Model_s v) ((x0 + ((Model_s v) (26 : Int32).toNatClampNeg))).toNatClampNeg) else none) else none) else some x1) else none)

def fn_X8_goalNow (v : ModelV) : Option Int32 :=
  (Option.bind (fn_X8_tellsOf v 211 60) (fun t1 => (Option.bind (fn_X8_within t1 1 99) (fun t2 => some t2))))

def st_X8_looks_119 (v : ModelV) (t12 : Int32) (rec119 : Int32 → Int32 → Int32 → ModelV → Option (Int32 × ModelV)) (y2_119 : Int32) (y5_119 : Int32) (y6_119 : Int32) (wy_119 : ModelV) : Option (Int32 × ModelV) :=
  (if ((226 + (140 * ((Model_s v) (26 : Int32).toNatClampNeg))) + t12) ≤ y6_119 then some (y2_119, wy_119) else (if mIn y6_119 926 = true then jp (fun (x2_419 : Int32) (x5_419 : Int32) (wx_419 : ModelV) => rec119 x2_419 x5_419 (y6_119 + 1) wx_419) (fun j419 => (if ((Model_s wy_119) (y6_119).toNatClampNeg) < 0 then (if ¬ ((Model_s wy_119) (y6_119).toNatClampNeg) = (-1) then (if ((Model_s wy_119) (y6_119).toNatClampNeg) ≤ (-10) then (if mIn 0 64 = true then jp (fun (z0_391 : Int32) => jp (fun (z0_417 : Int32) => j419 ((y2_119 + z0_391) - z0_417) 0 wy_119) (fun j417 => jp (fun (_ : Unit) => j417 0) (fun j416 => (if ((Model_truths wy_119) (0 : Int32).toNatClampNeg) = 0 then j416 () else (if (-200) < ((Model_s wy_119) (y6_119).toNatClampNeg) then j416 () else j417 ((-200) - ((Model_s wy_119) (y6_119).toNatClampNeg))))))) (fun j391 => jp (fun (_ : Unit) => j391 0) (fun j390 => (if ((Model_truths wy_119) (0 : Int32).toNatClampNeg) = 0 then j390 () else (if ((Model_s wy_119) (y6_119).toNatClampNeg) ≤ (-200) then j390 () else j391 ((-10) - ((Model_s wy_119) (y6_119).toNatClampNeg)))))) else none) else jp (fun (z0_353 : Int32) => (if mIn ((y5_119 + (-1)) - 1) 64 = true then j419 y2_119 (y5_119 + (-1)) (Model_truths_s wy_119 (upd (Model_truths wy_119) (((y5_119 + (-1)) - 1)).toNatClampNeg (vp_nar .boolean z0_353))) else none)) (fun j353 => (if ¬ ((Model_s wy_119) (y6_119).toNatClampNeg) = (-2) then (if mIn ((y5_119 + (-1)) - 1) 64 = true then jp (fun (_ : Unit) => j353 1) (fun j348 => (if ¬ ((Model_truths wy_119) (((y5_119 + (-1)) - 1)).toNatClampNeg) = 0 then j348 () else (if mIn (y5_119 + (-1)) 64 = true then (if ((Model_truths wy_119) ((y5_119 + (-1))).toNatClampNeg) = 0 then j353 0 else j348 ()) else none))) else none) else (if mIn ((y5_119 + (-1)) - 1) 64 = true then jp (fun (_ : Unit) => j353 0) (fun j322 => (if ((Model_truths wy_119) (((y5_119 + (-1)) - 1)).toNatClampNeg) = 0 then j322 () else (if mIn (y5_119 + (-1)) 64 = true then (if ((Model_truths wy_119) ((y5_119 + (-1))).toNatClampNeg) = 0 then j322 () else j353 1) else none))) else none)))) else (if mIn (y5_119 - 1) 64 = true then jp (fun (z0_267 : Int32) => (if mIn (y5_119 - 1) 64 = true then j419 y2_119 y5_119 (Model_truths_s wy_119 (upd (Model_truths wy_119) ((y5_119 - 1)).toNatClampNeg (vp_nar .boolean z0_267))) else none)) (fun j267 => (if ¬ ((Model_truths wy_119) ((y5_119 - 1)).toNatClampNeg) = 0 then j267 0 else j267 1)) else none)) else (if mIn (mRem ((Model_s wy_119) (y6_119).toNatClampNeg) 8) 6 = true then jp (fun (z0_229 : Int32) => (if mIn y5_119 64 = true then j419 y2_119 (y5_119 + 1) (Model_truths_s wy_119 (upd (Model_truths wy_119) (y5_119).toNatClampNeg (vp_nar .boolean z0_229))) else none)) (fun j229 => (if ¬ (mRem (((Model_s wy_119) (y6_119).toNatClampNeg) / 8) 4) = 0 then (if ¬ (mRem (((Model_s wy_119) (y6_119).toNatClampNeg) / 8) 4) = 1 then (if ((Model_by wy_119) ((mRem ((Model_s wy_119) (y6_119).toNatClampNeg) 8)).toNatClampNeg) ≤ (((Model_s wy_119) (y6_119).toNatClampNeg) / 32) then j229 0 else j229 1) else (if ¬ ((Model_by wy_119) ((mRem ((Model_s wy_119) (y6_119).toNatClampNeg) 8)).toNatClampNeg) = (((Model_s wy_119) (y6_119).toNatClampNeg) / 32) then j229 0 else j229 1)) else (if (((Model_s wy_119) (y6_119).toNatClampNeg) / 32) ≤ ((Model_by wy_119) ((mRem ((Model_s wy_119) (y6_119).toNatClampNeg) 8)).toNatClampNeg) then j229 0 else j229 1))) else none))) else none))
def lp_X8_looks_119 (v : ModelV) (t12 : Int32) : Nat → Int32 → Int32 → Int32 → ModelV → Option (Int32 × ModelV)
  | 0 => fun _ _ _ _ => none
  | n + 1 => st_X8_looks_119 v t12 (lp_X8_looks_119 v t12 n)
def fn_X8_looks (v : ModelV) (x0 : Int32) : Option (Int32 × ModelV) :=
  (if mIn 0 6 = true then (if mIn (27 + x0) 926 = true then (if mIn 1 6 = true then (if mIn (33 + x0) 926 = true then (if mIn 2 6 = true then (if mIn (39 + x0) 926 = true then (if mIn 3 6 = true then (if mIn (2 + x0) 926 = true then (if mIn 4 6 = true then (if mIn 0 926 = true then (if mIn 5 6 = true then (Option.bind (fn_X8_tellsOf (Model_by_s v (upd (upd (upd (upd (upd (upd (Model_by v) (0 : Int32).toNatClampNeg x0) (1 : Int32).toNatClampNeg ((Model_s v) ((27 + x0)).toNatClampNeg)) (2 : Int32).toNatClampNeg ((Model_s v) ((33 + x0)).toNatClampNeg)) (3 : Int32).toNatClampNeg ((Model_s v) ((39 + x0)).toNatClampNeg)) (4 : Int32).toNatClampNeg (((Model_s v) ((2 + x0)).toNatClampNeg) / 10)) (5 : Int32).toNatClampNeg (mRem ((Model_s v) (0 : Int32).toNatClampNeg) 10))) 221 0) (fun t12 => (if mIn 26 926 = true then lp_X8_looks_119 v t12 m_N 0 0 (226 + (140 * ((Model_s v) (26 : Int32).toNatClampNeg))) (Model_by_s v (upd (upd (upd (upd (upd (upd (Model_by v) (0 : Int32).toNatClampNeg x0) (1 : Int32).toNatClampNeg ((Model_s v) ((27 + x0)).toNatClampNeg)) (2 : Int32).toNatClampNeg ((Model_s v) ((33 + x0)).toNatClampNeg)) (3 : Int32).toNatClampNeg ((Model_s v) ((39 + x0)).toNatClampNeg)) (4 : Int32).toNatClampNeg (((Model_s v) ((2 + x0)).toNatClampNeg) / 10)) (5 : Int32).toNatClampNeg (mRem ((Model_s v) (0 : Int32).toNatClampNeg) 10))) else none))) else none) else none) else none) else none) else none) else none) else none) else none) else none) else none) else none)

def fn_X8_zealOf (v : ModelV) (x0 : Int32) : Option (Int32 × ModelV) :=
  (Option.bind (fn_X8_looks v x0) (fun t1 => (if 0 ≤ (5 + t1.1) then some ((5 + t1.1), t1.2) else some (0, t1.2))))

def st_X8_manyIn_4 (v : ModelV) (rec4 : Int32 → Int32 → Option Int32) (y1_4 : Int32) (y2_4 : Int32) : Option Int32 :=
  (if mIn 20 926 = true then (if ((Model_s v) (20 : Int32).toNatClampNeg) ≤ y2_4 then some y1_4 else (if mIn (14 + y2_4) 926 = true then jp (fun (z0_33 : Int32) => rec4 (y1_4 + z0_33) (y2_4 + 1)) (fun j33 => (if ¬ ((Model_s v) ((14 + y2_4)).toNatClampNeg) = 0 then j33 0 else j33 1)) else none)) else none)
def lp_X8_manyIn_4 (v : ModelV) : Nat → Int32 → Int32 → Option Int32
  | 0 => fun _ _ => none
  | n + 1 => st_X8_manyIn_4 v (lp_X8_manyIn_4 v n)
def fn_X8_manyIn (v : ModelV) : Option Int32 :=
  lp_X8_manyIn_4 v m_N 0 0

def st_X8_moreSkilled_4 (v : ModelV) (x0 : Int32) (rec4 : Int32 → Int32 → Option Int32) (y2_4 : Int32) (y3_4 : Int32) : Option Int32 :=
  (if mIn 20 926 = true then (if ((Model_s v) (20 : Int32).toNatClampNeg) ≤ y3_4 then some y2_4 else jp (fun (z0_59 : Int32) => rec4 (y2_4 + z0_59) (y3_4 + 1)) (fun j59 => jp (fun (_ : Unit) => j59 0) (fun j58 => (if y3_4 = x0 then j58 () else (if mIn (14 + y3_4) 926 = true then (if ¬ ((Model_s v) ((14 + y3_4)).toNatClampNeg) = 0 then j58 () else (if mIn (39 + y3_4) 926 = true then (if mIn (39 + x0) 926 = true then (if ((Model_s v) ((39 + y3_4)).toNatClampNeg) ≤ ((Model_s v) ((39 + x0)).toNatClampNeg) then j58 () else j59 1) else none) else none)) else none))))) else none)
def lp_X8_moreSkilled_4 (v : ModelV) (x0 : Int32) : Nat → Int32 → Int32 → Option Int32
  | 0 => fun _ _ => none
  | n + 1 => st_X8_moreSkilled_4 v x0 (lp_X8_moreSkilled_4 v x0 n)
def fn_X8_moreSkilled (v : ModelV) (x0 : Int32) : Option Int32 :=
  lp_X8_moreSkilled_4 v x0 m_N 0 0

def fn_X8_doesOf (v : ModelV) (x0 : Int32) : Option (Int32 × ModelV) :=
  (if mIn (14 + x0) 926 = true then (if ¬ ((Model_s v) ((14 + x0)).toNatClampNeg) = 1 then (Option.bind (fn_X8_zealOf v x0) (fun t3 => (if mIn (27 + x0) 926 = true then jp (fun (x3_165 : Int32) => (if mIn (8 + x0) 926 = true then (Option.bind (fn_X8_within x3_165 0 ((Model_s t3.2) ((8 + x0)).toNatClampNeg)) (fun t6 => some (t6, t3.2))) else none)) (fun j165 => (if ((Model_s t3.2) ((27 + x0)).toNatClampNeg) = 1 then (if mIn (33 + x0) 926 = true then j165 (t3.1 + (((Model_s t3.2) ((33 + x0)).toNatClampNeg) / 2)) else none) else (if ((Model_s t3.2) ((27 + x0)).toNatClampNeg) = 2 then j165 (t3.1 / 2) else (if ((Model_s t3.2) ((27 + x0)).toNatClampNeg) = 3 then j165 t3.1 else (if ((Model_s t3.2) ((27 + x0)).toNatClampNeg) = 4 then (if mIn (33 + x0) 926 = true then (if mIn 20 926 = true then (Option.bind (fn_X8_manyIn t3.2) (fun t14 => j165 (((t3.1 + (((Model_s t3.2) ((33 + x0)).toNatClampNeg) / 2)) + ((Model_s t3.2) (20 : Int32).toNatClampNeg)) - t14))) else none) else none) else (if ((Model_s t3.2) ((27 + x0)).toNatClampNeg) = 5 then (Option.bind (fn_X8_moreSkilled t3.2 x0) (fun t16 => j165 ((t3.1 / 2) - t16))) else (if ((Model_s t3.2) ((27 + x0)).toNatClampNeg) = 6 then (if mIn 0 926 = true then (if mIn ((45 + (4 * x0)) + (mRem ((Model_s t3.2) (0 : Int32).toNatClampNeg) 4)) 926 = true then j165 (t3.1 + ((Model_s t3.2) (((45 + (4 * x0)) + (mRem ((Model_s t3.2) (0 : Int32).toNatClampNeg) 4))).toNatClampNeg)) else none) else none) else j165 t3.1))))))) else none))) else some (0, v)) else none)

def st_X8_allHours_4 (v : ModelV) (rec4 : Int32 → Int32 → Option Int32) (y1_4 : Int32) (y2_4 : Int32) : Option Int32 :=
  (if mIn 20 926 = true then (if ((Model_s v) (20 : Int32).toNatClampNeg) ≤ y2_4 then some y1_4 else (if mIn (2 + y2_4) 926 = true then rec4 (y1_4 + ((Model_s v) ((2 + y2_4)).toNatClampNeg)) (y2_4 + 1) else none)) else none)
def lp_X8_allHours_4 (v : ModelV) : Nat → Int32 → Int32 → Option Int32
  | 0 => fun _ _ => none
  | n + 1 => st_X8_allHours_4 v (lp_X8_allHours_4 v n)
def fn_X8_allHours (v : ModelV) : Option Int32 :=
  lp_X8_allHours_4 v m_N 0 0

def fn_X8_shareOf (v : ModelV) (x0 : Int32) : Option Int32 :=
  (Option.bind (fn_X8_allHours v) (fun t1 => (if ¬ t1 = 0 then (if mIn (2 + x0) 926 = true then (if ¬ t1 = 0 then some ((100 * ((Model_s v) ((2 + x0)).toNatClampNeg)) / t1) else none) else none) else some 0)))

def fn_X8_claimOf (v : ModelV) (x0 : Int32) : Option Int32 :=
  (Option.bind (fn_X8_shareOf v x0) (fun t1 => (if mIn (33 + x0) 926 = true then (if mIn (27 + x0) 926 = true then jp (fun (_ : Unit) => (Option.bind (fn_X8_within (t1 - ((Model_s v) ((33 + x0)).toNatClampNeg)) 0 100) (fun t4 => some t4))) (fun j64 => (if ((Model_s v) ((27 + x0)).toNatClampNeg) = 1 then j64 () else (if ((Model_s v) ((27 + x0)).toNatClampNeg) = 2 then (Option.bind (fn_X8_within (t1 + ((Model_s v) ((33 + x0)).toNatClampNeg)) 0 100) (fun t7 => some t7)) else (if ((Model_s v) ((27 + x0)).toNatClampNeg) = 3 then (Option.bind (fn_X8_within (2 * t1) 0 100) (fun t9 => some t9)) else (if ((Model_s v) ((27 + x0)).toNatClampNeg) = 4 then j64 () else (if ((Model_s v) ((27 + x0)).toNatClampNeg) = 5 then (Option.bind (fn_X8_within (t1 + ((Model_s v) ((33 + x0)).toNatClampNeg)) 0 100) (fun t12 => some (t12 / 2))) else (if ((Model_s v) ((27 + x0)).toNatClampNeg) = 6 then (if mIn 0 926 = true then (if mIn ((45 + (4 * x0)) + (mRem ((Model_s v) (0 : Int32).toNatClampNeg) 4)) 926 = true then (Option.bind (fn_X8_within ((2 * t1) + ((Model_s v) (((45 + (4 * x0)) + (mRem ((Model_s v) (0 : Int32).toNatClampNeg) 4))).toNatClampNeg)) 0 100) (fun t16 => some t16)) else none) else none) else some t1))))))) else none) else none)))

def st_X8_allClaims_4 (v : ModelV) (rec4 : Int32 → Int32 → Option Int32) (y1_4 : Int32) (y2_4 : Int32) : Option Int32 :=
  (if mIn 20 926 = true then (if ((Model_s v) (20 : Int32).toNatClampNeg) ≤ y2_4 then some y1_4 else (Option.bind (fn_X8_claimOf v y2_4) (fun t3 => rec4 (y1_4 + t3) (y2_4 + 1)))) else none)
def lp_X8_allClaims_4 (v : ModelV) : Nat → Int32 → Int32 → Option Int32
  | 0 => fun _ _ => none
  | n + 1 => st_X8_allClaims_4 v (lp_X8_allClaims_4 v n)
def fn_X8_allClaims (v : ModelV) : Option Int32 :=
  lp_X8_allClaims_4 v m_N 0 0

def fn_X8_baseNow (v : ModelV) : Option Int32 :=
  (if mIn 1 926 = true then (Option.bind (fn_X8_goalNow v) (fun t2 => (if ¬ t2 = 0 then (Option.bind (fn_X8_within ((100 * ((Model_s v) (1 : Int32).toNatClampNeg)) / t2) 0 100) (fun t4 => some t4)) else none))) else none)

def fn_X8_partOf (v : ModelV) (x0 : Int32) (x1 : Int32) : Option Int32 :=
  (if ¬ x1 = 1 then (Option.bind (fn_X8_claimOf v x0) (fun t2 => some t2)) else (if mIn (2 + x0) 926 = true then some ((Model_s v) ((2 + x0)).toNatClampNeg) else none))

def st_X8_leastSkill_5 (v : ModelV) (rec5 : Int32 → Int32 → Option Int32) (y1_5 : Int32) (y2_5 : Int32) : Option Int32 :=
  (if mIn 20 926 = true then (if ((Model_s v) (20 : Int32).toNatClampNeg) ≤ y2_5 then some y1_5 else (if mIn (14 + y2_5) 926 = true then jp (fun (z0_54 : Int32) => rec5 z0_54 (y2_5 + 1)) (fun j54 => jp (fun (_ : Unit) => j54 y1_5) (fun j53 => (if ¬ ((Model_s v) ((14 + y2_5)).toNatClampNeg) = 0 then j53 () else (if mIn (39 + y2_5) 926 = true then (if y1_5 ≤ ((Model_s v) ((39 + y2_5)).toNatClampNeg) then j53 () else (if mIn (39 + y2_5) 926 = true then j54 ((Model_s v) ((39 + y2_5)).toNatClampNeg) else none)) else none)))) else none)) else none)
def lp_X8_leastSkill_5 (v : ModelV) : Nat → Int32 → Int32 → Option Int32
  | 0 => fun _ _ => none
  | n + 1 => st_X8_leastSkill_5 v (lp_X8_leastSkill_5 v n)
def fn_X8_leastSkill (v : ModelV) : Option Int32 :=
  lp_X8_leastSkill_5 v m_N 99 0

def st_X8_markOf_47 (v : ModelV) (x1 : Int32) (j94 : Int32 → Option Int32) (rec47 : Int32 → Int32 → Option Int32) (y4_47 : Int32) (y5_47 : Int32) : Option Int32 :=
  (if mIn 20 926 = true then (if ((Model_s v) (20 : Int32).toNatClampNeg) ≤ y5_47 then j94 y4_47 else (if mIn (14 + y5_47) 926 = true then jp (fun (z0_85 : Int32) => rec47 (y4_47 + z0_85) (y5_47 + 1)) (fun j85 => (if ¬ ((Model_s v) ((14 + y5_47)).toNatClampNeg) = 0 then j85 0 else (Option.bind (fn_X8_partOf v y5_47 x1) (fun t15 => j85 t15)))) else none)) else none)
def lp_X8_markOf_47 (v : ModelV) (x1 : Int32) (j94 : Int32 → Option Int32) : Nat → Int32 → Int32 → Option Int32
  | 0 => fun _ _ => none
  | n + 1 => st_X8_markOf_47 v x1 j94 (lp_X8_markOf_47 v x1 j94 n)
def fn_X8_markOf (v : ModelV) (x0 : Int32) (x1 : Int32) : Option Int32 :=
  (if mIn (14 + x0) 926 = true then (if ¬ ((Model_s v) ((14 + x0)).toNatClampNeg) = 1 then (Option.bind (fn_X8_baseNow v) (fun t3 => (if ¬ x1 = 0 then (if ¬ x1 = 3 then jp (fun (x4_94 : Int32) => (if ¬ x4_94 = 0 then (Option.bind (fn_X8_partOf v x0 x1) (fun t7 => (Option.bind (fn_X8_manyIn v) (fun t8 => (if ¬ x4_94 = 0 then (Option.bind (fn_X8_within (((t3 * t7) * t8) / x4_94) 0 100) (fun t10 => some t10)) else none))))) else some t3)) (fun j94 => lp_X8_markOf_47 v x1 j94 m_N 0 0) else (Option.bind (fn_X8_leastSkill v) (fun t16 => some ((t3 * t16) / 9)))) else some t3))) else some 0) else none)

def st_X8_pupil_139 (v : ModelV) (j167 : ModelV → Option (Int32 × ModelV)) (rec139 : Int32 → ModelV → Option (Int32 × ModelV)) (y6_139 : Int32) (wy_139 : ModelV) : Option (Int32 × ModelV) :=
  (if 4 ≤ y6_139 then j167 wy_139 else (if mIn ((45 + (4 * ((Model_s v) (20 : Int32).toNatClampNeg))) + y6_139) 926 = true then rec139 (y6_139 + 1) (Model_s_s wy_139 (upd (Model_s wy_139) (((45 + (4 * ((Model_s v) (20 : Int32).toNatClampNeg))) + y6_139)).toNatClampNeg 0)) else none))
def lp_X8_pupil_139 (v : ModelV) (j167 : ModelV → Option (Int32 × ModelV)) : Nat → Int32 → ModelV → Option (Int32 × ModelV)
  | 0 => fun _ _ => none
  | n + 1 => st_X8_pupil_139 v j167 (lp_X8_pupil_139 v j167 n)
def fn_X8_pupil (v : ModelV) (x0 : Int32) (x1 : Int32) (x2 : Int32) (x3 : Int32) : Option (Int32 × ModelV) :=
  (Option.bind (fn_X8_in x0 0 6) (fun t1 => (if ¬ t1 = 0 then (Option.bind (fn_X8_in x1 0 9) (fun t3 => (if t3 = 0 then some ((-2), v) else (Option.bind (fn_X8_in x2 1 9) (fun t5 => (if t5 = 0 then some ((-2), v) else (Option.bind (fn_X8_in x3 0 99) (fun t7 => (if ¬ t7 = 0 then (if mIn 20 926 = true then (if ¬ ((Model_s v) (20 : Int32).toNatClampNeg) = 6 then (if mIn 20 926 = true then (if mIn (27 + ((Model_s v) (20 : Int32).toNatClampNeg)) 926 = true then (if mIn (33 + ((Model_s v) (20 : Int32).toNatClampNeg)) 926 = true then (if mIn (39 + ((Model_s v) (20 : Int32).toNatClampNeg)) 926 = true then (if mIn (8 + ((Model_s v) (20 : Int32).toNatClampNeg)) 926 = true then (if mIn (2 + ((Model_s v) (20 : Int32).toNatClampNeg)) 926 = true then (if mIn (14 + ((Model_s v) (20 : Int32).toNatClampNeg)) 926 = true then jp (fun (wx_167 : ModelV) => (if mIn 20 926 = true then (if mIn 20 926 = true then some (((Model_s v) (20 : Int32).toNatClampNeg), (Model_s_s wx_167 (upd (Model_s wx_167) (20 : Int32).toNatClampNeg (((Model_s wx_167) (20 : Int32).toNatClampNeg) + 1)))) else none) else none)) (fun j167 => lp_X8_pupil_139 v j167 m_N 0 (Model_s_s v (upd (upd (upd (upd (upd (upd (Model_s v) ((27 + ((Model_s v) (20 : Int32).toNatClampNeg))).toNatClampNeg x0) ((33 + ((Model_s v) (20 : Int32).toNatClampNeg))).toNatClampNeg x1) ((39 + ((Model_s v) (20 : Int32).toNatClampNeg))).toNatClampNeg x2) ((8 + ((Model_s v) (20 : Int32).toNatClampNeg))).toNatClampNeg x3) ((2 + ((Model_s v) (20 : Int32).toNatClampNeg))).toNatClampNeg 0) ((14 + ((Model_s v) (20 : Int32).toNatClampNeg))).toNatClampNeg 0))) else none) else none) else none) else none) else none) else none) else none) else some ((-4), v)) else none) else some ((-2), v)))))))))) else some ((-1), v))))

def fn_X8_of (v : ModelV) (x0 : Int32) (x1 : Int32) : Option (Int32 × ModelV) :=
  (Option.bind (fn_X8_isPupil v x0) (fun t1 => (if ¬ t1 = 0 then (if x1 = 0 then (if mIn (27 + x0) 926 = true then some (((Model_s v) ((27 + x0)).toNatClampNeg), v) else none) else (if x1 = 1 then (if mIn (33 + x0) 926 = true then some (((Model_s v) ((33 + x0)).toNatClampNeg), v) else none) else (if x1 = 2 then (if mIn (39 + x0) 926 = true then some (((Model_s v) ((39 + x0)).toNatClampNeg), v) else none) else (if x1 = 3 then (if mIn (8 + x0) 926 = true then some (((Model_s v) ((8 + x0)).toNatClampNeg), v) else none) else (if x1 = 4 then (if mIn (2 + x0) 926 = true then some (((Model_s v) ((2 + x0)).toNatClampNeg), v) else none) else (if x1 = 5 then (if mIn (14 + x0) 926 = true then some (((Model_s v) ((14 + x0)).toNatClampNeg), v) else none) else (if x1 = 6 then (Option.bind (fn_X8_zealOf v x0) (fun t16 => some (t16.1, t16.2))) else (if x1 = 7 then (Option.bind (fn_X8_doesOf v x0) (fun t18 => some (t18.1, t18.2))) else (if x1 = 8 then (Option.bind (fn_X8_shareOf v x0) (fun t20 => some (t20, v))) else (if x1 = 9 then (Option.bind (fn_X8_claimOf v x0) (fun t22 => some (t22, v))) else some ((-1), v))))))))))) else some ((-1), v))))

def fn_X8_row (v : ModelV) (x0 : Int32) (x1 : Int32) (x2 : Int32) : Option (Int32 × ModelV) :=
  (Option.bind (fn_X8_isPupil v x0) (fun t1 => (if t1 = 0 then some ((-1), v) else (Option.bind (fn_X8_in x1 0 3) (fun t3 => (if ¬ t3 = 0 then (Option.bind (fn_X8_in x2 0 9) (fun t5 => (if ¬ t5 = 0 then (if mIn (27 + x0) 926 = true then (if ((Model_s v) ((27 + x0)).toNatClampNeg) = 6 then (if mIn ((45 + (4 * x0)) + x1) 926 = true then (if mIn ((45 + (4 * x0)) + x1) 926 = true then some (((Model_s v) (((45 + (4 * x0)) + x1)).toNatClampNeg), (Model_s_s v (upd (Model_s v) (((45 + (4 * x0)) + x1)).toNatClampNeg x2))) else none) else none) else some ((-3), v)) else none) else some ((-2), v)))) else some ((-1), v)))))))

def fn_X8_will (v : ModelV) (x0 : Int32) (x1 : Int32) : Option (Int32 × ModelV) :=
  (Option.bind (fn_X8_isPupil v x0) (fun t1 => (if ¬ t1 = 0 then (Option.bind (fn_X8_in x1 0 99) (fun t3 => (if ¬ t3 = 0 then (if mIn (8 + x0) 926 = true then (if mIn (8 + x0) 926 = true then some (((Model_s v) ((8 + x0)).toNatClampNeg), (Model_s_s v (upd (Model_s v) ((8 + x0)).toNatClampNeg x1))) else none) else none) else some ((-2), v)))) else some ((-1), v))))

def fn_X8_out (v : ModelV) (x0 : Int32) (x1 : Int32) : Option (Int32 × ModelV) :=
  (Option.bind (fn_X8_isPupil v x0) (fun t1 => (if ¬ t1 = 0 then (if mIn (14 + x0) 926 = true then jp (fun (z0_37 : Int32) => (if mIn (14 + x0) 926 = true then some (((Model_s v) ((14 + x0)).toNatClampNeg), (Model_s_s v (upd (Model_s v) ((14 + x0)).toNatClampNeg z0_37))) else none)) (fun j37 => (if x1 = 0 then j37 0 else j37 1)) else none) else some ((-1), v))))

def fn_X8_told (v : ModelV) (x0 : Int32) : Option Int32 :=
  (if x0 = 0 then (if mIn 0 926 = true then some ((Model_s v) (0 : Int32).toNatClampNeg) else none) else (if x0 = 1 then (if mIn 1 926 = true then some ((Model_s v) (1 : Int32).toNatClampNeg) else none) else (if x0 = 2 then (Option.bind (fn_X8_goalNow v) (fun t6 => some t6)) else (if x0 = 3 then (Option.bind (fn_X8_tellsOf v 216 2) (fun t8 => some t8)) else (if x0 = 4 then (Option.bind (fn_X8_allHours v) (fun t10 => some t10)) else (if x0 = 5 then (Option.bind (fn_X8_allClaims v) (fun t12 => some t12)) else (if x0 = 6 then (Option.bind (fn_X8_baseNow v) (fun t14 => some t14)) else some (-1))))))))

def fn_X8_isRule (x0 : Int32) : Option Int32 :=
  (Option.bind (fn_X8_in x0 0 3) (fun t1 => (if mBit t1 = true then some t1 else none)))

def fn_X8_mark (v : ModelV) (x0 : Int32) (x1 : Int32) : Option Int32 :=
  (Option.bind (fn_X8_isPupil v x0) (fun t1 => (if t1 = 0 then some (-1) else (Option.bind (fn_X8_isRule x1) (fun t3 => (if t3 = 0 then some (-1) else (Option.bind (fn_X8_markOf v x0 x1) (fun t5 => some t5))))))))

def st_X8_goes_61 (z0_58 : Int32) (j226 : ModelV → Option ModelV) (rec61 : Int32 → ModelV → Option ModelV) (y3_61 : Int32) (wy_61 : ModelV) : Option ModelV :=
  (if mIn 20 926 = true then (if ((Model_s wy_61) (20 : Int32).toNatClampNeg) ≤ y3_61 then j226 wy_61 else (if mIn (2 + y3_61) 926 = true then (if mIn y3_61 6 = true then (if mIn (2 + y3_61) 926 = true then (if mIn 1 926 = true then (if mIn y3_61 6 = true then (if mIn (39 + y3_61) 926 = true then (if mIn 1 926 = true then (if mIn (14 + y3_61) 926 = true then jp (fun (wx_220 : ModelV) => rec61 (y3_61 + 1) wx_220) (fun j220 => jp (fun (_ : Unit) => (if mIn (14 + y3_61) 926 = true then (if ¬ ((upd (upd (Model_s wy_61) ((2 + y3_61)).toNatClampNeg (((Model_s wy_61) ((2 + y3_61)).toNatClampNeg) + ((Model_does wy_61) (y3_61).toNatClampNeg))) (1 : Int32).toNatClampNeg (((upd (Model_s wy_61) ((2 + y3_61)).toNatClampNeg (((Model_s wy_61) ((2 + y3_61)).toNatClampNeg) + ((Model_does wy_61) (y3_61).toNatClampNeg))) (1 : Int32).toNatClampNeg) + (((Model_does wy_61) (y3_61).toNatClampNeg) * ((upd (Model_s wy_61) ((2 + y3_61)).toNatClampNeg (((Model_s wy_61) ((2 + y3_61)).toNatClampNeg) + ((Model_does wy_61) (y3_61).toNatClampNeg))) ((39 + y3_61)).toNatClampNeg)))) ((14 + y3_61)).toNatClampNeg) = 0 then j220 (Model_s_s wy_61 (upd (upd (Model_s wy_61) ((2 + y3_61)).toNatClampNeg (((Model_s wy_61) ((2 + y3_61)).toNatClampNeg) + ((Model_does wy_61) (y3_61).toNatClampNeg))) (1 : Int32).toNatClampNeg (((upd (Model_s wy_61) ((2 + y3_61)).toNatClampNeg (((Model_s wy_61) ((2 + y3_61)).toNatClampNeg) + ((Model_does wy_61) (y3_61).toNatClampNeg))) (1 : Int32).toNatClampNeg) + (((Model_does wy_61) (y3_61).toNatClampNeg) * ((upd (Model_s wy_61) ((2 + y3_61)).toNatClampNeg (((Model_s wy_61) ((2 + y3_61)).toNatClampNeg) + ((Model_does wy_61) (y3_61).toNatClampNeg))) ((39 + y3_61)).toNatClampNeg))))) else (if mIn y3_61 6 = true then (if z0_58 ≤ ((Model_does wy_61) (y3_61).toNatClampNeg) then j220 (Model_s_s wy_61 (upd (upd (Model_s wy_61) ((2 + y3_61)).toNatClampNeg (((Model_s wy_61) ((2 + y3_61)).toNatClampNeg) + ((Model_does wy_61) (y3_61).toNatClampNeg))) (1 : Int32).toNatClampNeg (((upd (Model_s wy_61) ((2 + y3_61)).toNatClampNeg (((Model_s wy_61) ((2 + y3_61)).toNatClampNeg) + ((Model_does wy_61) (y3_61).toNatClampNeg))) (1 : Int32).toNatClampNeg) + (((Model_does wy_61) (y3_61).toNatClampNeg) * ((upd (Model_s wy_61) ((2 + y3_61)).toNatClampNeg (((Model_s wy_61) ((2 + y3_61)).toNatClampNeg) + ((Model_does wy_61) (y3_61).toNatClampNeg))) ((39 + y3_61)).toNatClampNeg))))) else (if mIn (8 + y3_61) 926 = true then (Option.bind (fn_X8_within (((upd (upd (Model_s wy_61) ((2 + y3_61)).toNatClampNeg (((Model_s wy_61) ((2 + y3_61)).toNatClampNeg) + ((Model_does wy_61) (y3_61).toNatClampNeg))) (1 : Int32).toNatClampNeg (((upd (Model_s wy_61) ((2 + y3_61)).toNatClampNeg (((Model_s wy_61) ((2 + y3_61)).toNatClampNeg) + ((Model_does wy_61) (y3_61).toNatClampNeg))) (1 : Int32).toNatClampNeg) + (((Model_does wy_61) (y3_61).toNatClampNeg) * ((upd (Model_s wy_61) ((2 + y3_61)).toNatClampNeg (((Model_s wy_61) ((2 + y3_61)).toNatClampNeg) + ((Model_does wy_61) (y3_61).toNatClampNeg))) ((39 + y3_61)).toNatClampNeg)))) ((8 + y3_61)).toNatClampNeg) + 1) 0 99) (fun t19 => (if mIn (8 + y3_61) 926 = true then j220 (Model_s_s wy_61 (upd (upd (upd (Model_s wy_61) ((2 + y3_61)).toNatClampNeg (((Model_s wy_61) ((2 + y3_61)).toNatClampNeg) + ((Model_does wy_61) (y3_61).toNatClampNeg))) (1 : Int32).toNatClampNeg (((upd (Model_s wy_61) ((2 + y3_61)).toNatClampNeg (((Model_s wy_61) ((2 + y3_61)).toNatClampNeg) + ((Model_does wy_61) (y3_61).toNatClampNeg))) (1 : Int32).toNatClampNeg) + (((Model_does wy_61) (y3_61).toNatClampNeg) * ((upd (Model_s wy_61) ((2 + y3_61)).toNatClampNeg (((Model_s wy_61) ((2 + y3_61)).toNatClampNeg) + ((Model_does wy_61) (y3_61).toNatClampNeg))) ((39 + y3_61)).toNatClampNeg)))) ((8 + y3_61)).toNatClampNeg t19)) else none))) else none)) else none)) else none)) (fun j172 => (if ¬ ((upd (upd (Model_s wy_61) ((2 + y3_61)).toNatClampNeg (((Model_s wy_61) ((2 + y3_61)).toNatClampNeg) + ((Model_does wy_61) (y3_61).toNatClampNeg))) (1 : Int32).toNatClampNeg (((upd (Model_s wy_61) ((2 + y3_61)).toNatClampNeg (((Model_s wy_61) ((2 + y3_61)).toNatClampNeg) + ((Model_does wy_61) (y3_61).toNatClampNeg))) (1 : Int32).toNatClampNeg) + (((Model_does wy_61) (y3_61).toNatClampNeg) * ((upd (Model_s wy_61) ((2 + y3_61)).toNatClampNeg (((Model_s wy_61) ((2 + y3_61)).toNatClampNeg) + ((Model_does wy_61) (y3_61).toNatClampNeg))) ((39 + y3_61)).toNatClampNeg)))) ((14 + y3_61)).toNatClampNeg) = 0 then j172 () else (if mIn y3_61 6 = true then (if ((Model_does wy_61) (y3_61).toNatClampNeg) ≤ z0_58 then j172 () else (if mIn (8 + y3_61) 926 = true then (Option.bind (fn_X8_tellsOf (Model_s_s wy_61 (upd (upd (Model_s wy_61) ((2 + y3_61)).toNatClampNeg (((Model_s wy_61) ((2 + y3_61)).toNatClampNeg) + ((Model_does wy_61) (y3_61).toNatClampNeg))) (1 : Int32).toNatClampNeg (((upd (Model_s wy_61) ((2 + y3_61)).toNatClampNeg (((Model_s wy_61) ((2 + y3_61)).toNatClampNeg) + ((Model_does wy_61) (y3_61).toNatClampNeg))) (1 : Int32).toNatClampNeg) + (((Model_does wy_61) (y3_61).toNatClampNeg) * ((upd (Model_s wy_61) ((2 + y3_61)).toNatClampNeg (((Model_s wy_61) ((2 + y3_61)).toNatClampNeg) + ((Model_does wy_61) (y3_61).toNatClampNeg))) ((39 + y3_61)).toNatClampNeg))))) 216 2) (fun t25 => (Option.bind (fn_X8_within (((upd (upd (Model_s wy_61) ((2 + y3_61)).toNatClampNeg (((Model_s wy_61) ((2 + y3_61)).toNatClampNeg) + ((Model_does wy_61) (y3_61).toNatClampNeg))) (1 : Int32).toNatClampNeg (((upd (Model_s wy_61) ((2 + y3_61)).toNatClampNeg (((Model_s wy_61) ((2 + y3_61)).toNatClampNeg) + ((Model_does wy_61) (y3_61).toNatClampNeg))) (1 : Int32).toNatClampNeg) + (((Model_does wy_61) (y3_61).toNatClampNeg) * ((upd (Model_s wy_61) ((2 + y3_61)).toNatClampNeg (((Model_s wy_61) ((2 + y3_61)).toNatClampNeg) + ((Model_does wy_61) (y3_61).toNatClampNeg))) ((39 + y3_61)).toNatClampNeg)))) ((8 + y3_61)).toNatClampNeg) - t25) 0 99) (fun t26 => (if mIn (8 + y3_61) 926 = true then j220 (Model_s_s wy_61 (upd (upd (upd (Model_s wy_61) ((2 + y3_61)).toNatClampNeg (((Model_s wy_61) ((2 + y3_61)).toNatClampNeg) + ((Model_does wy_61) (y3_61).toNatClampNeg))) (1 : Int32).toNatClampNeg (((upd (Model_s wy_61) ((2 + y3_61)).toNatClampNeg (((Model_s wy_61) ((2 + y3_61)).toNatClampNeg) + ((Model_does wy_61) (y3_61).toNatClampNeg))) (1 : Int32).toNatClampNeg) + (((Model_does wy_61) (y3_61).toNatClampNeg) * ((upd (Model_s wy_61) ((2 + y3_61)).toNatClampNeg (((Model_s wy_61) ((2 + y3_61)).toNatClampNeg) + ((Model_does wy_61) (y3_61).toNatClampNeg))) ((39 + y3_61)).toNatClampNeg)))) ((8 + y3_61)).toNatClampNeg t26)) else none))))) else none)) else none)))) else none) else none) else none) else none) else none) else none) else none) else none)) else none)
def lp_X8_goes_61 (z0_58 : Int32) (j226 : ModelV → Option ModelV) : Nat → Int32 → ModelV → Option ModelV
  | 0 => fun _ _ => none
  | n + 1 => st_X8_goes_61 z0_58 j226 (lp_X8_goes_61 z0_58 j226 n)
def st_X8_goes_4 (j41 : Int32 → ModelV → Option ModelV) (rec4 : Int32 → Int32 → ModelV → Option ModelV) (y1_4 : Int32) (y2_4 : Int32) (wy_4 : ModelV) : Option ModelV :=
  (if mIn 20 926 = true then (if ((Model_s wy_4) (20 : Int32).toNatClampNeg) ≤ y2_4 then j41 y1_4 wy_4 else (Option.bind (fn_X8_doesOf wy_4 y2_4) (fun t33 => (if mIn y2_4 6 = true then (if mIn y2_4 6 = true then rec4 (y1_4 + ((upd (Model_does t33.2) (y2_4).toNatClampNeg t33.1) (y2_4).toNatClampNeg)) (y2_4 + 1) (Model_does_s t33.2 (upd (Model_does t33.2) (y2_4).toNatClampNeg t33.1)) else none) else none)))) else none)
def lp_X8_goes_4 (j41 : Int32 → ModelV → Option ModelV) : Nat → Int32 → Int32 → ModelV → Option ModelV
  | 0 => fun _ _ _ => none
  | n + 1 => st_X8_goes_4 j41 (lp_X8_goes_4 j41 n)
def fn_X8_goes (v : ModelV) : Option ModelV :=
  jp (fun (x1_41 : Int32) (wx_41 : ModelV) => (Option.bind (fn_X8_manyIn wx_41) (fun t1 => jp (fun (z0_58 : Int32) => jp (fun (wx_226 : ModelV) => (if mIn 0 926 = true then (if mIn 0 926 = true then some (Model_s_s wx_226 (upd (Model_s wx_226) (0 : Int32).toNatClampNeg (((Model_s wx_226) (0 : Int32).toNatClampNeg) + 1))) else none) else none)) (fun j226 => lp_X8_goes_61 z0_58 j226 m_N 0 wx_41)) (fun j58 => (if ¬ t1 = 0 then (Option.bind (fn_X8_manyIn wx_41) (fun t29 => (if ¬ t29 = 0 then j58 (x1_41 / t29) else none))) else j58 0))))) (fun j41 => lp_X8_goes_4 j41 m_N 0 0 v)

def st_X8_goesOn_2 (x0 : Int32) (rec2 : Int32 → ModelV → Option ModelV) (y2_2 : Int32) (wy_2 : ModelV) : Option ModelV :=
  (if x0 ≤ y2_2 then some wy_2 else (Option.bind (fn_X8_goes wy_2) (fun t2 => rec2 (y2_2 + 1) t2)))
def lp_X8_goesOn_2 (x0 : Int32) : Nat → Int32 → ModelV → Option ModelV
  | 0 => fun _ _ => none
  | n + 1 => st_X8_goesOn_2 x0 (lp_X8_goesOn_2 x0 n)
def fn_X8_goesOn (v : ModelV) (x0 : Int32) : Option ModelV :=
  lp_X8_goesOn_2 x0 m_N 0 v

def st_X8_pass_61 (j101 : ModelV → Option (Int32 × ModelV)) (rec61 : Int32 → ModelV → Option (Int32 × ModelV)) (y3_61 : Int32) (wy_61 : ModelV) : Option (Int32 × ModelV) :=
  (if mIn 20 926 = true then (if ((Model_s wy_61) (20 : Int32).toNatClampNeg) ≤ y3_61 then j101 wy_61 else (if mIn (2 + y3_61) 926 = true then (Option.bind (fn_X8_within ((Model_s wy_61) ((2 + y3_61)).toNatClampNeg) 0 9999) (fun t14 => (if mIn (2 + y3_61) 926 = true then rec61 (y3_61 + 1) (Model_s_s wy_61 (upd (Model_s wy_61) ((2 + y3_61)).toNatClampNeg t14)) else none))) else none)) else none)
def lp_X8_pass_61 (j101 : ModelV → Option (Int32 × ModelV)) : Nat → Int32 → ModelV → Option (Int32 × ModelV)
  | 0 => fun _ _ => none
  | n + 1 => st_X8_pass_61 j101 (lp_X8_pass_61 j101 n)
def st_X8_pass_32 (x0 : Int32) (j107 : ModelV → Option (Int32 × ModelV)) (rec32 : Int32 → ModelV → Option (Int32 × ModelV)) (y2_32 : Int32) (wy_32 : ModelV) : Option (Int32 × ModelV) :=
  (if x0 ≤ y2_32 then j107 wy_32 else (Option.bind (fn_X8_goes wy_32) (fun t7 => (if mIn 1 926 = true then (Option.bind (fn_X8_within ((Model_s t7) (1 : Int32).toNatClampNeg) 0 99999) (fun t9 => (if mIn 1 926 = true then jp (fun (wx_101 : ModelV) => rec32 (y2_32 + 1) wx_101) (fun j101 => lp_X8_pass_61 j101 m_N 0 (Model_s_s t7 (upd (Model_s t7) (1 : Int32).toNatClampNeg t9))) else none))) else none))))
def lp_X8_pass_32 (x0 : Int32) (j107 : ModelV → Option (Int32 × ModelV)) : Nat → Int32 → ModelV → Option (Int32 × ModelV)
  | 0 => fun _ _ => none
  | n + 1 => st_X8_pass_32 x0 j107 (lp_X8_pass_32 x0 j107 n)
def fn_X8_pass (v : ModelV) (x0 : Int32) : Option (Int32 × ModelV) :=
  (Option.bind (fn_X8_in x0 0 60) (fun t1 => (if ¬ t1 = 0 then (if mIn 0 926 = true then (if (((Model_s v) (0 : Int32).toNatClampNeg) + x0) ≤ 9999 then jp (fun (wx_107 : ModelV) => (if mIn 1 926 = true then some (((Model_s wx_107) (1 : Int32).toNatClampNeg), wx_107) else none)) (fun j107 => lp_X8_pass_32 x0 j107 m_N 0 v) else some ((-3), v)) else none) else some ((-2), v))))

def fn_X8_workMore (v : ModelV) : Option Int32 :=
  (if mIn 1 926 = true then (if mIn 1 20 = true then some (((Model_s v) (1 : Int32).toNatClampNeg) - ((Model_frame v) (1 : Int32).toNatClampNeg)) else none) else none)

def fn_X8_hoursMore (v : ModelV) (x0 : Int32) : Option Int32 :=
  (if mIn (2 + x0) 926 = true then (if mIn (2 + x0) 20 = true then some (((Model_s v) ((2 + x0)).toNatClampNeg) - ((Model_frame v) ((2 + x0)).toNatClampNeg)) else none) else none)

def st_X8_allMore_4 (v : ModelV) (rec4 : Int32 → Int32 → Option Int32) (y1_4 : Int32) (y2_4 : Int32) : Option Int32 :=
  (if mIn 20 926 = true then (if ((Model_s v) (20 : Int32).toNatClampNeg) ≤ y2_4 then some y1_4 else (Option.bind (fn_X8_hoursMore v y2_4) (fun t3 => rec4 (y1_4 + t3) (y2_4 + 1)))) else none)
def lp_X8_allMore_4 (v : ModelV) : Nat → Int32 → Int32 → Option Int32
  | 0 => fun _ _ => none
  | n + 1 => st_X8_allMore_4 v (lp_X8_allMore_4 v n)
def fn_X8_allMore (v : ModelV) : Option Int32 :=
  lp_X8_allMore_4 v m_N 0 0

def fn_X8_on (v : ModelV) (x0 : Int32) (x1 : Int32) : Option (Int32 × ModelV) :=
  (Option.bind (fn_X8_in x1 0 1) (fun t1 => jp (fun (_ : Unit) => (Option.bind (fn_X8_in x0 0 60) (fun t2 => (if ¬ t2 = 0 then (Option.bind (fn_X8_keeps v) (fun t4 => (Option.bind (fn_X8_goesOn t4 x0) (fun t5 => jp (fun (z0_107 : Int32) => (Option.bind (fn_X8_goesBack t5) (fun t6 => some (z0_107, t6)))) (fun j107 => (if ¬ x1 = 0 then (if ¬ x1 = 1 then (if 20 ≤ x1 then (if mIn ((8 + x1) - 20) 926 = true then j107 ((Model_s t5) (((8 + x1) - 20)).toNatClampNeg) else none) else (Option.bind (fn_X8_hoursMore t5 (x1 - 10)) (fun t11 => j107 t11))) else (Option.bind (fn_X8_allMore t5) (fun t12 => j107 t12))) else (Option.bind (fn_X8_workMore t5) (fun t13 => j107 t13)))))))) else some ((-2), v))))) (fun j33 => (if ¬ t1 = 0 then j33 () else (Option.bind (fn_X8_isPupil v (x1 - 10)) (fun t15 => (if ¬ t15 = 0 then j33 () else (Option.bind (fn_X8_isPupil v (x1 - 20)) (fun t17 => (if ¬ t17 = 0 then j33 () else some ((-1), v)))))))))))

def st_X8_ready_9 (j51 : Int32 → ModelV → Option (Int32 × ModelV)) (rec9 : Int32 → Int32 → ModelV → Option (Int32 × ModelV)) (y1_9 : Int32) (y2_9 : Int32) (wy_9 : ModelV) : Option (Int32 × ModelV) :=
  (if 60 < y2_9 then j51 y1_9 wy_9 else (if ¬ y1_9 = (-5) then j51 y1_9 wy_9 else (if mIn 1 926 = true then (Option.bind (fn_X8_goalNow wy_9) (fun t6 => jp (fun (z0_40 : Int32) => (Option.bind (fn_X8_goes wy_9) (fun t7 => rec9 z0_40 (y2_9 + 1) t7))) (fun j40 => (if ((Model_s wy_9) (1 : Int32).toNatClampNeg) < t6 then j40 (-5) else j40 y2_9)))) else none)))
def lp_X8_ready_9 (j51 : Int32 → ModelV → Option (Int32 × ModelV)) : Nat → Int32 → Int32 → ModelV → Option (Int32 × ModelV)
  | 0 => fun _ _ _ => none
  | n + 1 => st_X8_ready_9 j51 (lp_X8_ready_9 j51 n)
def fn_X8_ready (v : ModelV) : Option (Int32 × ModelV) :=
  (Option.bind (fn_X8_keeps v) (fun t1 => jp (fun (x1_51 : Int32) (wx_51 : ModelV) => (Option.bind (fn_X8_goesBack wx_51) (fun t2 => some (x1_51, t2)))) (fun j51 => lp_X8_ready_9 j51 m_N (-5) 0 t1)))

def st_X8_spread_17 (v : ModelV) (x0 : Int32) (j96 : Int32 → Int32 → Option Int32) (rec17 : Int32 → Int32 → Int32 → Option Int32) (y2_17 : Int32) (y3_17 : Int32) (y4_17 : Int32) : Option Int32 :=
  (if mIn 20 926 = true then (if ((Model_s v) (20 : Int32).toNatClampNeg) ≤ y4_17 then j96 y2_17 y3_17 else (Option.bind (fn_X8_markOf v y4_17 x0) (fun t6 => (if mIn (14 + y4_17) 926 = true then jp (fun (z0_63 : Int32) => (if mIn (14 + y4_17) 926 = true then jp (fun (z0_89 : Int32) => rec17 z0_63 z0_89 (y4_17 + 1)) (fun j89 => jp (fun (_ : Unit) => j89 y3_17) (fun j88 => (if ¬ ((Model_s v) ((14 + y4_17)).toNatClampNeg) = 0 then j88 () else (if y3_17 ≤ t6 then j88 () else j89 t6)))) else none)) (fun j63 => jp (fun (_ : Unit) => j63 y2_17) (fun j62 => (if ¬ ((Model_s v) ((14 + y4_17)).toNatClampNeg) = 0 then j62 () else (if t6 ≤ y2_17 then j62 () else j63 t6)))) else none)))) else none)
def lp_X8_spread_17 (v : ModelV) (x0 : Int32) (j96 : Int32 → Int32 → Option Int32) : Nat → Int32 → Int32 → Int32 → Option Int32
  | 0 => fun _ _ _ => none
  | n + 1 => st_X8_spread_17 v x0 j96 (lp_X8_spread_17 v x0 j96 n)
def fn_X8_spread (v : ModelV) (x0 : Int32) : Option Int32 :=
  (Option.bind (fn_X8_isRule x0) (fun t1 => (if ¬ t1 = 0 then jp (fun (x2_96 : Int32) (x3_96 : Int32) => (if ¬ x2_96 = (-1) then some (x2_96 - x3_96) else some 0)) (fun j96 => lp_X8_spread_17 v x0 j96 m_N (-1) 1000000000 0) else some (-1))))

def st_X8_farFrom_4 (v : ModelV) (x0 : Int32) (rec4 : Int32 → Int32 → Option Int32) (y2_4 : Int32) (y3_4 : Int32) : Option Int32 :=
  (if mIn 20 926 = true then (if ((Model_s v) (20 : Int32).toNatClampNeg) ≤ y3_4 then some y2_4 else (Option.bind (fn_X8_markOf v y3_4 x0) (fun t3 => (Option.bind (fn_X8_markOf v y3_4 1) (fun t4 => (Option.bind (fn_X8_size (t3 - t4)) (fun t5 => rec4 (y2_4 + t5) (y3_4 + 1)))))))) else none)
def lp_X8_farFrom_4 (v : ModelV) (x0 : Int32) : Nat → Int32 → Int32 → Option Int32
  | 0 => fun _ _ => none
  | n + 1 => st_X8_farFrom_4 v x0 (lp_X8_farFrom_4 v x0 n)
def fn_X8_farFrom (v : ModelV) (x0 : Int32) : Option Int32 :=
  lp_X8_farFrom_4 v x0 m_N 0 0

def fn_X8_nearest (v : ModelV) : Option Int32 :=
  (Option.bind (fn_X8_farFrom v 2) (fun t1 => (Option.bind (fn_X8_farFrom v 0) (fun t2 => jp (fun (z0_20 : Int32) => (Option.bind (fn_X8_farFrom v 3) (fun t3 => (Option.bind (fn_X8_farFrom v z0_20) (fun t4 => (if t4 ≤ t3 then some z0_20 else some 3)))))) (fun j20 => (if t2 ≤ t1 then j20 0 else j20 2))))))

def st_X8_workBy_6 (x0 : Int32) (j46 : ModelV → Option (Int32 × ModelV)) (rec6 : Int32 → ModelV → Option (Int32 × ModelV)) (y3_6 : Int32) (wy_6 : ModelV) : Option (Int32 × ModelV) :=
  (if mIn 20 926 = true then (if ((Model_s wy_6) (20 : Int32).toNatClampNeg) ≤ y3_6 then j46 wy_6 else jp (fun (z0_39 : Int32) => (if mIn (14 + y3_6) 926 = true then rec6 (y3_6 + 1) (Model_s_s wy_6 (upd (Model_s wy_6) ((14 + y3_6)).toNatClampNeg z0_39)) else none)) (fun j39 => (if ¬ ((x0 >>> (y3_6 &&& 31)) &&& 1) = 1 then j39 1 else j39 0))) else none)
def lp_X8_workBy_6 (x0 : Int32) (j46 : ModelV → Option (Int32 × ModelV)) : Nat → Int32 → ModelV → Option (Int32 × ModelV)
  | 0 => fun _ _ => none
  | n + 1 => st_X8_workBy_6 x0 j46 (lp_X8_workBy_6 x0 j46 n)
def fn_X8_workBy (v : ModelV) (x0 : Int32) (x1 : Int32) : Option (Int32 × ModelV) :=
  (Option.bind (fn_X8_keeps v) (fun t1 => jp (fun (wx_46 : ModelV) => (Option.bind (fn_X8_goesOn wx_46 x1) (fun t2 => (Option.bind (fn_X8_workMore t2) (fun t3 => (Option.bind (fn_X8_goesBack t2) (fun t4 => some (t3, t4)))))))) (fun j46 => lp_X8_workBy_6 x0 j46 m_N 0 t1)))

def st_X8_setIn_4 (v : ModelV) (rec4 : Int32 → Int32 → Option Int32) (y1_4 : Int32) (y2_4 : Int32) : Option Int32 :=
  (if mIn 20 926 = true then (if ((Model_s v) (20 : Int32).toNatClampNeg) ≤ y2_4 then some y1_4 else (if mIn (14 + y2_4) 926 = true then jp (fun (z0_35 : Int32) => rec4 (y1_4 ||| z0_35) (y2_4 + 1)) (fun j35 => (if ¬ ((Model_s v) ((14 + y2_4)).toNatClampNeg) = 0 then j35 0 else j35 ((1 : Int32) <<< (y2_4 &&& 31)))) else none)) else none)
def lp_X8_setIn_4 (v : ModelV) : Nat → Int32 → Int32 → Option Int32
  | 0 => fun _ _ => none
  | n + 1 => st_X8_setIn_4 v (lp_X8_setIn_4 v n)
def fn_X8_setIn (v : ModelV) : Option Int32 :=
  lp_X8_setIn_4 v m_N 0 0

def st_X8_throwOut_16  (rec16 : Int32 → Int32 → Int32 → ModelV → Option (Int32 × ModelV)) (y1_16 : Int32) (y2_16 : Int32) (y3_16 : Int32) (wy_16 : ModelV) : Option (Int32 × ModelV) :=
  (if mIn 20 926 = true then (if ((Model_s wy_16) (20 : Int32).toNatClampNeg) ≤ y3_16 then some (y2_16, wy_16) else (if mIn (14 + y3_16) 926 = true then jp (fun (z0_59 : Int32) (wx_59 : ModelV) => jp (fun (z0_72 : Int32) => jp (fun (z0_85 : Int32) => rec16 z0_85 z0_72 (y3_16 + 1) wx_59) (fun j85 => (if z0_59 ≤ y1_16 then j85 y1_16 else j85 z0_59))) (fun j72 => (if z0_59 ≤ y1_16 then j72 y2_16 else j72 y3_16))) (fun j59 => (if ¬ ((Model_s wy_16) ((14 + y3_16)).toNatClampNeg) = 0 then j59 (-1) wy_16 else (Option.bind (fn_X8_setIn wy_16) (fun t9 => (Option.bind (fn_X8_workBy wy_16 (t9 &&& (((1 : Int32) <<< (y3_16 &&& 31)) ^^^ (-1))) 20) (fun t10 => j59 t10.1 t10.2)))))) else none)) else none)
def lp_X8_throwOut_16  : Nat → Int32 → Int32 → Int32 → ModelV → Option (Int32 × ModelV)
  | 0 => fun _ _ _ _ => none
  | n + 1 => st_X8_throwOut_16  (lp_X8_throwOut_16  n)
def fn_X8_throwOut (v : ModelV) : Option (Int32 × ModelV) :=
  (Option.bind (fn_X8_setIn v) (fun t1 => (Option.bind (fn_X8_workBy v t1 20) (fun t2 => lp_X8_throwOut_16  m_N t2.1 (-5) 0 t2.2))))

def fn_X8_alone (v : ModelV) (x0 : Int32) : Option (Int32 × ModelV) :=
  (Option.bind (fn_X8_isPupil v x0) (fun t1 => (if t1 = 0 then some ((-1), v) else (Option.bind (fn_X8_workBy v ((1 : Int32) <<< (x0 &&& 31)) 20) (fun t3 => some (t3.1, t3.2))))))

def st_X8_countOf_4 (x0 : Int32) (rec4 : Int32 → Int32 → Option Int32) (y1_4 : Int32) (y2_4 : Int32) : Option Int32 :=
  (if 6 ≤ y2_4 then some y1_4 else rec4 (y1_4 + ((x0 >>> (y2_4 &&& 31)) &&& 1)) (y2_4 + 1))
def lp_X8_countOf_4 (x0 : Int32) : Nat → Int32 → Int32 → Option Int32
  | 0 => fun _ _ => none
  | n + 1 => st_X8_countOf_4 x0 (lp_X8_countOf_4 x0 n)
def fn_X8_countOf (x0 : Int32) : Option Int32 :=
  lp_X8_countOf_4 x0 m_N 0 0

def fn_X8_everybody (v : ModelV) : Option Int32 :=
  (if mIn 20 926 = true then some (((1 : Int32) <<< (((Model_s v) (20 : Int32).toNatClampNeg) &&& 31)) - 1) else none)

def st_X8_team_34 (x0 : Int32) (j103 : Int32 → Int32 → ModelV → Option (Int32 × ModelV)) (rec34 : Int32 → Int32 → Int32 → ModelV → Option (Int32 × ModelV)) (y3_34 : Int32) (y4_34 : Int32) (y5_34 : Int32) (wy_34 : ModelV) : Option (Int32 × ModelV) :=
  (Option.bind (fn_X8_everybody wy_34) (fun t6 => (if t6 < y5_34 then j103 y3_34 y4_34 wy_34 else (Option.bind (fn_X8_countOf y5_34) (fun t8 => jp (fun (z0_65 : Int32) (wx_65 : ModelV) => jp (fun (z0_80 : Int32) => jp (fun (z0_95 : Int32) => rec34 z0_80 z0_95 (y5_34 + 1) wx_65) (fun j95 => (if z0_65 ≤ y4_34 then j95 y4_34 else j95 z0_65))) (fun j80 => (if z0_65 ≤ y4_34 then j80 y3_34 else j80 y5_34))) (fun j65 => (if ¬ t8 = x0 then j65 (-5) wy_34 else (Option.bind (fn_X8_workBy wy_34 y5_34 10) (fun t12 => j65 t12.1 t12.2)))))))))
def lp_X8_team_34 (x0 : Int32) (j103 : Int32 → Int32 → ModelV → Option (Int32 × ModelV)) : Nat → Int32 → Int32 → Int32 → ModelV → Option (Int32 × ModelV)
  | 0 => fun _ _ _ _ => none
  | n + 1 => st_X8_team_34 x0 j103 (lp_X8_team_34 x0 j103 n)
def fn_X8_team (v : ModelV) (x0 : Int32) (x1 : Int32) : Option (Int32 × ModelV) :=
  (Option.bind (fn_X8_in x1 0 1) (fun t1 => (if ¬ t1 = 0 then (Option.bind (fn_X8_in x0 1 6) (fun t3 => (if ¬ t3 = 0 then jp (fun (x3_103 : Int32) (x4_103 : Int32) (wx_103 : ModelV) => (if ¬ x1 = 0 then some (x4_103, wx_103) else some (x3_103, wx_103))) (fun j103 => lp_X8_team_34 x0 j103 m_N (-5) (-5) 1 v) else some ((-2), v)))) else some ((-1), v))))

def st_X8_split_20 (j90 : Int32 → Int32 → ModelV → Option (Int32 × ModelV)) (rec20 : Int32 → Int32 → Int32 → ModelV → Option (Int32 × ModelV)) (y2_20 : Int32) (y3_20 : Int32) (y4_20 : Int32) (wy_20 : ModelV) : Option (Int32 × ModelV) :=
  (Option.bind (fn_X8_everybody wy_20) (fun t5 => (if t5 ≤ y4_20 then j90 y2_20 y3_20 wy_20 else (Option.bind (fn_X8_workBy wy_20 y4_20 10) (fun t7 => (Option.bind (fn_X8_everybody t7.2) (fun t8 => (Option.bind (fn_X8_workBy t7.2 (t8 &&& (y4_20 ^^^ (-1))) 10) (fun t9 => (Option.bind (fn_X8_size (t7.1 - t9.1)) (fun t10 => jp (fun (z0_70 : Int32) => jp (fun (z0_83 : Int32) => rec20 z0_70 z0_83 (y4_20 + 2) t9.2) (fun j83 => (if y3_20 ≤ t10 then j83 y3_20 else j83 t10))) (fun j70 => (if y3_20 ≤ t10 then j70 y2_20 else j70 y4_20)))))))))))))
def lp_X8_split_20 (j90 : Int32 → Int32 → ModelV → Option (Int32 × ModelV)) : Nat → Int32 → Int32 → Int32 → ModelV → Option (Int32 × ModelV)
  | 0 => fun _ _ _ _ => none
  | n + 1 => st_X8_split_20 j90 (lp_X8_split_20 j90 n)
def fn_X8_split (v : ModelV) (x0 : Int32) : Option (Int32 × ModelV) :=
  (Option.bind (fn_X8_in x0 0 1) (fun t1 => (if ¬ t1 = 0 then jp (fun (x2_90 : Int32) (x3_90 : Int32) (wx_90 : ModelV) => jp (fun (_ : Unit) => some (x2_90, wx_90)) (fun j100 => (if x0 = 0 then j100 () else (if ¬ x2_90 = (-5) then some (x3_90, wx_90) else j100 ())))) (fun j90 => lp_X8_split_20 j90 m_N (-5) 1000000000 1 v) else some ((-1), v))))

def st_X8_factorial_4 (x0 : Int32) (rec4 : Int64 → Int32 → Option Int64) (y1_4 : Int64) (y3_4 : Int32) : Option Int64 :=
  (if x0 < y3_4 then some y1_4 else rec4 (y1_4 * (y3_4).toInt64) (y3_4 + 1))
def lp_X8_factorial_4 (x0 : Int32) : Nat → Int64 → Int32 → Option Int64
  | 0 => fun _ _ => none
  | n + 1 => st_X8_factorial_4 x0 (lp_X8_factorial_4 x0 n)
def fn_X8_factorial (x0 : Int32) : Option Int64 :=
  lp_X8_factorial_4 x0 m_N (1 : Int64) 2

def st_X8_lowest_17 (j42 : Int64 → Option Int64) (rec17 : Int64 → Int64 → Option Int64) (y5_17 : Int64) (y7_17 : Int64) : Option Int64 :=
  (if (lg_cmp y7_17 (0 : Int64)) = 0 then j42 y5_17 else (if ¬ y7_17 = 0 then rec17 y7_17 (mRemL y5_17 y7_17) else none))
def lp_X8_lowest_17 (j42 : Int64 → Option Int64) : Nat → Int64 → Int64 → Option Int64
  | 0 => fun _ _ => none
  | n + 1 => st_X8_lowest_17 j42 (lp_X8_lowest_17 j42 n)
def fn_X8_lowest (x0 : Int64) (x1 : Int64) (x2 : Int32) : Option Int64 :=
  jp (fun (z0_12 : Int64) => jp (fun (x5_42 : Int64) => jp (fun (z0_52 : Int64) => (if ¬ x5_42 = 0 then some (z0_52 / x5_42) else none)) (fun j52 => (if ¬ x2 = 0 then j52 x1 else j52 x0))) (fun j42 => lp_X8_lowest_17 j42 m_N z0_12 x1)) (fun j12 => (if 0 ≤ (lg_cmp x0 (0 : Int64)) then j12 x0 else j12 (-x0)))

def fn_X8_see (v : ModelV) (x0 : Int32) (x1 : Int32) : Option (Int32 × ModelV) :=
  (if ¬ x0 = (-1) then (Option.bind (fn_X8_in x0 0 99999) (fun t2 => (if t2 = 0 then some ((-2), v) else (Option.bind (fn_X8_in x1 0 20) (fun t4 => (if ¬ t4 = 0 then (if mIn 22 926 = true then (if ¬ ((Model_s v) (22 : Int32).toNatClampNeg) = 5 then (if mIn 22 926 = true then (if mIn (69 + ((Model_s v) (22 : Int32).toNatClampNeg)) 926 = true then (if mIn 22 926 = true then (if mIn (74 + ((upd (Model_s v) ((69 + ((Model_s v) (22 : Int32).toNatClampNeg))).toNatClampNeg x0) (22 : Int32).toNatClampNeg)) 926 = true then (if mIn 22 926 = true then (if mIn 22 926 = true then (if mIn 22 926 = true then some (((upd (upd (upd (Model_s v) ((69 + ((Model_s v) (22 : Int32).toNatClampNeg))).toNatClampNeg x0) ((74 + ((upd (Model_s v) ((69 + ((Model_s v) (22 : Int32).toNatClampNeg))).toNatClampNeg x0) (22 : Int32).toNatClampNeg))).toNatClampNeg x1) (22 : Int32).toNatClampNeg (((upd (upd (Model_s v) ((69 + ((Model_s v) (22 : Int32).toNatClampNeg))).toNatClampNeg x0) ((74 + ((upd (Model_s v) ((69 + ((Model_s v) (22 : Int32).toNatClampNeg))).toNatClampNeg x0) (22 : Int32).toNatClampNeg))).toNatClampNeg x1) (22 : Int32).toNatClampNeg) + 1)) (22 : Int32).toNatClampNeg), (Model_s_s v (upd (upd (upd (Model_s v) ((69 + ((Model_s v) (22 : Int32).toNatClampNeg))).toNatClampNeg x0) ((74 + ((upd (Model_s v) ((69 + ((Model_s v) (22 : Int32).toNatClampNeg))).toNatClampNeg x0) (22 : Int32).toNatClampNeg))).toNatClampNeg x1) (22 : Int32).toNatClampNeg (((upd (upd (Model_s v) ((69 + ((Model_s v) (22 : Int32).toNatClampNeg))).toNatClampNeg x0) ((74 + ((upd (Model_s v) ((69 + ((Model_s v) (22 : Int32).toNatClampNeg))).toNatClampNeg x0) (22 : Int32).toNatClampNeg))).toNatClampNeg x1) (22 : Int32).toNatClampNeg) + 1)))) else none) else none) else none) else none) else none) else none) else none) else some ((-4), v)) else none) else some ((-2), v))))))) else (if mIn 22 926 = true then some (0, (Model_s_s v (upd (Model_s v) (22 : Int32).toNatClampNeg 0))) else none))

def st_X8_isAsSeen_4 (v : ModelV) (x0 : Int32) (rec4 : Int32 → Int32 → Option Int32) (y2_4 : Int32) (y3_4 : Int32) : Option Int32 :=
  (if mIn 22 926 = true then (if ((Model_s v) (22 : Int32).toNatClampNeg) ≤ y3_4 then (if mBit y2_4 = true then some y2_4 else none) else jp (fun (z0_53 : Int32) => rec4 z0_53 (y3_4 + 1)) (fun j53 => jp (fun (_ : Unit) => j53 0) (fun j52 => (if y2_4 = 0 then j52 () else (if mIn (74 + y3_4) 926 = true then jp (fun (_ : Unit) => j53 1) (fun j48 => (if ¬ ((Model_s v) ((74 + y3_4)).toNatClampNeg) = x0 then j48 () else (Option.bind (fn_X8_workMore v) (fun t7 => (if mIn (69 + y3_4) 926 = true then (if ¬ t7 = ((Model_s v) ((69 + y3_4)).toNatClampNeg) then j52 () else j48 ()) else none))))) else none))))) else none)
def lp_X8_isAsSeen_4 (v : ModelV) (x0 : Int32) : Nat → Int32 → Int32 → Option Int32
  | 0 => fun _ _ => none
  | n + 1 => st_X8_isAsSeen_4 v x0 (lp_X8_isAsSeen_4 v x0 n)
def fn_X8_isAsSeen (v : ModelV) (x0 : Int32) : Option Int32 :=
  lp_X8_isAsSeen_4 v x0 m_N 1 0

def st_X8_areAsSeen_8 (j34 : Int32 → ModelV → Option (Int32 × ModelV)) (rec8 : Int32 → Int32 → ModelV → Option (Int32 × ModelV)) (y1_8 : Int32) (y2_8 : Int32) (wy_8 : ModelV) : Option (Int32 × ModelV) :=
  (if 20 < y2_8 then j34 y1_8 wy_8 else (if y1_8 = 0 then j34 y1_8 wy_8 else (Option.bind (fn_X8_isAsSeen wy_8 y2_8) (fun t6 => (Option.bind (fn_X8_goes wy_8) (fun t7 => rec8 t6 (y2_8 + 1) t7))))))
def lp_X8_areAsSeen_8 (j34 : Int32 → ModelV → Option (Int32 × ModelV)) : Nat → Int32 → Int32 → ModelV → Option (Int32 × ModelV)
  | 0 => fun _ _ _ => none
  | n + 1 => st_X8_areAsSeen_8 j34 (lp_X8_areAsSeen_8 j34 n)
def fn_X8_areAsSeen (v : ModelV) : Option (Int32 × ModelV) :=
  (Option.bind (fn_X8_keeps v) (fun t1 => jp (fun (x1_34 : Int32) (wx_34 : ModelV) => (Option.bind (fn_X8_goesBack wx_34) (fun t2 => (if mBit x1_34 = true then some (x1_34, t2) else none)))) (fun j34 => lp_X8_areAsSeen_8 j34 m_N 1 0 t1)))

def st_X8_looksForFitting_22 (x0 : Int32) (x1 : Int32) (j85 : ModelV → Option ModelV) (rec22 : Int32 → ModelV → Option ModelV) (y5_22 : Int32) (wy_22 : ModelV) : Option ModelV :=
  (if y5_22 < x1 then j85 wy_22 else (if mIn x0 926 = true then (Option.bind (fn_X8_areAsSeen (Model_s_s wy_22 (upd (Model_s wy_22) (x0).toNatClampNeg y5_22))) (fun t5 => jp (fun (z0_57 : Int32) => jp (fun (z0_76 : Int32) => rec22 (y5_22 + (-1)) (Model_firstFitting_s (Model_fitting_s t5.2 ((Model_fitting t5.2) + z0_57)) z0_76)) (fun j76 => (if t5.1 = 0 then j76 (Model_firstFitting t5.2) else j76 y5_22))) (fun j57 => (if t5.1 = 0 then j57 0 else j57 1)))) else none))
def lp_X8_looksForFitting_22 (x0 : Int32) (x1 : Int32) (j85 : ModelV → Option ModelV) : Nat → Int32 → ModelV → Option ModelV
  | 0 => fun _ _ => none
  | n + 1 => st_X8_looksForFitting_22 x0 x1 j85 (lp_X8_looksForFitting_22 x0 x1 j85 n)
def fn_X8_looksForFitting (v : ModelV) (x0 : Int32) (x1 : Int32) (x2 : Int32) : Option ModelV :=
  (if mIn x0 926 = true then jp (fun (wx_85 : ModelV) => (if mIn x0 926 = true then some (Model_s_s wx_85 (upd (Model_s wx_85) (x0).toNatClampNeg ((Model_s v) (x0).toNatClampNeg))) else none)) (fun j85 => lp_X8_looksForFitting_22 x0 x1 j85 m_N x2 (Model_firstFitting_s (Model_fitting_s v 0) (-5))) else none)

def fn_X8_skilled (v : ModelV) (x0 : Int32) (x1 : Int32) : Option (Int32 × ModelV) :=
  (Option.bind (fn_X8_isPupil v x0) (fun t1 => (if t1 = 0 then some ((-1), v) else (Option.bind (fn_X8_in x1 0 1) (fun t3 => (if ¬ t3 = 0 then (Option.bind (fn_X8_looksForFitting v (39 + x0) 1 9) (fun t5 => (if ¬ x1 = 0 then some ((Model_firstFitting t5), t5) else some ((Model_fitting t5), t5)))) else some ((-1), v)))))))

def fn_X8_firm (v : ModelV) (x0 : Int32) (x1 : Int32) : Option (Int32 × ModelV) :=
  (Option.bind (fn_X8_isPupil v x0) (fun t1 => (if t1 = 0 then some ((-1), v) else (Option.bind (fn_X8_in x1 0 1) (fun t3 => (if ¬ t3 = 0 then (Option.bind (fn_X8_looksForFitting v (33 + x0) 0 9) (fun t5 => (if ¬ x1 = 0 then some ((Model_firstFitting t5), t5) else some ((Model_fitting t5), t5)))) else some ((-1), v)))))))

def st_X8_odds_49 (x0 : Int32) (x1 : Int32) (j97 : Int64 → ModelV → Option (Int64 × ModelV)) (rec49 : Int64 → Int32 → ModelV → Option (Int64 × ModelV)) (y4_49 : Int64) (y6_49 : Int32) (wy_49 : ModelV) : Option (Int64 × ModelV) :=
  (if mIn 20 926 = true then (if ((Model_s wy_49) (20 : Int32).toNatClampNeg) ≤ y6_49 then j97 y4_49 wy_49 else (Option.bind (fn_X8_setIn wy_49) (fun t13 => (Option.bind (fn_X8_workBy wy_49 (t13 &&& (((1 : Int32) <<< (y6_49 &&& 31)) ^^^ (-1))) x0) (fun t14 => jp (fun (z0_88 : Int64) => rec49 (y4_49 + z0_88) (y6_49 + 1) t14.2) (fun j88 => (if t14.1 < x1 then j88 (0 : Int64) else j88 (1 : Int64)))))))) else none)
def lp_X8_odds_49 (x0 : Int32) (x1 : Int32) (j97 : Int64 → ModelV → Option (Int64 × ModelV)) : Nat → Int64 → Int32 → ModelV → Option (Int64 × ModelV)
  | 0 => fun _ _ _ => none
  | n + 1 => st_X8_odds_49 x0 x1 j97 (lp_X8_odds_49 x0 x1 j97 n)
def fn_X8_odds (v : ModelV) (x0 : Int32) (x1 : Int32) (x2 : Int32) : Option (Int64 × ModelV) :=
  (Option.bind (fn_X8_in x0 0 60) (fun t1 => jp (fun (_ : Unit) => some ((-9223372036854775808 : Int64), v)) (fun j39 => (if t1 = 0 then j39 () else (Option.bind (fn_X8_in x1 0 99999) (fun t3 => (if t3 = 0 then j39 () else (Option.bind (fn_X8_in x2 0 1) (fun t5 => (if t5 = 0 then j39 () else (if mIn 20 926 = true then (if ¬ ((Model_s v) (20 : Int32).toNatClampNeg) = 0 then jp (fun (x4_97 : Int64) (wx_97 : ModelV) => (if mIn 20 926 = true then (Option.bind (fn_X8_lowest x4_97 (((Model_s wx_97) (20 : Int32).toNatClampNeg)).toInt64 x2) (fun t10 => some (t10, wx_97))) else none)) (fun j97 => lp_X8_odds_49 x0 x1 j97 m_N (0 : Int64) 0 v) else j39 ()) else none)))))))))))

def fn_X8_mean (v : ModelV) (x0 : Int32) (x1 : Int32) : Option (Int64 × ModelV) :=
  (Option.bind (fn_X8_in x0 0 60) (fun t1 => jp (fun (_ : Unit) => some ((-9223372036854775808 : Int64), v)) (fun j29 => (if t1 = 0 then j29 () else (Option.bind (fn_X8_in x1 0 1) (fun t3 => (if t3 = 0 then j29 () else (if mIn 20 926 = true then (if ¬ ((Model_s v) (20 : Int32).toNatClampNeg) = 0 then (Option.bind (fn_X8_keeps v) (fun t7 => (Option.bind (fn_X8_goesOn t7 x0) (fun t8 => (Option.bind (fn_X8_allMore t8) (fun t9 => (Option.bind (fn_X8_goesBack t8) (fun t10 => (if mIn 20 926 = true then (Option.bind (fn_X8_lowest (t9).toInt64 (((Model_s t10) (20 : Int32).toNatClampNeg)).toInt64 x1) (fun t12 => some (t12, t10))) else none))))))))) else j29 ()) else none))))))))

def fn_X8_plan (v : ModelV) (x0 : Int32) (x1 : Int32) : Option (Int32 × ModelV) :=
  (if ¬ x0 = (-1) then (Option.bind (fn_X8_in x0 0 3) (fun t2 => (if t2 = 0 then some ((-1), v) else jp (fun (_ : Unit) => (if mIn 23 926 = true then (if ¬ ((Model_s v) (23 : Int32).toNatClampNeg) = 8 then (if mIn 23 926 = true then (if mIn (79 + ((Model_s v) (23 : Int32).toNatClampNeg)) 926 = true then (if mIn 23 926 = true then (if mIn (87 + ((upd (Model_s v) ((79 + ((Model_s v) (23 : Int32).toNatClampNeg))).toNatClampNeg x0) (23 : Int32).toNatClampNeg)) 926 = true then (if mIn 23 926 = true then (if mIn 23 926 = true then (if mIn 23 926 = true then some (((upd (upd (upd (Model_s v) ((79 + ((Model_s v) (23 : Int32).toNatClampNeg))).toNatClampNeg x0) ((87 + ((upd (Model_s v) ((79 + ((Model_s v) (23 : Int32).toNatClampNeg))).toNatClampNeg x0) (23 : Int32).toNatClampNeg))).toNatClampNeg x1) (23 : Int32).toNatClampNeg (((upd (upd (Model_s v) ((79 + ((Model_s v) (23 : Int32).toNatClampNeg))).toNatClampNeg x0) ((87 + ((upd (Model_s v) ((79 + ((Model_s v) (23 : Int32).toNatClampNeg))).toNatClampNeg x0) (23 : Int32).toNatClampNeg))).toNatClampNeg x1) (23 : Int32).toNatClampNeg) + 1)) (23 : Int32).toNatClampNeg), (Model_s_s v (upd (upd (upd (Model_s v) ((79 + ((Model_s v) (23 : Int32).toNatClampNeg))).toNatClampNeg x0) ((87 + ((upd (Model_s v) ((79 + ((Model_s v) (23 : Int32).toNatClampNeg))).toNatClampNeg x0) (23 : Int32).toNatClampNeg))).toNatClampNeg x1) (23 : Int32).toNatClampNeg (((upd (upd (Model_s v) ((79 + ((Model_s v) (23 : Int32).toNatClampNeg))).toNatClampNeg x0) ((87 + ((upd (Model_s v) ((79 + ((Model_s v) (23 : Int32).toNatClampNeg))).toNatClampNeg x0) (23 : Int32).toNatClampNeg))).toNatClampNeg x1) (23 : Int32).toNatClampNeg) + 1)))) else none) else none) else none) else none) else none) else none) else none) else some ((-4), v)) else none)) (fun j38 => (if x0 ≤ 0 then j38 () else (Option.bind (fn_X8_isPupil v x1) (fun t14 => (if ¬ t14 = 0 then j38 () else some ((-1), v))))))))) else (if mIn 23 926 = true then some (0, (Model_s_s v (upd (Model_s v) (23 : Int32).toNatClampNeg 0))) else none))

def fn_X8_goesBy (v : ModelV) (x0 : Int32) (x1 : Int32) : Option ModelV :=
  (if ¬ x0 = 0 then (if ¬ x0 = 3 then jp (fun (z0_48 : Int32) => (if mIn (14 + x1) 926 = true then some (Model_s_s v (upd (Model_s v) ((14 + x1)).toNatClampNeg z0_48)) else none)) (fun j48 => (if ¬ x0 = 1 then j48 0 else j48 1)) else (if mIn (8 + x1) 926 = true then some (Model_s_s v (upd (Model_s v) ((8 + x1)).toNatClampNeg 99)) else none)) else (Option.bind (fn_X8_goes v) (fun t6 => some t6)))

def st_X8_done_17 (j56 : ModelV → Option (Int32 × ModelV)) (rec17 : Int32 → ModelV → Option (Int32 × ModelV)) (y2_17 : Int32) (wy_17 : ModelV) : Option (Int32 × ModelV) :=
  (if mIn 23 926 = true then (if ((Model_s wy_17) (23 : Int32).toNatClampNeg) ≤ y2_17 then j56 wy_17 else (if mIn (79 + y2_17) 926 = true then (if mIn (87 + y2_17) 926 = true then (Option.bind (fn_X8_goesBy wy_17 ((Model_s wy_17) ((79 + y2_17)).toNatClampNeg) ((Model_s wy_17) ((87 + y2_17)).toNatClampNeg)) (fun t12 => rec17 (y2_17 + 1) t12)) else none) else none)) else none)
def lp_X8_done_17 (j56 : ModelV → Option (Int32 × ModelV)) : Nat → Int32 → ModelV → Option (Int32 × ModelV)
  | 0 => fun _ _ => none
  | n + 1 => st_X8_done_17 j56 (lp_X8_done_17 j56 n)
def fn_X8_done (v : ModelV) (x0 : Int32) : Option (Int32 × ModelV) :=
  (Option.bind (fn_X8_in x0 0 1) (fun t1 => (if ¬ t1 = 0 then (Option.bind (fn_X8_keeps v) (fun t3 => jp (fun (wx_56 : ModelV) => jp (fun (z0_71 : Int32) => (Option.bind (fn_X8_goesBack wx_56) (fun t4 => some (z0_71, t4)))) (fun j71 => (if ¬ x0 = 0 then (Option.bind (fn_X8_allMore wx_56) (fun t6 => j71 t6)) else (Option.bind (fn_X8_workMore wx_56) (fun t7 => j71 t7))))) (fun j56 => lp_X8_done_17 j56 m_N 0 t3))) else some ((-1), v))))

def fn_X8_book (v : ModelV) (x0 : Int32) (x1 : Int32) : Option (Int32 × ModelV) :=
  (if ¬ x0 = (-1) then (Option.bind (fn_X8_isPupil v x0) (fun t2 => (if ¬ t2 = 0 then (Option.bind (fn_X8_in x1 0 9999) (fun t4 => (if ¬ t4 = 0 then (if mIn 24 926 = true then (if ¬ ((Model_s v) (24 : Int32).toNatClampNeg) = 8 then (if mIn 24 926 = true then (if mIn (95 + ((Model_s v) (24 : Int32).toNatClampNeg)) 926 = true then (if mIn 24 926 = true then (if mIn (103 + ((upd (Model_s v) ((95 + ((Model_s v) (24 : Int32).toNatClampNeg))).toNatClampNeg x0) (24 : Int32).toNatClampNeg)) 926 = true then (if mIn 24 926 = true then (if mIn 24 926 = true then (if mIn 24 926 = true then some (((upd (upd (upd (Model_s v) ((95 + ((Model_s v) (24 : Int32).toNatClampNeg))).toNatClampNeg x0) ((103 + ((upd (Model_s v) ((95 + ((Model_s v) (24 : Int32).toNatClampNeg))).toNatClampNeg x0) (24 : Int32).toNatClampNeg))).toNatClampNeg x1) (24 : Int32).toNatClampNeg (((upd (upd (Model_s v) ((95 + ((Model_s v) (24 : Int32).toNatClampNeg))).toNatClampNeg x0) ((103 + ((upd (Model_s v) ((95 + ((Model_s v) (24 : Int32).toNatClampNeg))).toNatClampNeg x0) (24 : Int32).toNatClampNeg))).toNatClampNeg x1) (24 : Int32).toNatClampNeg) + 1)) (24 : Int32).toNatClampNeg), (Model_s_s v (upd (upd (upd (Model_s v) ((95 + ((Model_s v) (24 : Int32).toNatClampNeg))).toNatClampNeg x0) ((103 + ((upd (Model_s v) ((95 + ((Model_s v) (24 : Int32).toNatClampNeg))).toNatClampNeg x0) (24 : Int32).toNatClampNeg))).toNatClampNeg x1) (24 : Int32).toNatClampNeg (((upd (upd (Model_s v) ((95 + ((Model_s v) (24 : Int32).toNatClampNeg))).toNatClampNeg x0) ((103 + ((upd (Model_s v) ((95 + ((Model_s v) (24 : Int32).toNatClampNeg))).toNatClampNeg x0) (24 : Int32).toNatClampNeg))).toNatClampNeg x1) (24 : Int32).toNatClampNeg) + 1)))) else none) else none) else none) else none) else none) else none) else none) else some ((-4), v)) else none) else some ((-2), v)))) else some ((-1), v)))) else (if mIn 24 926 = true then some (0, (Model_s_s v (upd (Model_s v) (24 : Int32).toNatClampNeg 0))) else none))

def st_X8_looked_2 (v : ModelV) (rec2 : Int32 → Option Int32) (y1_2 : Int32) : Option Int32 :=
  (if mIn 24 926 = true then (if ((Model_s v) (24 : Int32).toNatClampNeg) ≤ y1_2 then some (-5) else (if mIn (95 + y1_2) 926 = true then (if mIn (2 + ((Model_s v) ((95 + y1_2)).toNatClampNeg)) 926 = true then (if mIn (103 + y1_2) 926 = true then (if ((Model_s v) ((2 + ((Model_s v) ((95 + y1_2)).toNatClampNeg))).toNatClampNeg) = ((Model_s v) ((103 + y1_2)).toNatClampNeg) then rec2 (y1_2 + 1) else some y1_2) else none) else none) else none)) else none)
def lp_X8_looked_2 (v : ModelV) : Nat → Int32 → Option Int32
  | 0 => fun _ => none
  | n + 1 => st_X8_looked_2 v (lp_X8_looked_2 v n)
def fn_X8_looked (v : ModelV) : Option Int32 :=
  lp_X8_looked_2 v m_N 0

def fn_X8_ranBody (v : ModelV) (x0 : Int32) : Option ModelV :=
  jp (fun (wx_19 : ModelV) => some (Model_ran_s wx_19 ((Model_ran wx_19) + 1))) (fun j19 => (if 20 ≤ (Model_ran v) then j19 v else (if mIn (Model_ran v) 20 = true then j19 (Model_bodies_s v (upd (Model_bodies v) ((Model_ran v)).toNatClampNeg x0)) else none)))

def fn_X8_isUnder (x0 : Int32) (x1 : Int32) : Option Int32 :=
  jp (fun (_ : Unit) => some 1) (fun j25 => (if x1 = 0 then j25 () else (if x1 = x0 then j25 () else (if x1 ≤ 0 then some 0 else (if 4 ≤ x1 then some 0 else (if ¬ x0 = (x1 + 3) then some 0 else j25 ()))))))

def fn_X8_plainThinks (v : ModelV) (x0 : Int32) : Option (Int32 × ModelV) :=
  (Option.bind (fn_X8_ranBody v 1) (fun t1 => some ((x0 + (Model_number t1)), t1)))

def fn_X8_thinksActs (v : ModelV) (x0 : Int32) : Option (Int32 × ModelV) :=
  (Option.bind (fn_X8_isUnder (Model_kind v) 1) (fun t1 => (if t1 = 0 then (if ¬ (Model_kind v) = 5 then (Option.bind (fn_X8_plainThinks v x0) (fun t4 => some (t4.1, t4.2))) else (Option.bind (fn_X8_ranBody v 51) (fun t5 => (Option.bind (fn_X8_plainThinks t5 x0) (fun t6 => some ((t6.1 ^^^ (Model_number t6.2)), t6.2)))))) else (Option.bind (fn_X8_ranBody v 11) (fun t7 => (Option.bind (fn_X8_plainThinks t7 (x0 * 3)) (fun t8 => some (t8.1, t8.2))))))))

def fn_X8_plainWrites (v : ModelV) (x0 : Int32) : Option (Int32 × ModelV) :=
  (Option.bind (fn_X8_ranBody v 2) (fun t1 => (Option.bind (fn_X8_thinksActs t1 x0) (fun t2 => some ((t2.1 - (Model_tellsV t2.2)), t2.2)))))

def fn_X8_writesActs (v : ModelV) (x0 : Int32) : Option (Int32 × ModelV) :=
  (Option.bind (fn_X8_isUnder (Model_kind v) 2) (fun t1 => (if t1 = 0 then (if ¬ (Model_kind v) = 6 then (Option.bind (fn_X8_plainWrites v x0) (fun t4 => some (t4.1, t4.2))) else (Option.bind (fn_X8_ranBody v 61) (fun t5 => (Option.bind (fn_X8_plainWrites t5 x0) (fun t6 => some ((t6.1 + (Model_tellsV t6.2)), t6.2)))))) else (Option.bind (fn_X8_ranBody v 21) (fun t7 => (Option.bind (fn_X8_plainWrites t7 x0) (fun t8 => some ((-t8.1), t8.2))))))))

def fn_X8_plainTelling (v : ModelV) (x0 : Int32) : Option (Int32 × ModelV) :=
  (Option.bind (fn_X8_ranBody v 3) (fun t1 => (Option.bind (fn_X8_writesActs t1 x0) (fun t2 => some ((t2.1 * 2), t2.2)))))

def fn_X8_tellsActs (v : ModelV) (x0 : Int32) : Option (Int32 × ModelV) :=
  (Option.bind (fn_X8_isUnder (Model_kind v) 3) (fun t1 => (if t1 = 0 then (if ¬ (Model_kind v) = 4 then (Option.bind (fn_X8_plainTelling v x0) (fun t4 => some (t4.1, t4.2))) else (Option.bind (fn_X8_ranBody v 41) (fun t5 => (Option.bind (fn_X8_plainTelling t5 (x0 - 1)) (fun t6 => (Option.bind (fn_X8_thinksActs t6.2 2) (fun t7 => some ((t6.1 + t7.1), t7.2)))))))) else (Option.bind (fn_X8_ranBody v 31) (fun t8 => (Option.bind (fn_X8_plainTelling t8 x0) (fun t9 => some ((t9.1 ^^^ 7), t9.2))))))))

def fn_X8_act (v : ModelV) (x0 : Int32) (x1 : Int32) (x2 : Int32) : Option (Int32 × ModelV) :=
  (Option.bind (fn_X8_isPupil (Model_ran_s v 0) x0) (fun t1 => (if t1 = 0 then some (0, (Model_ran_s v 0)) else (Option.bind (fn_X8_in x1 0 2) (fun t3 => (if ¬ t3 = 0 then (if mIn (27 + x0) 926 = true then (if mIn (33 + x0) 926 = true then (if ¬ x1 = 0 then (if ¬ x1 = 1 then (Option.bind (fn_X8_tellsActs (Model_tellsV_s (Model_number_s (Model_kind_s (Model_ran_s v 0) ((Model_s v) ((27 + x0)).toNatClampNeg)) x0) ((Model_s v) ((33 + x0)).toNatClampNeg)) x2) (fun t9 => some (t9.1, t9.2))) else (Option.bind (fn_X8_writesActs (Model_tellsV_s (Model_number_s (Model_kind_s (Model_ran_s v 0) ((Model_s v) ((27 + x0)).toNatClampNeg)) x0) ((Model_s v) ((33 + x0)).toNatClampNeg)) x2) (fun t10 => some (t10.1, t10.2)))) else (Option.bind (fn_X8_thinksActs (Model_tellsV_s (Model_number_s (Model_kind_s (Model_ran_s v 0) ((Model_s v) ((27 + x0)).toNatClampNeg)) x0) ((Model_s v) ((33 + x0)).toNatClampNeg)) x2) (fun t11 => some (t11.1, t11.2)))) else none) else none) else some (0, (Model_ran_s v 0))))))))

def fn_X8_trace (v : ModelV) (x0 : Int32) : Option Int32 :=
  jp (fun (z0_20 : Int32) => (Option.bind (fn_X8_in x0 0 (z0_20 - 1)) (fun t1 => (if t1 = 0 then some (-1) else (if mIn x0 20 = true then some ((Model_bodies v) (x0).toNatClampNeg) else none))))) (fun j20 => (if 20 ≤ (Model_ran v) then j20 20 else j20 (Model_ran v)))

def fn_X8_as (v : ModelV) (x0 : Int32) (x1 : Int32) : Option Int32 :=
  (Option.bind (fn_X8_isPupil v x0) (fun t1 => (if t1 = 0 then some (-1) else (Option.bind (fn_X8_in x1 0 6) (fun t3 => (if ¬ t3 = 0 then (if mIn (27 + x0) 926 = true then (Option.bind (fn_X8_isUnder ((Model_s v) ((27 + x0)).toNatClampNeg) x1) (fun t6 => (if t6 = 0 then some (-6) else (if mIn (33 + x0) 926 = true then some ((Model_s v) ((33 + x0)).toNatClampNeg) else none)))) else none) else some (-1)))))))

def st_X8_image_2 (j27 : ModelV → Option (Int32 × ModelV)) (rec2 : Int32 → ModelV → Option (Int32 × ModelV)) (y1_2 : Int32) (wy_2 : ModelV) : Option (Int32 × ModelV) :=
  (if 926 ≤ y1_2 then j27 wy_2 else (if mIn y1_2 926 = true then (if mIn y1_2 926 = true then rec2 (y1_2 + 1) (Model_image_s wy_2 (upd (Model_image wy_2) (y1_2).toNatClampNeg ((Model_s wy_2) (y1_2).toNatClampNeg))) else none) else none))
def lp_X8_image_2 (j27 : ModelV → Option (Int32 × ModelV)) : Nat → Int32 → ModelV → Option (Int32 × ModelV)
  | 0 => fun _ _ => none
  | n + 1 => st_X8_image_2 j27 (lp_X8_image_2 j27 n)
def fn_X8_image (v : ModelV) : Option (Int32 × ModelV) :=
  jp (fun (wx_27 : ModelV) => (if mIn 20 926 = true then some (((Model_s wx_27) (20 : Int32).toNatClampNeg), (Model_hasImage_s wx_27 1)) else none)) (fun j27 => lp_X8_image_2 j27 m_N 0 v)

def st_X8_undo_12 (j37 : ModelV → Option (Int32 × ModelV)) (rec12 : Int32 → ModelV → Option (Int32 × ModelV)) (y1_12 : Int32) (wy_12 : ModelV) : Option (Int32 × ModelV) :=
  (if 926 ≤ y1_12 then j37 wy_12 else (if mIn y1_12 926 = true then (if mIn y1_12 926 = true then rec12 (y1_12 + 1) (Model_s_s wy_12 (upd (Model_s wy_12) (y1_12).toNatClampNeg ((Model_image wy_12) (y1_12).toNatClampNeg))) else none) else none))
def lp_X8_undo_12 (j37 : ModelV → Option (Int32 × ModelV)) : Nat → Int32 → ModelV → Option (Int32 × ModelV)
  | 0 => fun _ _ => none
  | n + 1 => st_X8_undo_12 j37 (lp_X8_undo_12 j37 n)
def fn_X8_undo (v : ModelV) : Option (Int32 × ModelV) :=
  (if ¬ (Model_hasImage v) = 0 then jp (fun (wx_37 : ModelV) => (if mIn 20 926 = true then some (((Model_s wx_37) (20 : Int32).toNatClampNeg), wx_37) else none)) (fun j37 => lp_X8_undo_12 j37 m_N 0 v) else some ((-3), v))

def fn_X8_count (v : ModelV) (x0 : Int32) : Option Int32 :=
  (if ¬ x0 = 6 then (Option.bind (fn_X8_in x0 0 5) (fun t2 => (if t2 = 0 then some (-1) else (if mIn (20 + x0) 926 = true then some ((Model_s v) ((20 + x0)).toNatClampNeg) else none)))) else some (Model_ran v))

def bd_X0_thinks (r_X0_thinks : ActsV → Int32 → Int32 → Int32 → Option (Int32 × ActsV)) (v : ActsV) (x0 : Int32) (x1 : Int32) (x2 : Int32) : Option (Int32 × ActsV) :=
  (if x2 ≤ 9 then jp (fun (_ : Unit) => (Option.bind (fn_X0_begins v 1) (fun t2 => some ((x1 + (Acts_i t2)), t2)))) (fun j83 => jp (fun (_ : Unit) => (Option.bind (fn_X0_begins v 11) (fun t3 => (Option.bind (r_X0_thinks t3 0 (x1 * 3) (x2 + 1)) (fun t4 => some (t4.1, t4.2)))))) (fun j44 => (if x0 = 1 then j44 () else (if x0 = 2 then j83 () else (if x0 = 3 then j83 () else (if x0 = 4 then j44 () else (if x0 = 5 then (Option.bind (fn_X0_begins v 51) (fun t10 => (Option.bind (r_X0_thinks t10 2 x1 (x2 + 1)) (fun t11 => some ((t11.1 ^^^ (Acts_i t11.2)), t11.2))))) else j83 ()))))))) else some (0, v))
def gr_Tk : Nat → (ActsV → Int32 → Int32 → Int32 → Option (Int32 × ActsV))
  | 0 => (fun _ _ _ _ => none)
  | d + 1 => (bd_X0_thinks (gr_Tk d))
abbrev fn_X0_thinks (d : Nat) : ActsV → Int32 → Int32 → Int32 → Option (Int32 × ActsV) := (gr_Tk d)

def bd_X0_writes (r_X0_writes : ActsV → Int32 → Int32 → Int32 → Option (Int32 × ActsV)) (v : ActsV) (x0 : Int32) (x1 : Int32) (x2 : Int32) : Option (Int32 × ActsV) :=
  (if x2 ≤ 9 then jp (fun (_ : Unit) => (Option.bind (fn_X0_begins v 2) (fun t2 => (Option.bind (fn_X0_thinks 3 t2 (Acts_kind t2) x1 (x2 + 1)) (fun t3 => some ((t3.1 - (Acts_v t3.2)), t3.2)))))) (fun j82 => jp (fun (_ : Unit) => (Option.bind (fn_X0_begins v 21) (fun t4 => (Option.bind (r_X0_writes t4 0 x1 (x2 + 1)) (fun t5 => some ((-t5.1), t5.2)))))) (fun j65 => (if x0 = 2 then j65 () else (if x0 = 3 then j82 () else (if x0 = 4 then j82 () else (if x0 = 5 then j65 () else (if x0 = 6 then (Option.bind (fn_X0_begins v 61) (fun t11 => (Option.bind (r_X0_writes t11 3 x1 (x2 + 1)) (fun t12 => some ((t12.1 + (Acts_v t12.2)), t12.2))))) else j82 ()))))))) else some (0, v))
def gr_Wr : Nat → (ActsV → Int32 → Int32 → Int32 → Option (Int32 × ActsV))
  | 0 => (fun _ _ _ _ => none)
  | d + 1 => (bd_X0_writes (gr_Wr d))
abbrev fn_X0_writes (d : Nat) : ActsV → Int32 → Int32 → Int32 → Option (Int32 × ActsV) := (gr_Wr d)

def bd_X0_tells (r_X0_tells : ActsV → Int32 → Int32 → Int32 → Option (Int32 × ActsV)) (v : ActsV) (x0 : Int32) (x1 : Int32) (x2 : Int32) : Option (Int32 × ActsV) :=
  (if x2 ≤ 9 then jp (fun (_ : Unit) => (Option.bind (fn_X0_begins v 3) (fun t2 => (Option.bind (fn_X0_writes 3 t2 (Acts_kind t2) x1 (x2 + 1)) (fun t3 => some ((t3.1 * 2), t3.2)))))) (fun j90 => jp (fun (_ : Unit) => (Option.bind (fn_X0_begins v 31) (fun t4 => (Option.bind (r_X0_tells t4 0 x1 (x2 + 1)) (fun t5 => some ((t5.1 ^^^ 7), t5.2)))))) (fun j40 => (if x0 = 3 then j40 () else (if x0 = 4 then (Option.bind (fn_X0_begins v 41) (fun t8 => (Option.bind (r_X0_tells t8 1 (x1 - 1) (x2 + 1)) (fun t9 => (Option.bind (fn_X0_thinks 3 t9.2 (Acts_kind t9.2) 2 (x2 + 1)) (fun t10 => some ((t9.1 + t10.1), t10.2))))))) else (if x0 = 5 then j90 () else (if x0 = 6 then j40 () else j90 ())))))) else some (0, v))
def gr_Tl : Nat → (ActsV → Int32 → Int32 → Int32 → Option (Int32 × ActsV))
  | 0 => (fun _ _ _ _ => none)
  | d + 1 => (bd_X0_tells (gr_Tl d))
abbrev fn_X0_tells (d : Nat) : ActsV → Int32 → Int32 → Int32 → Option (Int32 × ActsV) := (gr_Tl d)

def bd_X8_factor (r_X8_factor : ModelV → Option ModelV) (r_X8_every : ModelV → Option ModelV) (r_X8_some : ModelV → Option ModelV) (v : ModelV) : Option ModelV :=
  (if (Model_isWrong v) = 0 then (Option.bind (fn_X8_here v) (fun t2 => jp (fun (_ : Unit) => jp (fun (z0_39 : Int32) => (if mBit z0_39 = true then jp (fun (z0_69 : Int32) => jp (fun (wx_101 : ModelV) => some (Model_open_s wx_101 ((Model_open wx_101) - 1))) (fun j101 => (if ¬ t2 = 33 then (Option.bind (r_X8_some (Model_open_s (Model_isWrong_s (Model_spot_s v ((Model_spot v) + z0_69)) z0_39) ((Model_open v) + 1))) (fun t5 => (Option.bind (fn_X8_must t5 41) (fun t6 => j101 t6)))) else (Option.bind (r_X8_factor (Model_open_s (Model_isWrong_s (Model_spot_s v ((Model_spot v) + z0_69)) z0_39) ((Model_open v) + 1))) (fun t7 => (Option.bind (fn_X8_emits t7 (-1)) (fun t8 => j101 t8))))))) (fun j69 => (if z0_39 = 0 then j69 1 else j69 0)) else none)) (fun j39 => (if ¬ (Model_open v) = 5 then j39 0 else j39 1))) (fun j25 => (if t2 = 33 then j25 () else (if ¬ t2 = 40 then (Option.bind (fn_X8_among v 0) (fun t13 => jp (fun (z0_130 : Int32) => (if mBit z0_130 = true then jp (fun (z0_150 : Int32) (wx_150 : ModelV) => jp (fun (z0_169 : Int32) => (if mBit z0_169 = true then (Option.bind (fn_X8_figures (Model_isWrong_s wx_150 z0_169)) (fun t16 => (Option.bind (fn_X8_emits t16.2 ((t13.1 + (8 * z0_150)) + (32 * t16.1))) (fun t17 => some t17)))) else none)) (fun j169 => jp (fun (_ : Unit) => j169 1) (fun j164 => (if ¬ (Model_isWrong wx_150) = 0 then j164 () else (if ¬ z0_150 = (-1) then j169 0 else j164 ()))))) (fun j150 => (if z0_130 = 0 then (Option.bind (fn_X8_among (Model_isWrong_s t13.2 z0_130) 1) (fun t21 => j150 t21.1 t21.2)) else j150 0 (Model_isWrong_s t13.2 z0_130))) else none)) (fun j130 => (if ¬ t13.1 = (-1) then j130 0 else j130 1)))) else j25 ()))))) else some v)
def st_X8_every_4 (r_X8_factor : ModelV → Option ModelV) (rec4 : ModelV → Option ModelV) (wy_4 : ModelV) : Option ModelV :=
  (if ¬ (Model_isWrong wy_4) = 0 then some wy_4 else (Option.bind (fn_X8_here wy_4) (fun t3 => (if ¬ t3 = 38 then some wy_4 else (Option.bind (r_X8_factor (Model_spot_s wy_4 ((Model_spot wy_4) + 1))) (fun t5 => (Option.bind (fn_X8_emits t5 (-2)) (fun t6 => rec4 t6))))))))
def lp_X8_every_4 (r_X8_factor : ModelV → Option ModelV) : Nat → ModelV → Option ModelV
  | 0 => fun _ => none
  | n + 1 => st_X8_every_4 r_X8_factor (lp_X8_every_4 r_X8_factor n)
def bd_X8_every (r_X8_factor : ModelV → Option ModelV) (r_X8_every : ModelV → Option ModelV) (r_X8_some : ModelV → Option ModelV) (v : ModelV) : Option ModelV :=
  (Option.bind (r_X8_factor v) (fun t1 => lp_X8_every_4 r_X8_factor m_N t1))
def st_X8_some_4 (r_X8_every : ModelV → Option ModelV) (rec4 : ModelV → Option ModelV) (wy_4 : ModelV) : Option ModelV :=
  (if ¬ (Model_isWrong wy_4) = 0 then some wy_4 else (Option.bind (fn_X8_here wy_4) (fun t3 => (if ¬ t3 = 124 then some wy_4 else (Option.bind (r_X8_every (Model_spot_s wy_4 ((Model_spot wy_4) + 1))) (fun t5 => (Option.bind (fn_X8_emits t5 (-3)) (fun t6 => rec4 t6))))))))
def lp_X8_some_4 (r_X8_every : ModelV → Option ModelV) : Nat → ModelV → Option ModelV
  | 0 => fun _ => none
  | n + 1 => st_X8_some_4 r_X8_every (lp_X8_some_4 r_X8_every n)
def bd_X8_some (r_X8_factor : ModelV → Option ModelV) (r_X8_every : ModelV → Option ModelV) (r_X8_some : ModelV → Option ModelV) (v : ModelV) : Option ModelV :=
  (Option.bind (r_X8_every v) (fun t1 => lp_X8_some_4 r_X8_every m_N t1))
def gr_Fa : Nat → (ModelV → Option ModelV) × (ModelV → Option ModelV) × (ModelV → Option ModelV)
  | 0 => (fun _ => none, fun _ => none, fun _ => none)
  | d + 1 => (bd_X8_factor (gr_Fa d).1 (gr_Fa d).2.1 (gr_Fa d).2.2, bd_X8_every (gr_Fa d).1 (gr_Fa d).2.1 (gr_Fa d).2.2, bd_X8_some (gr_Fa d).1 (gr_Fa d).2.1 (gr_Fa d).2.2)
abbrev fn_X8_factor (d : Nat) : ModelV → Option ModelV := (gr_Fa d).1
abbrev fn_X8_every (d : Nat) : ModelV → Option ModelV := (gr_Fa d).2.1
abbrev fn_X8_some (d : Nat) : ModelV → Option ModelV := (gr_Fa d).2.2

def fn_X1_begin (v : ForecastV) (v0 : RoomV) : Option ForecastV :=
  (Option.bind (fn_X2_copyFrom (Forecast_start v) (Room_group v0)) (fun t1 => (Option.bind (fn_X2_copyFrom (Forecast_trial v) (Room_group v0)) (fun t2 => (Option.bind (fn_X5_lesson v0) (fun t3 => some (Forecast_lesson_s (Forecast_start_s (Forecast_trial_s v t2) t1) t3)))))))

def fn_X1_beginWithout (v : ForecastV) (v0 : RoomV) (x1 : Int32) : Option ForecastV :=
  (Option.bind (fn_X1_begin v v0) (fun t1 => (if mIn x1 6 = true then some (Forecast_trial_s t1 (Group_outs_s (Forecast_trial t1) (upd (Group_outs (Forecast_trial t1)) (x1).toNatClampNeg (vp_nar .boolean 1)))) else none)))

def fn_X1_hoursMore (v : ForecastV) : Option Int32 :=
  (Option.bind (fn_X2_hoursOfAll (Forecast_trial v)) (fun t1 => (Option.bind (fn_X2_hoursOfAll (Forecast_start v)) (fun t2 => some (t1 - t2)))))

def st_X2_changeWills_48 (x0 : Int32) (t1 : Int32) (x3_40 : Int32) (rec48 : Int32 → GroupV → Option GroupV) (y5_48 : Int32) (wy_48 : GroupV) : Option GroupV :=
  (if (Group_size wy_48) ≤ y5_48 then some wy_48 else (if mIn y5_48 6 = true then jp (fun (wx_135 : GroupV) => rec48 (y5_48 + 1) wx_135) (fun j135 => (if ((Group_outs wy_48) (y5_48).toNatClampNeg) = 0 then (if mIn y5_48 6 = true then jp (fun (wx_102 : GroupV) => (if mIn y5_48 6 = true then (if (x3_40 / t1) ≤ ((Group_does wx_102) (y5_48).toNatClampNeg) then j135 wx_102 else (if mIn y5_48 6 = true then (if mIn y5_48 6 = true then j135 (Group_wills_s wx_102 (upd (Group_wills wx_102) (y5_48).toNatClampNeg (mMin 99 (((Group_wills wx_102) (y5_48).toNatClampNeg) + 1)))) else none) else none)) else none)) (fun j102 => (if ((Group_does wy_48) (y5_48).toNatClampNeg) ≤ (x3_40 / t1) then j102 wy_48 else (if mIn y5_48 6 = true then (if mIn y5_48 6 = true then j102 (Group_wills_s wy_48 (upd (Group_wills wy_48) (y5_48).toNatClampNeg (mMax 0 (((Group_wills wy_48) (y5_48).toNatClampNeg) - x0)))) else none) else none))) else none) else j135 wy_48)) else none))
def lp_X2_changeWills_48 (x0 : Int32) (t1 : Int32) (x3_40 : Int32) : Nat → Int32 → GroupV → Option GroupV
  | 0 => fun _ _ => none
  | n + 1 => st_X2_changeWills_48 x0 t1 x3_40 (lp_X2_changeWills_48 x0 t1 x3_40 n)
def st_X2_changeWills_15 (v : GroupV) (j40 : Int32 → Option GroupV) (rec15 : Int32 → Int32 → Option GroupV) (y3_15 : Int32) (y4_15 : Int32) : Option GroupV :=
  (if (Group_size v) ≤ y4_15 then j40 y3_15 else (if mIn y4_15 6 = true then rec15 (y3_15 + ((Group_does v) (y4_15).toNatClampNeg)) (y4_15 + 1) else none))
def lp_X2_changeWills_15 (v : GroupV) (j40 : Int32 → Option GroupV) : Nat → Int32 → Int32 → Option GroupV
  | 0 => fun _ _ => none
  | n + 1 => st_X2_changeWills_15 v j40 (lp_X2_changeWills_15 v j40 n)
def fn_X2_changeWills (v : GroupV) (x0 : Int32) : Option GroupV :=
  (Option.bind (fn_X2_countIn v) (fun t1 => (if ¬ t1 = 0 then jp (fun (x3_40 : Int32) => (if ¬ t1 = 0 then lp_X2_changeWills_48 x0 t1 x3_40 m_N 0 v else none)) (fun j40 => lp_X2_changeWills_15 v j40 m_N 0 0) else some v)))

def fn_X2_claimOf (v : GroupV) (x0 : Int32) : Option Int32 :=
  (Option.bind (fn_X2_shareOf v x0) (fun t1 => (if mIn x0 6 = true then jp (fun (_ : Unit) => (if mIn x0 6 = true then (Option.bind (fn_X2_toHundred (t1 - ((Group_vs v) (x0).toNatClampNeg))) (fun t4 => some t4)) else none)) (fun j52 => (if ((Group_kinds v) (x0).toNatClampNeg) = 1 then j52 () else (if ((Group_kinds v) (x0).toNatClampNeg) = 2 then (if mIn x0 6 = true then (Option.bind (fn_X2_toHundred (t1 + ((Group_vs v) (x0).toNatClampNeg))) (fun t8 => some t8)) else none) else (if ((Group_kinds v) (x0).toNatClampNeg) = 3 then (Option.bind (fn_X2_toHundred (2 * t1)) (fun t10 => some t10)) else (if ((Group_kinds v) (x0).toNatClampNeg) = 4 then j52 () else (if ((Group_kinds v) (x0).toNatClampNeg) = 5 then (if mIn x0 6 = true then (Option.bind (fn_X2_toHundred (t1 + ((Group_vs v) (x0).toNatClampNeg))) (fun t14 => some (t14 / 2))) else none) else (if ((Group_kinds v) (x0).toNatClampNeg) = 6 then (Option.bind (fn_X2_rowNow v x0) (fun t16 => (Option.bind (fn_X2_toHundred ((2 * t1) + t16)) (fun t17 => some t17)))) else (Option.bind (fn_X2_toHundred t1) (fun t18 => some t18))))))))) else none)))

def fn_X2_stakeOf (v : GroupV) (x0 : Int32) (x1 : Int32) : Option Int32 :=
  (if ¬ x1 = 1 then (Option.bind (fn_X2_claimOf v x0) (fun t2 => some t2)) else (if mIn x0 6 = true then some ((Group_hours v) (x0).toNatClampNeg) else none))

def st_X3_zealOf_20 (v : LessonV) (v0 : GroupV) (x1 : Int32) (y5_8 : Int32) (j64 : Int32 → Int32 → Option Int32) (rec20 : Int32 → Int32 → Option Int32) (y4_20 : Int32) (y6_20 : Int32) : Option Int32 :=
  (if mIn y5_8 10 = true then (if ((Lesson_ends v) (y5_8).toNatClampNeg) ≤ y4_20 then j64 y4_20 y6_20 else (if (Int32.ofNat 100) ≤ y4_20 then j64 y4_20 y6_20 else (if mIn y4_20 100 = true then (Option.bind (fn_X3_look v0 y6_20 ((Lesson_code v) (y4_20).toNatClampNeg) x1) (fun t8 => rec20 (y4_20 + 1) t8)) else none))) else none)
def lp_X3_zealOf_20 (v : LessonV) (v0 : GroupV) (x1 : Int32) (y5_8 : Int32) (j64 : Int32 → Int32 → Option Int32) : Nat → Int32 → Int32 → Option Int32
  | 0 => fun _ _ => none
  | n + 1 => st_X3_zealOf_20 v v0 x1 y5_8 j64 (lp_X3_zealOf_20 v v0 x1 y5_8 j64 n)
def st_X3_zealOf_8 (v : LessonV) (v0 : GroupV) (x1 : Int32) (j88 : Int32 → Option Int32) (rec8 : Int32 → Int32 → Int32 → Option Int32) (y3_8 : Int32) (y4_8 : Int32) (y5_8 : Int32) : Option Int32 :=
  (if (Lesson_spurs v) ≤ y5_8 then j88 y3_8 else jp (fun (x4_64 : Int32) (x6_64 : Int32) => jp (fun (x3_82 : Int32) => rec8 x3_82 x4_64 (y5_8 + 1)) (fun j82 => (if ¬ (x6_64 &&& 1) = 1 then j82 y3_8 else (if mIn y5_8 10 = true then j82 (y3_8 + ((Lesson_worths v) (y5_8).toNatClampNeg)) else none)))) (fun j64 => lp_X3_zealOf_20 v v0 x1 y5_8 j64 m_N y4_8 0))
def lp_X3_zealOf_8 (v : LessonV) (v0 : GroupV) (x1 : Int32) (j88 : Int32 → Option Int32) : Nat → Int32 → Int32 → Int32 → Option Int32
  | 0 => fun _ _ _ => none
  | n + 1 => st_X3_zealOf_8 v v0 x1 j88 (lp_X3_zealOf_8 v v0 x1 j88 n)
def fn_X3_zealOf (v : LessonV) (v0 : GroupV) (x1 : Int32) : Option Int32 :=
  jp (fun (x3_88 : Int32) => some (mMax 0 x3_88)) (fun j88 => lp_X3_zealOf_8 v v0 x1 j88 m_N 5 0 0)

def fn_X4_readNumber (v : ReaderV) : Option (Int32 × ReaderV) :=
  (Option.bind (fn_X4_takeOneOf v 9) (fun t1 => (if 0 ≤ t1.1 then jp (fun (z0_36 : Int32) (wx_36 : ReaderV) => (if z0_36 < 0 then some (1, wx_36) else some (1, (Reader_number_s wx_36 (((Reader_number wx_36) * 10) + z0_36))))) (fun j36 => (if ¬ t1.1 = 0 then (Option.bind (fn_X4_takeOneOf (Reader_number_s t1.2 t1.1) 9) (fun t5 => j36 t5.1 t5.2)) else j36 (-1) (Reader_number_s t1.2 t1.1))) else some (0, (Reader_number_s t1.2 t1.1)))))

def st_X4_readWord_2 (x0 : Nat) (rec2 : Int32 → ReaderV → Option (Int32 × ReaderV)) (y2_2 : Int32) (wy_2 : ReaderV) : Option (Int32 × ReaderV) :=
  (if x0 < 10 then (Option.bind (fn_J0_length_8abf5 x0) (fun t1 => (if t1 ≤ y2_2 then some (1, wy_2) else (if x0 < 10 then (Option.bind (fn_J0_charAt_5068e x0 y2_2) (fun t4 => (Option.bind (fn_X4_take wy_2 t4) (fun t6 => (if ¬ t6.1 = 0 then rec2 (y2_2 + 1) t6.2 else some (0, t6.2)))))) else none)))) else none)
def lp_X4_readWord_2 (x0 : Nat) : Nat → Int32 → ReaderV → Option (Int32 × ReaderV)
  | 0 => fun _ _ => none
  | n + 1 => st_X4_readWord_2 x0 (lp_X4_readWord_2 x0 n)
def fn_X4_readWord (v : ReaderV) (x0 : Nat) : Option (Int32 × ReaderV) :=
  lp_X4_readWord_2 x0 m_N 0 v

def st_X5_copyFrom_36 (v0 : RoomV) (j59 : RoomV → Option RoomV) (rec36 : Int32 → RoomV → Option RoomV) (y2_36 : Int32) (wy_36 : RoomV) : Option RoomV :=
  (if 5 ≤ y2_36 then j59 wy_36 else (if mIn y2_36 5 = true then m_opt ((Room_lessons v0) (y2_36).toNatClampNeg) ((if mIn y2_36 5 = true then rec36 (y2_36 + 1) (Room_lessons_s wy_36 (va_up (Room_lessons wy_36) (y2_36).toNatClampNeg none)) else none)) (fun r8 => (if mIn y2_36 5 = true then rec36 (y2_36 + 1) (Room_lessons_s wy_36 (va_up (Room_lessons wy_36) (y2_36).toNatClampNeg (some r8))) else none)) else none))
def lp_X5_copyFrom_36 (v0 : RoomV) (j59 : RoomV → Option RoomV) : Nat → Int32 → RoomV → Option RoomV
  | 0 => fun _ _ => none
  | n + 1 => st_X5_copyFrom_36 v0 j59 (lp_X5_copyFrom_36 v0 j59 n)
def fn_X5_copyFrom (v : RoomV) (v0 : RoomV) : Option RoomV :=
  (Option.bind (fn_X2_copyFrom (Room_group v) (Room_group v0)) (fun t1 => (if m_allB (Room_tape v0) 100 = true then jp (fun (wx_59 : RoomV) => (Option.bind (fn_X6_copyFrom (Room_seen wx_59) (Room_seen v0)) (fun t3 => (Option.bind (fn_X6_copyFrom (Room_plan wx_59) (Room_plan v0)) (fun t4 => (Option.bind (fn_X6_copyFrom (Room_book wx_59) (Room_book v0)) (fun t5 => some (Room_book_s (Room_plan_s (Room_seen_s (Room_lessonCount_s wx_59 (Room_lessonCount v0)) t3) t4) t5)))))))) (fun j59 => lp_X5_copyFrom_36 v0 j59 m_N 0 (Room_signs_s (Room_tape_s (Room_group_s v t1) (va_cpy (Room_tape v0) (Room_tape v) (0 : Int32).toNatClampNeg (0 : Int32).toNatClampNeg (100 : Int32).toNatClampNeg)) (Room_signs v0))) else none)))

def fn_X7_pupil (v : OneV) (x0 : Int32) (x1 : Int32) (x2 : Int32) (x3 : Int32) : Option (Int32 × OneV) :=
  (Option.bind (fn_X7_isKind x0) (fun t1 => (if ¬ t1 = 0 then (if x1 < 0 then some ((-2), v) else (if 9 < x1 then some ((-2), v) else (if x2 < 1 then some ((-2), v) else (if 9 < x2 then some ((-2), v) else (if x3 < 0 then some ((-2), v) else (if x3 ≤ 99 then (if (Group_size (Room_group (One_now v))) < 6 then (Option.bind (fn_X2_add (Room_group (One_now v)) x0 x1 x2 x3) (fun t10 => some (t10.1, (One_now_s v (Room_group_s (One_now v) t10.2))))) else some ((-4), v)) else some ((-2), v))))))) else some ((-1), v))))

def fn_X7_row (v : OneV) (x0 : Int32) (x1 : Int32) (x2 : Int32) : Option (Int32 × OneV) :=
  (Option.bind (fn_X7_isPupil v x0) (fun t1 => (if t1 = 0 then some ((-1), v) else (if x1 < 0 then some ((-1), v) else (if x1 < 4 then (if x2 < 0 then some ((-2), v) else (if x2 ≤ 9 then (if mIn x0 6 = true then (if ((Group_kinds (Room_group (One_now v))) (x0).toNatClampNeg) = 6 then (if mIn ((x0 * 4) + x1) 24 = true then (if mIn ((x0 * 4) + x1) 24 = true then some (((Group_rows (Room_group (One_now v))) (((x0 * 4) + x1)).toNatClampNeg), (One_now_s v (Room_group_s (One_now v) (Group_rows_s (Room_group (One_now v)) (upd (Group_rows (Room_group (One_now v))) (((x0 * 4) + x1)).toNatClampNeg x2))))) else none) else none) else some ((-3), v)) else none) else some ((-2), v))) else some ((-1), v))))))

def fn_X7_will (v : OneV) (x0 : Int32) (x1 : Int32) : Option (Int32 × OneV) :=
  (Option.bind (fn_X7_isPupil v x0) (fun t1 => (if ¬ t1 = 0 then (if x1 < 0 then some ((-2), v) else (if x1 ≤ 99 then (if mIn x0 6 = true then (if mIn x0 6 = true then some (((Group_wills (Room_group (One_now v))) (x0).toNatClampNeg), (One_now_s v (Room_group_s (One_now v) (Group_wills_s (Room_group (One_now v)) (upd (Group_wills (Room_group (One_now v))) (x0).toNatClampNeg x1))))) else none) else none) else some ((-2), v))) else some ((-1), v))))

def fn_X7_out (v : OneV) (x0 : Int32) (x1 : Int32) : Option (Int32 × OneV) :=
  (Option.bind (fn_X7_isPupil v x0) (fun t1 => (if ¬ t1 = 0 then (if mIn x0 6 = true then (if mIn x0 6 = true then (if ((Group_outs (Room_group (One_now v))) (x0).toNatClampNeg) = 0 then some (0, (One_now_s v (Room_group_s (One_now v) (Group_outs_s (Room_group (One_now v)) (upd (Group_outs (Room_group (One_now v))) (x0).toNatClampNeg (vp_nar .boolean x1)))))) else some (1, (One_now_s v (Room_group_s (One_now v) (Group_outs_s (Room_group (One_now v)) (upd (Group_outs (Room_group (One_now v))) (x0).toNatClampNeg (vp_nar .boolean x1))))))) else none) else none) else some ((-1), v))))

def fn_X7_plan (v : OneV) (x0 : Int32) (x1 : Int32) : Option (Int32 × OneV) :=
  (if ¬ x0 = (-1) then (if x0 < 0 then some ((-1), v) else (if x0 ≤ 3 then jp (fun (_ : Unit) => (Option.bind (fn_X6_isFull (Room_plan (One_now v))) (fun t4 => (if t4 = 0 then (Option.bind (fn_X6_add (Room_plan (One_now v)) x0 x1) (fun t6 => some (t6.1, (One_now_s v (Room_plan_s (One_now v) t6.2))))) else some ((-4), v))))) (fun j41 => (if x0 = 0 then j41 () else (Option.bind (fn_X7_isPupil v x1) (fun t8 => (if ¬ t8 = 0 then j41 () else some ((-1), v)))))) else some ((-1), v))) else (Option.bind (fn_X6_clear (Room_plan (One_now v))) (fun t10 => some (t10.1, (One_now_s v (Room_plan_s (One_now v) t10.2))))))

def fn_X7_book (v : OneV) (x0 : Int32) (x1 : Int32) : Option (Int32 × OneV) :=
  (if ¬ x0 = (-1) then (Option.bind (fn_X7_isPupil v x0) (fun t2 => (if ¬ t2 = 0 then (if x1 < 0 then some ((-2), v) else (if x1 ≤ 9999 then (Option.bind (fn_X6_isFull (Room_book (One_now v))) (fun t6 => (if t6 = 0 then (Option.bind (fn_X6_add (Room_book (One_now v)) x0 x1) (fun t8 => some (t8.1, (One_now_s v (Room_book_s (One_now v) t8.2))))) else some ((-4), v)))) else some ((-2), v))) else some ((-1), v)))) else (Option.bind (fn_X6_clear (Room_book (One_now v))) (fun t9 => some (t9.1, (One_now_s v (Room_book_s (One_now v) t9.2))))))

def st_X7_looked_2 (v : OneV) (rec2 : Int32 → Option Int32) (y1_2 : Int32) : Option Int32 :=
  (if (Rows_size (Room_book (One_now v))) ≤ y1_2 then some (-5) else (if mIn y1_2 (Rows_len (Room_book (One_now v))) = true then (Option.bind (fn_X7_isPupil v ((Rows_firsts (Room_book (One_now v))) (y1_2).toNatClampNeg)) (fun t3 => jp (fun (_ : Unit) => rec2 (y1_2 + 1)) (fun j66 => (if t3 = 0 then j66 () else (if mIn ((Rows_firsts (Room_book (One_now v))) (y1_2).toNatClampNeg) 6 = true then (if mIn y1_2 (Rows_len (Room_book (One_now v))) = true then (if ((Group_hours (Room_group (One_now v))) (((Rows_firsts (Room_book (One_now v))) (y1_2).toNatClampNeg)).toNatClampNeg) = ((Rows_seconds (Room_book (One_now v))) (y1_2).toNatClampNeg) then j66 () else some y1_2) else none) else none))))) else none))
def lp_X7_looked_2 (v : OneV) : Nat → Int32 → Option Int32
  | 0 => fun _ => none
  | n + 1 => st_X7_looked_2 v (lp_X7_looked_2 v n)
def fn_X7_looked (v : OneV) : Option Int32 :=
  lp_X7_looked_2 v m_N 0

def fn_X7_act (v : OneV) (x0 : Int32) (x1 : Int32) (x2 : Int32) : Option (Int32 × OneV) :=
  (Option.bind (fn_X7_isPupil (One_acts_s v (Acts_ran_s (One_acts v) 0)) x0) (fun t1 => (if ¬ t1 = 0 then (if mIn x0 6 = true then (if mIn x0 6 = true then (if x1 = 0 then (Option.bind (fn_X0_thinks 3 (Acts_i_s (Acts_v_s (Acts_kind_s (Acts_ran_s (One_acts v) 0) ((Group_kinds (Room_group (One_now v))) (x0).toNatClampNeg)) ((Group_vs (Room_group (One_now v))) (x0).toNatClampNeg)) x0) ((Group_kinds (Room_group (One_now v))) (x0).toNatClampNeg) x2 0) (fun t6 => some (t6.1, (One_acts_s v t6.2)))) else (if x1 = 1 then (Option.bind (fn_X0_writes 3 (Acts_i_s (Acts_v_s (Acts_kind_s (Acts_ran_s (One_acts v) 0) ((Group_kinds (Room_group (One_now v))) (x0).toNatClampNeg)) ((Group_vs (Room_group (One_now v))) (x0).toNatClampNeg)) x0) ((Group_kinds (Room_group (One_now v))) (x0).toNatClampNeg) x2 0) (fun t8 => some (t8.1, (One_acts_s v t8.2)))) else (if x1 = 2 then (Option.bind (fn_X0_tells 3 (Acts_i_s (Acts_v_s (Acts_kind_s (Acts_ran_s (One_acts v) 0) ((Group_kinds (Room_group (One_now v))) (x0).toNatClampNeg)) ((Group_vs (Room_group (One_now v))) (x0).toNatClampNeg)) x0) ((Group_kinds (Room_group (One_now v))) (x0).toNatClampNeg) x2 0) (fun t10 => some (t10.1, (One_acts_s v t10.2)))) else some (0, (One_acts_s v (Acts_i_s (Acts_v_s (Acts_kind_s (Acts_ran_s (One_acts v) 0) ((Group_kinds (Room_group (One_now v))) (x0).toNatClampNeg)) ((Group_vs (Room_group (One_now v))) (x0).toNatClampNeg)) x0)))))) else none) else none) else some (0, (One_acts_s v (Acts_ran_s (One_acts v) 0))))))

def fn_X7_as (v : OneV) (x0 : Int32) (x1 : Int32) : Option Int32 :=
  (Option.bind (fn_X7_isPupil v x0) (fun t1 => (if t1 = 0 then some (-1) else (Option.bind (fn_X7_isKind x1) (fun t3 => (if ¬ t3 = 0 then (if mIn x0 6 = true then (Option.bind (fn_X7_isUnder ((Group_kinds (Room_group (One_now v))) (x0).toNatClampNeg) x1) (fun t6 => (if t6 = 0 then some (-6) else (if mIn x0 6 = true then some ((Group_vs (Room_group (One_now v))) (x0).toNatClampNeg) else none)))) else none) else some (-1)))))))

def fn_X7_image (v : OneV) : Option (Int32 × OneV) :=
  (Option.bind (fn_X5_copyFrom (One_image v) (One_now v)) (fun t1 => some ((Group_size (Room_group (One_now v))), (One_imageIsTaken_s (One_image_s v t1) 1))))

def fn_X7_undo (v : OneV) : Option (Int32 × OneV) :=
  (if ¬ (One_imageIsTaken v) = 0 then (Option.bind (fn_X5_copyFrom (One_now v) (One_image v)) (fun t2 => some ((Group_size (Room_group t2)), (One_now_s v t2)))) else some ((-3), v))

def fn_X8_much (v : ModelV) (x0 : Int32) (x1 : Nat) : Option ModelV :=
  (Option.bind (fn_X8_spells v x1) (fun t1 => (Option.bind (fn_X8_figures t1) (fun t2 => (Option.bind (fn_X8_must t2.2 32) (fun t3 => (Option.bind (fn_X8_some 24 t3) (fun t4 => (Option.bind (fn_X8_emits t4 (x0 - t2.1)) (fun t5 => some t5))))))))))

def fn_X8_wordOfS (v : ModelV) : Option ModelV :=
  (Option.bind (fn_X8_must v 115) (fun t1 => (Option.bind (fn_X8_here t1) (fun t2 => (if ¬ t2 = 112 then (Option.bind (fn_X8_much t1 (-200) 3) (fun t4 => some t4)) else (Option.bind (fn_X8_much t1 (-10) 2) (fun t5 => some t5)))))))

def fn_X8_clauseHere (v : ModelV) : Option ModelV :=
  (Option.bind (fn_X8_here v) (fun t1 => (if t1 = 102 then (Option.bind (fn_X8_tellsHere v 216 5) (fun t3 => some t3)) else (if t1 = 103 then (Option.bind (fn_X8_tellsHere v 211 4) (fun t5 => some t5)) else (if t1 = 115 then (Option.bind (fn_X8_wordOfS v) (fun t7 => some t7)) else some (Model_isWrong_s v 1))))))

def st_X8_school_108 (j150 : ModelV → Option (Int32 × ModelV)) (rec108 : Int32 → ModelV → Option (Int32 × ModelV)) (y1_108 : Int32) (wy_108 : ModelV) : Option (Int32 × ModelV) :=
  (if ¬ (Model_isWrong wy_108) = 0 then j150 wy_108 else (if 10 ≤ y1_108 then j150 wy_108 else (Option.bind (fn_X8_here wy_108) (fun t17 => (if ¬ t17 = 59 then j150 wy_108 else (Option.bind (fn_X8_clauseHere (Model_spot_s wy_108 ((Model_spot wy_108) + 1))) (fun t19 => rec108 (y1_108 + 1) t19)))))))
def lp_X8_school_108 (j150 : ModelV → Option (Int32 × ModelV)) : Nat → Int32 → ModelV → Option (Int32 × ModelV)
  | 0 => fun _ _ => none
  | n + 1 => st_X8_school_108 j150 (lp_X8_school_108 j150 n)
def fn_X8_school (v : ModelV) : Option (Int32 × ModelV) :=
  (if mIn 21 926 = true then (if ¬ ((Model_s v) (21 : Int32).toNatClampNeg) = 5 then (if mIn 21 926 = true then (if mIn 25 926 = true then (if mIn 25 926 = true then (if mIn (211 + ((Model_s v) (21 : Int32).toNatClampNeg)) 926 = true then (if mIn (216 + ((Model_s v) (21 : Int32).toNatClampNeg)) 926 = true then (if mIn (221 + ((Model_s v) (21 : Int32).toNatClampNeg)) 926 = true then (Option.bind (fn_X8_clauseHere (Model_open_s (Model_isWrong_s (Model_end_s (Model_spot_s (Model_act_s (Model_s_s v (upd (upd (upd (upd (Model_s v) (25 : Int32).toNatClampNeg 0) ((211 + ((Model_s v) (21 : Int32).toNatClampNeg))).toNatClampNeg 60) ((216 + ((Model_s v) (21 : Int32).toNatClampNeg))).toNatClampNeg 2) ((221 + ((Model_s v) (21 : Int32).toNatClampNeg))).toNatClampNeg 0)) ((Model_s v) (21 : Int32).toNatClampNeg)) 0) ((Model_s v) (25 : Int32).toNatClampNeg)) 0) 0)) (fun t9 => jp (fun (wx_150 : ModelV) => jp (fun (_ : Unit) => some (((-10) - (Model_spot wx_150)), wx_150)) (fun j168 => (if ¬ (Model_isWrong wx_150) = 0 then j168 () else (if (Model_spot wx_150) = (Model_end wx_150) then (if mIn 21 926 = true then (if mIn 21 926 = true then (if mIn 26 926 = true then some ((Model_act wx_150), (Model_s_s wx_150 (upd (upd (Model_s wx_150) (21 : Int32).toNatClampNeg (((Model_s wx_150) (21 : Int32).toNatClampNeg) + 1)) (26 : Int32).toNatClampNeg (Model_act wx_150)))) else none) else none) else none) else j168 ())))) (fun j150 => lp_X8_school_108 j150 m_N 1 t9))) else none) else none) else none) else none) else none) else none) else some ((-4), v)) else none)

def st_X8_part_35 (v : ModelV) (x0 : Int32) (j123 : Int64 → ModelV → Option (Int64 × ModelV)) (rec35 : Int64 → Int32 → ModelV → Option (Int64 × ModelV)) (y4_35 : Int64) (y6_35 : Int32) (wy_35 : ModelV) : Option (Int64 × ModelV) :=
  (Option.bind (fn_X8_everybody wy_35) (fun t8 => (if t8 < y6_35 then j123 y4_35 wy_35 else jp (fun (x4_117 : Int64) (wx_117 : ModelV) => rec35 x4_117 (y6_35 + 1) wx_117) (fun j117 => (if ¬ ((y6_35 >>> (x0 &&& 31)) &&& 1) = 0 then j117 y4_35 wy_35 else (Option.bind (fn_X8_workBy wy_35 (y6_35 ||| ((1 : Int32) <<< (x0 &&& 31))) 5) (fun t11 => jp (fun (z0_82 : Int32) (wx_82 : ModelV) => (Option.bind (fn_X8_countOf y6_35) (fun t12 => (Option.bind (fn_X8_factorial t12) (fun t13 => (Option.bind (fn_X8_countOf y6_35) (fun t14 => (Option.bind (fn_X8_factorial ((((Model_s v) (20 : Int32).toNatClampNeg) - 1) - t14)) (fun t15 => j117 (y4_35 + ((t13 * t15) * ((t11.1 - z0_82)).toInt64)) wx_82))))))))) (fun j82 => (if ¬ y6_35 = 0 then (Option.bind (fn_X8_workBy t11.2 y6_35 5) (fun t17 => j82 t17.1 t17.2)) else j82 0 t11.2)))))))))
def lp_X8_part_35 (v : ModelV) (x0 : Int32) (j123 : Int64 → ModelV → Option (Int64 × ModelV)) : Nat → Int64 → Int32 → ModelV → Option (Int64 × ModelV)
  | 0 => fun _ _ _ => none
  | n + 1 => st_X8_part_35 v x0 j123 (lp_X8_part_35 v x0 j123 n)
def fn_X8_part (v : ModelV) (x0 : Int32) (x1 : Int32) : Option (Int64 × ModelV) :=
  (Option.bind (fn_X8_isPupil v x0) (fun t1 => jp (fun (_ : Unit) => some ((-9223372036854775808 : Int64), v)) (fun j17 => (if t1 = 0 then j17 () else (Option.bind (fn_X8_in x1 0 1) (fun t3 => (if ¬ t3 = 0 then (if mIn 20 926 = true then jp (fun (x4_123 : Int64) (wx_123 : ModelV) => (Option.bind (fn_X8_factorial ((Model_s v) (20 : Int32).toNatClampNeg)) (fun t6 => (Option.bind (fn_X8_lowest x4_123 t6 x1) (fun t7 => some (t7, wx_123)))))) (fun j123 => lp_X8_part_35 v x0 j123 m_N (0 : Int64) 0 v) else none) else j17 ())))))))

def st_X4_readEither_28 (r_X4_readPart : ReaderV → Int32 → Option (Int32 × ReaderV)) (x0 : Int32) (j81 : ReaderV → Option (Int32 × ReaderV)) (j49 : ReaderV → Option (Int32 × ReaderV)) (rec28 : Int32 → ReaderV → Option (Int32 × ReaderV)) (y3_28 : Int32) (wy_28 : ReaderV) : Option (Int32 × ReaderV) :=
  (if (Reader_size wy_28) < y3_28 then j81 wy_28 else jp (fun (wx_52 : ReaderV) => (Option.bind (r_X4_readPart wx_52 x0) (fun t5 => (if ¬ t5.1 = 0 then jp (fun (wx_75 : ReaderV) => rec28 (y3_28 + 1) wx_75) (fun j75 => (if y3_28 ≤ 0 then j75 t5.2 else (Option.bind (fn_X3_addCode (Reader_lesson t5.2) (-2)) (fun t8 => j75 (Reader_lesson_s t5.2 t8))))) else some (0, t5.2))))) (fun j52 => (if y3_28 ≤ 0 then j52 wy_28 else (Option.bind (fn_X4_take wy_28 38) (fun t10 => (if ¬ t10.1 = 0 then j52 t10.2 else j49 t10.2))))))
def lp_X4_readEither_28 (r_X4_readPart : ReaderV → Int32 → Option (Int32 × ReaderV)) (x0 : Int32) (j81 : ReaderV → Option (Int32 × ReaderV)) (j49 : ReaderV → Option (Int32 × ReaderV)) : Nat → Int32 → ReaderV → Option (Int32 × ReaderV)
  | 0 => fun _ _ => none
  | n + 1 => st_X4_readEither_28 r_X4_readPart x0 j81 j49 (lp_X4_readEither_28 r_X4_readPart x0 j81 j49 n)
def st_X4_readEither_2 (r_X4_readPart : ReaderV → Int32 → Option (Int32 × ReaderV)) (x0 : Int32) (j23 : ReaderV → Option (Int32 × ReaderV)) (rec2 : Int32 → ReaderV → Option (Int32 × ReaderV)) (y2_2 : Int32) (wy_2 : ReaderV) : Option (Int32 × ReaderV) :=
  (if (Reader_size wy_2) < y2_2 then some (1, wy_2) else jp (fun (wx_26 : ReaderV) => jp (fun (wx_81 : ReaderV) => jp (fun (wx_94 : ReaderV) => rec2 (y2_2 + 1) wx_94) (fun j94 => (if y2_2 ≤ 0 then j94 wx_81 else (Option.bind (fn_X3_addCode (Reader_lesson wx_81) (-3)) (fun t3 => j94 (Reader_lesson_s wx_81 t3)))))) (fun j81 => jp (fun (wx_49 : ReaderV) => j81 wx_49) (fun j49 => lp_X4_readEither_28 r_X4_readPart x0 j81 j49 m_N 0 wx_26))) (fun j26 => (if y2_2 ≤ 0 then j26 wy_2 else (Option.bind (fn_X4_take wy_2 124) (fun t13 => (if ¬ t13.1 = 0 then j26 t13.2 else j23 t13.2))))))
def lp_X4_readEither_2 (r_X4_readPart : ReaderV → Int32 → Option (Int32 × ReaderV)) (x0 : Int32) (j23 : ReaderV → Option (Int32 × ReaderV)) : Nat → Int32 → ReaderV → Option (Int32 × ReaderV)
  | 0 => fun _ _ => none
  | n + 1 => st_X4_readEither_2 r_X4_readPart x0 j23 (lp_X4_readEither_2 r_X4_readPart x0 j23 n)
def bd_X4_readEither (r_X4_readEither : ReaderV → Int32 → Option (Int32 × ReaderV)) (r_X4_readPart : ReaderV → Int32 → Option (Int32 × ReaderV)) (v : ReaderV) (x0 : Int32) : Option (Int32 × ReaderV) :=
  jp (fun (wx_23 : ReaderV) => some (1, wx_23)) (fun j23 => lp_X4_readEither_2 r_X4_readPart x0 j23 m_N 0 v)
def bd_X4_readPart (r_X4_readEither : ReaderV → Int32 → Option (Int32 × ReaderV)) (r_X4_readPart : ReaderV → Int32 → Option (Int32 × ReaderV)) (v : ReaderV) (x0 : Int32) : Option (Int32 × ReaderV) :=
  jp (fun (wx_36 : ReaderV) => jp (fun (wx_75 : ReaderV) => (Option.bind (fn_X4_takeOneOf wx_75 0) (fun t1 => (if 0 ≤ t1.1 then (Option.bind (fn_X4_takeOneOf t1.2 1) (fun t3 => (if t3.1 < 0 then some (0, t3.2) else (Option.bind (fn_X4_readNumber t3.2) (fun t5 => (if ¬ t5.1 = 0 then (Option.bind (fn_X3_addTest (Reader_lesson t5.2) t1.1 t3.1 (Reader_number t5.2)) (fun t7 => some (1, (Reader_lesson_s t5.2 t7)))) else some (0, t5.2))))))) else some (0, t1.2))))) (fun j75 => (if 5 ≤ x0 then j75 wx_36 else (Option.bind (fn_X4_take wx_36 40) (fun t9 => (if t9.1 = 0 then j75 t9.2 else (Option.bind (r_X4_readEither t9.2 (x0 + 1)) (fun t11 => (if t11.1 = 0 then some (0, t11.2) else (Option.bind (fn_X4_take t11.2 41) (fun t13 => (if t13.1 = 0 then some (0, t13.2) else some (1, t13.2))))))))))))) (fun j36 => (if 5 ≤ x0 then j36 v else (Option.bind (fn_X4_take v 33) (fun t16 => (if t16.1 = 0 then j36 t16.2 else (Option.bind (r_X4_readPart t16.2 (x0 + 1)) (fun t18 => (if ¬ t18.1 = 0 then (Option.bind (fn_X3_addCode (Reader_lesson t18.2) (-1)) (fun t20 => some (1, (Reader_lesson_s t18.2 t20)))) else some (0, t18.2)))))))))
def gr_Rd : Nat → (ReaderV → Int32 → Option (Int32 × ReaderV)) × (ReaderV → Int32 → Option (Int32 × ReaderV))
  | 0 => (fun _ _ => none, fun _ _ => none)
  | d + 1 => (bd_X4_readEither (gr_Rd d).1 (gr_Rd d).2, bd_X4_readPart (gr_Rd d).1 (gr_Rd d).2)
abbrev fn_X4_readEither (d : Nat) : ReaderV → Int32 → Option (Int32 × ReaderV) := (gr_Rd d).1
abbrev fn_X4_readPart (d : Nat) : ReaderV → Int32 → Option (Int32 × ReaderV) := (gr_Rd d).2

def fn_X2_doesOf (v : GroupV) (v1 : LessonV) (x0 : Int32) : Option Int32 :=
  (if mIn x0 6 = true then (if ((Group_outs v) (x0).toNatClampNeg) = 0 then (Option.bind (fn_X3_zealOf v1 v x0) (fun t3 => (if mIn x0 6 = true then jp (fun (x4_138 : Int32) => (if mIn x0 6 = true then some (mMax 0 (mMin x4_138 ((Group_wills v) (x0).toNatClampNeg))) else none)) (fun j138 => (if ((Group_kinds v) (x0).toNatClampNeg) = 1 then (if mIn x0 6 = true then j138 (t3 + (((Group_vs v) (x0).toNatClampNeg) / 2)) else none) else (if ((Group_kinds v) (x0).toNatClampNeg) = 2 then j138 (t3 / 2) else (if ((Group_kinds v) (x0).toNatClampNeg) = 3 then j138 t3 else (if ((Group_kinds v) (x0).toNatClampNeg) = 4 then (if mIn x0 6 = true then (Option.bind (fn_X2_countIn v) (fun t12 => j138 (((t3 + (((Group_vs v) (x0).toNatClampNeg) / 2)) + (Group_size v)) - t12))) else none) else (if ((Group_kinds v) (x0).toNatClampNeg) = 5 then (Option.bind (fn_X2_countBetter v x0) (fun t14 => j138 ((t3 / 2) - t14))) else (if ((Group_kinds v) (x0).toNatClampNeg) = 6 then (Option.bind (fn_X2_rowNow v x0) (fun t16 => j138 (t3 + t16))) else j138 t3))))))) else none))) else some 0) else none)

def st_X2_goWeeks_44 (x2 : Int32) (j124 : GroupV → Option GroupV) (rec44 : Int32 → GroupV → Option GroupV) (y5_44 : Int32) (wy_44 : GroupV) : Option GroupV :=
  (if (Group_size wy_44) ≤ y5_44 then j124 wy_44 else (if mIn y5_44 6 = true then (if mIn y5_44 6 = true then (if mIn y5_44 6 = true then (if mIn y5_44 6 = true then (if mIn y5_44 6 = true then jp (fun (wx_118 : GroupV) => rec44 (y5_44 + 1) wx_118) (fun j118 => (if x2 = 0 then j118 (Group_hours_s (Group_work_s wy_44 ((Group_work wy_44) + (((Group_does wy_44) (y5_44).toNatClampNeg) * ((Group_skills wy_44) (y5_44).toNatClampNeg)))) (upd (Group_hours wy_44) (y5_44).toNatClampNeg (((Group_hours wy_44) (y5_44).toNatClampNeg) + ((Group_does wy_44) (y5_44).toNatClampNeg)))) else (if mIn y5_44 6 = true then (if mIn y5_44 6 = true then j118 (Group_hours_s (Group_work_s wy_44 ((Group_work wy_44) + (((Group_does wy_44) (y5_44).toNatClampNeg) * ((Group_skills wy_44) (y5_44).toNatClampNeg)))) (upd (upd (Group_hours wy_44) (y5_44).toNatClampNeg (((Group_hours wy_44) (y5_44).toNatClampNeg) + ((Group_does wy_44) (y5_44).toNatClampNeg))) (y5_44).toNatClampNeg (mMin ((upd (Group_hours wy_44) (y5_44).toNatClampNeg (((Group_hours wy_44) (y5_44).toNatClampNeg) + ((Group_does wy_44) (y5_44).toNatClampNeg))) (y5_44).toNatClampNeg) 9999))) else none) else none))) else none) else none) else none) else none) else none))
def lp_X2_goWeeks_44 (x2 : Int32) (j124 : GroupV → Option GroupV) : Nat → Int32 → GroupV → Option GroupV
  | 0 => fun _ _ => none
  | n + 1 => st_X2_goWeeks_44 x2 j124 (lp_X2_goWeeks_44 x2 j124 n)
def st_X2_goWeeks_12 (v0 : LessonV) (j41 : GroupV → Option GroupV) (rec12 : Int32 → GroupV → Option GroupV) (y5_12 : Int32) (wy_12 : GroupV) : Option GroupV :=
  (if (Group_size wy_12) ≤ y5_12 then j41 wy_12 else (Option.bind (fn_X2_doesOf wy_12 v0 y5_12) (fun t14 => (if mIn y5_12 6 = true then rec12 (y5_12 + 1) (Group_does_s wy_12 (upd (Group_does wy_12) (y5_12).toNatClampNeg t14)) else none))))
def lp_X2_goWeeks_12 (v0 : LessonV) (j41 : GroupV → Option GroupV) : Nat → Int32 → GroupV → Option GroupV
  | 0 => fun _ _ => none
  | n + 1 => st_X2_goWeeks_12 v0 j41 (lp_X2_goWeeks_12 v0 j41 n)
def st_X2_goWeeks_3 (v0 : LessonV) (x1 : Int32) (x2 : Int32) (rec3 : Int32 → GroupV → Option GroupV) (y4_3 : Int32) (wy_3 : GroupV) : Option GroupV :=
  (if x1 ≤ y4_3 then some wy_3 else jp (fun (wx_41 : GroupV) => jp (fun (wx_124 : GroupV) => jp (fun (wx_141 : GroupV) => (Option.bind (fn_X2_changeWills wx_141 (Lesson_fair v0)) (fun t2 => rec3 (y4_3 + 1) (Group_week_s t2 ((Group_week t2) + 1))))) (fun j141 => (if x2 = 0 then j141 wx_124 else j141 (Group_work_s wx_124 (mMin (Group_work wx_124) 99999))))) (fun j124 => lp_X2_goWeeks_44 x2 j124 m_N 0 wx_41)) (fun j41 => lp_X2_goWeeks_12 v0 j41 m_N 0 wy_3))
def lp_X2_goWeeks_3 (v0 : LessonV) (x1 : Int32) (x2 : Int32) : Nat → Int32 → GroupV → Option GroupV
  | 0 => fun _ _ => none
  | n + 1 => st_X2_goWeeks_3 v0 x1 x2 (lp_X2_goWeeks_3 v0 x1 x2 n)
def fn_X2_goWeeks (v : GroupV) (v0 : LessonV) (x1 : Int32) (x2 : Int32) : Option GroupV :=
  lp_X2_goWeeks_3 v0 x1 x2 m_N 0 v

def st_X2_claimsOfAll_4 (v : GroupV) (rec4 : Int32 → Int32 → Option Int32) (y1_4 : Int32) (y2_4 : Int32) : Option Int32 :=
  (if (Group_size v) ≤ y2_4 then some y1_4 else (Option.bind (fn_X2_claimOf v y2_4) (fun t2 => rec4 (y1_4 + t2) (y2_4 + 1))))
def lp_X2_claimsOfAll_4 (v : GroupV) : Nat → Int32 → Int32 → Option Int32
  | 0 => fun _ _ => none
  | n + 1 => st_X2_claimsOfAll_4 v (lp_X2_claimsOfAll_4 v n)
def fn_X2_claimsOfAll (v : GroupV) : Option Int32 :=
  lp_X2_claimsOfAll_4 v m_N 0 0

def st_X2_markOf_47 (v : GroupV) (x1 : Int32) (j84 : Int32 → Option Int32) (rec47 : Int32 → Int32 → Option Int32) (y5_47 : Int32) (y6_47 : Int32) : Option Int32 :=
  (if (Group_size v) ≤ y6_47 then j84 y5_47 else (if mIn y6_47 6 = true then jp (fun (x5_78 : Int32) => rec47 x5_78 (y6_47 + 1)) (fun j78 => (if ¬ ((Group_outs v) (y6_47).toNatClampNeg) = 0 then j78 y5_47 else (Option.bind (fn_X2_stakeOf v y6_47 x1) (fun t13 => j78 (y5_47 + t13))))) else none))
def lp_X2_markOf_47 (v : GroupV) (x1 : Int32) (j84 : Int32 → Option Int32) : Nat → Int32 → Int32 → Option Int32
  | 0 => fun _ _ => none
  | n + 1 => st_X2_markOf_47 v x1 j84 (lp_X2_markOf_47 v x1 j84 n)
def fn_X2_markOf (v : GroupV) (x0 : Int32) (x1 : Int32) (x2 : Int32) : Option Int32 :=
  (if mIn x0 6 = true then (if ((Group_outs v) (x0).toNatClampNeg) = 0 then (Option.bind (fn_X2_base v x2) (fun t3 => (if ¬ x1 = 0 then (if ¬ x1 = 3 then jp (fun (x5_84 : Int32) => (if ¬ x5_84 = 0 then (Option.bind (fn_X2_stakeOf v x0 x1) (fun t7 => (Option.bind (fn_X2_countIn v) (fun t8 => (if ¬ x5_84 = 0 then some (mMin 100 (((t3 * t7) * t8) / x5_84)) else none))))) else some t3)) (fun j84 => lp_X2_markOf_47 v x1 j84 m_N 0 0) else (Option.bind (fn_X2_leastSkillIn v) (fun t14 => some ((t3 * t14) / 9)))) else some t3))) else some 0) else none)

def st_X2_spreadOf_9 (v : GroupV) (x0 : Int32) (x1 : Int32) (j63 : Int32 → Int32 → Option Int32) (rec9 : Int32 → Int32 → Int32 → Option Int32) (y3_9 : Int32) (y4_9 : Int32) (y5_9 : Int32) : Option Int32 :=
  (if (Group_size v) ≤ y5_9 then j63 y3_9 y4_9 else (if mIn y5_9 6 = true then jp (fun (x3_57 : Int32) (x4_57 : Int32) => rec9 x3_57 x4_57 (y5_9 + 1)) (fun j57 => (if ((Group_outs v) (y5_9).toNatClampNeg) = 0 then (Option.bind (fn_X2_markOf v y5_9 x0 x1) (fun t4 => j57 (mMax y3_9 t4) (mMin y4_9 t4))) else j57 y3_9 y4_9)) else none))
def lp_X2_spreadOf_9 (v : GroupV) (x0 : Int32) (x1 : Int32) (j63 : Int32 → Int32 → Option Int32) : Nat → Int32 → Int32 → Int32 → Option Int32
  | 0 => fun _ _ _ => none
  | n + 1 => st_X2_spreadOf_9 v x0 x1 j63 (lp_X2_spreadOf_9 v x0 x1 j63 n)
def fn_X2_spreadOf (v : GroupV) (x0 : Int32) (x1 : Int32) : Option Int32 :=
  jp (fun (x3_63 : Int32) (x4_63 : Int32) => some (mMax 0 (x3_63 - x4_63))) (fun j63 => lp_X2_spreadOf_9 v x0 x1 j63 m_N 0 100 0)

def st_X2_awayFromHours_5 (v : GroupV) (x0 : Int32) (x1 : Int32) (rec5 : Int32 → Int32 → Option Int32) (y3_5 : Int32) (y4_5 : Int32) : Option Int32 :=
  (if (Group_size v) ≤ y4_5 then some y3_5 else (Option.bind (fn_X2_markOf v y4_5 x0 x1) (fun t2 => (Option.bind (fn_X2_markOf v y4_5 1 x1) (fun t3 => rec5 (y3_5 + (mAbs (t2 - t3))) (y4_5 + 1))))))
def lp_X2_awayFromHours_5 (v : GroupV) (x0 : Int32) (x1 : Int32) : Nat → Int32 → Int32 → Option Int32
  | 0 => fun _ _ => none
  | n + 1 => st_X2_awayFromHours_5 v x0 x1 (lp_X2_awayFromHours_5 v x0 x1 n)
def fn_X2_awayFromHours (v : GroupV) (x0 : Int32) (x1 : Int32) : Option Int32 :=
  lp_X2_awayFromHours_5 v x0 x1 m_N 0 0

def fn_X4_readClause (v : ReaderV) : Option (Int32 × ReaderV) :=
  (Option.bind (fn_X4_take v 103) (fun t1 => (if t1.1 = 0 then (Option.bind (fn_X4_take t1.2 102) (fun t3 => (if t3.1 = 0 then (Option.bind (fn_X4_take t3.2 115) (fun t5 => (if ¬ t5.1 = 0 then (Option.bind (fn_X4_take t5.2 112) (fun t7 => jp (fun (z0_110 : Nat) => (Option.bind (fn_X4_readWord t7.2 z0_110) (fun t8 => (if t8.1 = 0 then some (0, t8.2) else (Option.bind (fn_X4_readNumber t8.2) (fun t10 => (if ¬ t10.1 = 0 then jp (fun (z0_141 : Int32) => (Option.bind (fn_X4_take t10.2 32) (fun t12 => (if t12.1 = 0 then some (0, t12.2) else (Option.bind (fn_X4_readEither 24 t12.2 0) (fun t14 => (if ¬ t14.1 = 0 then (Option.bind (fn_X3_addSpur (Reader_lesson t14.2) z0_141) (fun t16 => some (1, (Reader_lesson_s t14.2 t16)))) else some (0, t14.2)))))))) (fun j141 => (if t7.1 = 0 then j141 (-(Reader_number t10.2)) else j141 (Reader_number t10.2))) else some (0, t10.2)))))))) (fun j110 => (if t7.1 = 0 then j110 3 else j110 8)))) else some (0, t5.2)))) else (Option.bind (fn_X4_readWord t3.2 7) (fun t19 => (if t19.1 = 0 then some (0, t19.2) else (Option.bind (fn_X4_readNumber t19.2) (fun t21 => (if ¬ t21.1 = 0 then some (1, (Reader_lesson_s t21.2 (Lesson_fair_s (Reader_lesson t21.2) (Reader_number t21.2)))) else some (0, t21.2)))))))))) else (Option.bind (fn_X4_readWord t1.2 6) (fun t23 => (if t23.1 = 0 then some (0, t23.2) else (Option.bind (fn_X4_readNumber t23.2) (fun t25 => (if ¬ t25.1 = 0 then some (1, (Reader_lesson_s t25.2 (Lesson_toldGoal_s (Reader_lesson t25.2) (Reader_number t25.2)))) else some (0, t25.2))))))))))

def fn_X7_of (v : OneV) (le : LessonV) (ea : Nat) (x0 : Int32) (x1 : Int32) : Option Int32 :=
  (Option.bind (fn_X7_isPupil v x0) (fun t1 => (if ¬ t1 = 0 then (if x1 = 0 then (if mIn x0 6 = true then some ((Group_kinds (Room_group (One_now v))) (x0).toNatClampNeg) else none) else (if x1 = 1 then (if mIn x0 6 = true then some ((Group_vs (Room_group (One_now v))) (x0).toNatClampNeg) else none) else (if x1 = 2 then (if mIn x0 6 = true then some ((Group_skills (Room_group (One_now v))) (x0).toNatClampNeg) else none) else (if x1 = 3 then (if mIn x0 6 = true then some ((Group_wills (Room_group (One_now v))) (x0).toNatClampNeg) else none) else (if x1 = 4 then (if mIn x0 6 = true then some ((Group_hours (Room_group (One_now v))) (x0).toNatClampNeg) else none) else (if x1 = 5 then (if mIn x0 6 = true then (if ((Group_outs (Room_group (One_now v))) (x0).toNatClampNeg) = 0 then some 0 else some 1) else none) else (if x1 = 6 then (Option.bind (fn_X5_lesson (One_now v)) (fun t17 => (if t17 = ea then (Option.bind (fn_X3_zealOf le (Room_group (One_now v)) x0) (fun t19 => some t19)) else none))) else (if x1 = 7 then (Option.bind (fn_X5_lesson (One_now v)) (fun t21 => (if t21 = ea then (Option.bind (fn_X2_doesOf (Room_group (One_now v)) le x0) (fun t23 => some t23)) else none))) else (if x1 = 8 then (Option.bind (fn_X2_shareOf (Room_group (One_now v)) x0) (fun t25 => some t25)) else (if x1 = 9 then (Option.bind (fn_X2_claimOf (Room_group (One_now v)) x0) (fun t27 => some t27)) else some (-1))))))))))) else some (-1))))

def fn_X7_told (v : OneV) (le : LessonV) (ea : Nat) (x0 : Int32) : Option Int32 :=
  (if x0 = 0 then some (Group_week (Room_group (One_now v))) else (if x0 = 1 then some (Group_work (Room_group (One_now v))) else (if x0 = 2 then (Option.bind (fn_X5_lesson (One_now v)) (fun t4 => (if t4 = ea then (Option.bind (fn_X3_goal le) (fun t6 => some t6)) else none))) else (if x0 = 3 then (Option.bind (fn_X5_lesson (One_now v)) (fun t8 => (if t8 = ea then some (Lesson_fair le) else none))) else (if x0 = 4 then (Option.bind (fn_X2_hoursOfAll (Room_group (One_now v))) (fun t11 => some t11)) else (if x0 = 5 then (Option.bind (fn_X2_claimsOfAll (Room_group (One_now v))) (fun t13 => some t13)) else (if x0 = 6 then (Option.bind (fn_X5_lesson (One_now v)) (fun t15 => (if t15 = ea then (Option.bind (fn_X3_goal le) (fun t17 => (Option.bind (fn_X2_base (Room_group (One_now v)) t17) (fun t18 => some t18)))) else none))) else some (-1))))))))

def fn_X7_mark (v : OneV) (le : LessonV) (ea : Nat) (x0 : Int32) (x1 : Int32) : Option Int32 :=
  (Option.bind (fn_X7_isPupil v x0) (fun t1 => (if t1 = 0 then some (-1) else (Option.bind (fn_X7_isRule x1) (fun t3 => (if ¬ t3 = 0 then (Option.bind (fn_X5_lesson (One_now v)) (fun t5 => (if t5 = ea then (Option.bind (fn_X3_goal le) (fun t7 => (Option.bind (fn_X2_markOf (Room_group (One_now v)) x0 x1 t7) (fun t8 => some t8)))) else none))) else some (-1)))))))

def fn_X7_pass (v : OneV) (le : LessonV) (ea : Nat) (x0 : Int32) : Option (Int32 × OneV) :=
  (if x0 < 0 then some ((-2), v) else (if x0 ≤ 60 then (if ((Group_week (Room_group (One_now v))) + x0) ≤ 9999 then (Option.bind (fn_X5_lesson (One_now v)) (fun t4 => (if t4 = ea then (Option.bind (fn_X2_goWeeks (Room_group (One_now v)) le x0 1) (fun t6 => some ((Group_work t6), (One_now_s v (Room_group_s (One_now v) t6))))) else none))) else some ((-3), v)) else some ((-2), v)))

def fn_X7_spread (v : OneV) (le : LessonV) (ea : Nat) (x0 : Int32) : Option Int32 :=
  (Option.bind (fn_X7_isRule x0) (fun t1 => (if ¬ t1 = 0 then (Option.bind (fn_X5_lesson (One_now v)) (fun t3 => (if t3 = ea then (Option.bind (fn_X3_goal le) (fun t5 => (Option.bind (fn_X2_spreadOf (Room_group (One_now v)) x0 t5) (fun t6 => some t6)))) else none))) else some (-1))))

def fn_X7_nearest (v : OneV) (le : LessonV) (ea : Nat) : Option Int32 :=
  (Option.bind (fn_X5_lesson (One_now v)) (fun t1 => (if t1 = ea then (Option.bind (fn_X3_goal le) (fun t3 => (Option.bind (fn_X2_awayFromHours (Room_group (One_now v)) 2 t3) (fun t4 => (Option.bind (fn_X2_awayFromHours (Room_group (One_now v)) 0 t3) (fun t5 => jp (fun (x3_38 : Int32) => (Option.bind (fn_X2_awayFromHours (Room_group (One_now v)) 3 t3) (fun t6 => (Option.bind (fn_X2_awayFromHours (Room_group (One_now v)) x3_38 t3) (fun t7 => (if t7 ≤ t6 then some x3_38 else some 3)))))) (fun j38 => (if t5 ≤ t4 then j38 0 else j38 2)))))))) else none)))

def fn_X1_go (v : ForecastV) (le : LessonV) (ea : Nat) (x0 : Int32) : Option ForecastV :=
  (if (Forecast_lesson v) = ea then (Option.bind (fn_X2_goWeeks (Forecast_trial v) le x0 0) (fun t2 => some (Forecast_trial_s v t2))) else none)

def st_X1_workOf_8 (x1 : Int32) (j50 : ForecastV → Option (Int32 × ForecastV)) (rec8 : Int32 → ForecastV → Option (Int32 × ForecastV)) (y4_8 : Int32) (wy_8 : ForecastV) : Option (Int32 × ForecastV) :=
  (if (Group_size (Forecast_trial wy_8)) ≤ y4_8 then j50 wy_8 else jp (fun (z0_43 : Int32) => (if mIn y4_8 6 = true then rec8 (y4_8 + 1) (Forecast_trial_s wy_8 (Group_outs_s (Forecast_trial wy_8) (upd (Group_outs (Forecast_trial wy_8)) (y4_8).toNatClampNeg (vp_nar .boolean z0_43)))) else none)) (fun j43 => (if ¬ ((x1 >>> (y4_8 &&& 31)) &&& 1) = 0 then j43 0 else j43 1)))
def lp_X1_workOf_8 (x1 : Int32) (j50 : ForecastV → Option (Int32 × ForecastV)) : Nat → Int32 → ForecastV → Option (Int32 × ForecastV)
  | 0 => fun _ _ => none
  | n + 1 => st_X1_workOf_8 x1 j50 (lp_X1_workOf_8 x1 j50 n)
def fn_X1_workOf (v : ForecastV) (v0 : RoomV) (le : LessonV) (ea : Nat) (x1 : Int32) (x2 : Int32) : Option (Int32 × ForecastV) :=
  (Option.bind (fn_X1_begin v v0) (fun t1 => jp (fun (wx_50 : ForecastV) => (if (Forecast_lesson wx_50) = ea then (Option.bind (fn_X2_goWeeks (Forecast_trial wx_50) le x2 0) (fun t3 => (Option.bind (fn_X1_workMore (Forecast_trial_s wx_50 t3)) (fun t6 => some (t6, (Forecast_trial_s wx_50 t3)))))) else none)) (fun j50 => lp_X1_workOf_8 x1 j50 m_N 0 t1)))

def st_X1_meets_10 (v0 : RowsV) (y2_2 : Int32) (wy_2 : ForecastV) (j49 : Unit → Option (Int32 × ForecastV)) (rec10 : Int32 → Option (Int32 × ForecastV)) (y3_10 : Int32) : Option (Int32 × ForecastV) :=
  (if (Rows_size v0) ≤ y3_10 then j49 () else (if mIn y3_10 (Rows_len v0) = true then jp (fun (_ : Unit) => rec10 (y3_10 + 1)) (fun j43 => (if ¬ ((Rows_seconds v0) (y3_10).toNatClampNeg) = y2_2 then j43 () else (if mIn y3_10 (Rows_len v0) = true then (Option.bind (fn_X1_workMore wy_2) (fun t10 => (if ((Rows_firsts v0) (y3_10).toNatClampNeg) = t10 then j43 () else some (0, wy_2)))) else none))) else none))
def lp_X1_meets_10 (v0 : RowsV) (y2_2 : Int32) (wy_2 : ForecastV) (j49 : Unit → Option (Int32 × ForecastV)) : Nat → Int32 → Option (Int32 × ForecastV)
  | 0 => fun _ => none
  | n + 1 => st_X1_meets_10 v0 y2_2 wy_2 j49 (lp_X1_meets_10 v0 y2_2 wy_2 j49 n)
def st_X1_meets_2 (v0 : RowsV) (le : LessonV) (ea : Nat) (rec2 : Int32 → ForecastV → Option (Int32 × ForecastV)) (y2_2 : Int32) (wy_2 : ForecastV) : Option (Int32 × ForecastV) :=
  (if 20 < y2_2 then some (1, wy_2) else jp (fun (_ : Unit) => (if (Forecast_lesson wy_2) = ea then (Option.bind (fn_X2_goWeeks (Forecast_trial wy_2) le 1 0) (fun t3 => rec2 (y2_2 + 1) (Forecast_trial_s wy_2 t3))) else none)) (fun j49 => lp_X1_meets_10 v0 y2_2 wy_2 j49 m_N 0))
def lp_X1_meets_2 (v0 : RowsV) (le : LessonV) (ea : Nat) : Nat → Int32 → ForecastV → Option (Int32 × ForecastV)
  | 0 => fun _ _ => none
  | n + 1 => st_X1_meets_2 v0 le ea (lp_X1_meets_2 v0 le ea n)
def fn_X1_meets (v : ForecastV) (v0 : RowsV) (le : LessonV) (ea : Nat) : Option (Int32 × ForecastV) :=
  lp_X1_meets_2 v0 le ea m_N 0 v

def st_X1_follow_2 (v0 : RowsV) (le : LessonV) (ea : Nat) (rec2 : Int32 → ForecastV → Option ForecastV) (y2_2 : Int32) (wy_2 : ForecastV) : Option ForecastV :=
  (if (Rows_size v0) ≤ y2_2 then some wy_2 else (if mIn y2_2 (Rows_len v0) = true then (if mIn y2_2 (Rows_len v0) = true then jp (fun (wx_104 : ForecastV) => rec2 (y2_2 + 1) wx_104) (fun j104 => (if ¬ ((Rows_firsts v0) (y2_2).toNatClampNeg) = 0 then (if ((Rows_seconds v0) (y2_2).toNatClampNeg) < 0 then j104 wy_2 else (if ((Rows_seconds v0) (y2_2).toNatClampNeg) < (Group_size (Forecast_trial wy_2)) then (if ¬ ((Rows_firsts v0) (y2_2).toNatClampNeg) = 3 then jp (fun (z0_103 : Int32) => (if mIn ((Rows_seconds v0) (y2_2).toNatClampNeg) 6 = true then j104 (Forecast_trial_s wy_2 (Group_outs_s (Forecast_trial wy_2) (upd (Group_outs (Forecast_trial wy_2)) (((Rows_seconds v0) (y2_2).toNatClampNeg)).toNatClampNeg (vp_nar .boolean z0_103)))) else none)) (fun j103 => (if ¬ ((Rows_firsts v0) (y2_2).toNatClampNeg) = 1 then j103 0 else j103 1)) else (if mIn ((Rows_seconds v0) (y2_2).toNatClampNeg) 6 = true then j104 (Forecast_trial_s wy_2 (Group_wills_s (Forecast_trial wy_2) (upd (Group_wills (Forecast_trial wy_2)) (((Rows_seconds v0) (y2_2).toNatClampNeg)).toNatClampNeg 99))) else none)) else j104 wy_2)) else (if (Forecast_lesson wy_2) = ea then (Option.bind (fn_X2_goWeeks (Forecast_trial wy_2) le 1 0) (fun t12 => j104 (Forecast_trial_s wy_2 t12))) else none))) else none) else none))
def lp_X1_follow_2 (v0 : RowsV) (le : LessonV) (ea : Nat) : Nat → Int32 → ForecastV → Option ForecastV
  | 0 => fun _ _ => none
  | n + 1 => st_X1_follow_2 v0 le ea (lp_X1_follow_2 v0 le ea n)
def fn_X1_follow (v : ForecastV) (v0 : RowsV) (le : LessonV) (ea : Nat) : Option ForecastV :=
  lp_X1_follow_2 v0 le ea m_N 0 v

def st_X4_readLesson_2 (j39 : ReaderV → Option (Int32 × ReaderV)) (j21 : ReaderV → Option (Int32 × ReaderV)) (rec2 : Int32 → ReaderV → Option (Int32 × ReaderV)) (y1_2 : Int32) (wy_2 : ReaderV) : Option (Int32 × ReaderV) :=
  (if 10 ≤ y1_2 then j39 wy_2 else jp (fun (wx_24 : ReaderV) => (Option.bind (fn_X4_readClause wx_24) (fun t3 => (if ¬ t3.1 = 0 then rec2 (y1_2 + 1) t3.2 else some (0, t3.2))))) (fun j24 => (if y1_2 ≤ 0 then j24 wy_2 else (Option.bind (fn_X4_take wy_2 59) (fun t6 => (if ¬ t6.1 = 0 then j24 t6.2 else j21 t6.2))))))
def lp_X4_readLesson_2 (j39 : ReaderV → Option (Int32 × ReaderV)) (j21 : ReaderV → Option (Int32 × ReaderV)) : Nat → Int32 → ReaderV → Option (Int32 × ReaderV)
  | 0 => fun _ _ => none
  | n + 1 => st_X4_readLesson_2 j39 j21 (lp_X4_readLesson_2 j39 j21 n)
def fn_X4_readLesson (v : ReaderV) : Option (Int32 × ReaderV) :=
  jp (fun (wx_39 : ReaderV) => (if ¬ (Reader_place wx_39) = (Reader_size wx_39) then some (0, wx_39) else some (1, wx_39))) (fun j39 => jp (fun (wx_21 : ReaderV) => j39 wx_21) (fun j21 => lp_X4_readLesson_2 j39 j21 m_N 0 v))

def fn_X7_on (v : OneV) (le : LessonV) (ea : Nat) (x0 : Int32) (x1 : Int32) : Option (Int32 × OneV) :=
  jp (fun (z0_22 : Int32) => jp (fun (z0_45 : Int32) => jp (fun (_ : Unit) => (if x0 < 0 then some ((-2), v) else (if x0 ≤ 60 then (Option.bind (fn_X1_begin (One_forecast v) (One_now v)) (fun t3 => (Option.bind (fn_X1_go t3 le ea x0) (fun t4 => (if z0_22 = 0 then (if z0_45 = 0 then (if ¬ x1 = 0 then (Option.bind (fn_X1_hoursMore t4) (fun t10 => some (t10, (One_forecast_s v t4)))) else (Option.bind (fn_X1_workMore t4) (fun t11 => some (t11, (One_forecast_s v t4))))) else (if mIn (x1 - 20) 6 = true then some (((Group_wills (Forecast_trial t4)) ((x1 - 20)).toNatClampNeg), (One_forecast_s v t4)) else none)) else (Option.bind (fn_X1_hoursMoreOf t4 (x1 - 10)) (fun t13 => some (t13, (One_forecast_s v t4))))))))) else some ((-2), v)))) (fun j67 => (if x1 = 0 then j67 () else (if x1 = 1 then j67 () else (if ¬ z0_22 = 0 then j67 () else (if ¬ z0_45 = 0 then j67 () else some ((-1), v))))))) (fun j45 => jp (fun (_ : Unit) => j45 0) (fun j44 => (if x1 < 20 then j44 () else (Option.bind (fn_X7_isPupil v (x1 - 20)) (fun t19 => (if t19 = 0 then j44 () else j45 1))))))) (fun j22 => jp (fun (_ : Unit) => j22 0) (fun j21 => (if x1 < 10 then j21 () else (Option.bind (fn_X7_isPupil v (x1 - 10)) (fun t22 => (if t22 = 0 then j21 () else j22 1))))))

def st_X7_ready_24 (le : LessonV) (ea : Nat) (t3 : Int32) (rec24 : Int32 → OneV → Option (Int32 × OneV)) (y2_24 : Int32) (wy_24 : OneV) : Option (Int32 × OneV) :=
  (if 60 < y2_24 then some ((-5), wy_24) else (if (Group_work (Forecast_trial (One_forecast wy_24))) < t3 then (Option.bind (fn_X1_go (One_forecast wy_24) le ea 1) (fun t8 => rec24 (y2_24 + 1) (One_forecast_s wy_24 t8))) else some (y2_24, wy_24)))
def lp_X7_ready_24 (le : LessonV) (ea : Nat) (t3 : Int32) : Nat → Int32 → OneV → Option (Int32 × OneV)
  | 0 => fun _ _ => none
  | n + 1 => st_X7_ready_24 le ea t3 (lp_X7_ready_24 le ea t3 n)
def fn_X7_ready (v : OneV) (le : LessonV) (ea : Nat) : Option (Int32 × OneV) :=
  (Option.bind (fn_X5_lesson (One_now v)) (fun t1 => (if t1 = ea then (Option.bind (fn_X3_goal le) (fun t3 => (Option.bind (fn_X1_begin (One_forecast v) (One_now v)) (fun t5 => lp_X7_ready_24 le ea t3 m_N 0 (One_forecast_s v t5))))) else none)))

def st_X7_throwOut_33 (le : LessonV) (ea : Nat) (rec33 : Int32 → Int32 → Int32 → OneV → Option (Int32 × OneV)) (y1_33 : Int32) (y2_33 : Int32) (y3_33 : Int32) (wy_33 : OneV) : Option (Int32 × OneV) :=
  (if (Group_size (Room_group (One_now wy_33))) ≤ y3_33 then some (y2_33, wy_33) else (if mIn y3_33 6 = true then jp (fun (x1_107 : Int32) (x2_107 : Int32) (wx_107 : OneV) => rec33 x1_107 x2_107 (y3_33 + 1) wx_107) (fun j107 => (if ((Group_outs (Room_group (One_now wy_33))) (y3_33).toNatClampNeg) = 0 then (Option.bind (fn_X1_beginWithout (One_forecast wy_33) (One_now wy_33) y3_33) (fun t9 => (Option.bind (fn_X1_go t9 le ea 20) (fun t10 => (Option.bind (fn_X1_workMore t10) (fun t13 => (if t13 ≤ y1_33 then j107 y1_33 y2_33 (One_forecast_s wy_33 t10) else (Option.bind (fn_X1_workMore t10) (fun t15 => j107 t15 y3_33 (One_forecast_s wy_33 t10)))))))))) else j107 y1_33 y2_33 wy_33)) else none))
def lp_X7_throwOut_33 (le : LessonV) (ea : Nat) : Nat → Int32 → Int32 → Int32 → OneV → Option (Int32 × OneV)
  | 0 => fun _ _ _ _ => none
  | n + 1 => st_X7_throwOut_33 le ea (lp_X7_throwOut_33 le ea n)
def fn_X7_throwOut (v : OneV) (le : LessonV) (ea : Nat) : Option (Int32 × OneV) :=
  (Option.bind (fn_X1_begin (One_forecast v) (One_now v)) (fun t1 => (Option.bind (fn_X1_go t1 le ea 20) (fun t2 => (Option.bind (fn_X1_workMore t2) (fun t5 => lp_X7_throwOut_33 le ea m_N t5 (-5) 0 (One_forecast_s v t2)))))))

def fn_X7_alone (v : OneV) (le : LessonV) (ea : Nat) (x0 : Int32) : Option (Int32 × OneV) :=
  (Option.bind (fn_X7_isPupil v x0) (fun t1 => (if ¬ t1 = 0 then (Option.bind (fn_X1_workOf (One_forecast v) (One_now v) le ea ((1 : Int32) <<< (x0 &&& 31)) 20) (fun t3 => some (t3.1, (One_forecast_s v t3.2)))) else some ((-1), v))))

def st_X7_team_50 (le : LessonV) (ea : Nat) (x0 : Int32) (j115 : Int32 → Int32 → OneV → Option (Int32 × OneV)) (rec50 : Int32 → Int32 → Int32 → OneV → Option (Int32 × OneV)) (y3_50 : Int32) (y4_50 : Int32) (y5_50 : Int32) (wy_50 : OneV) : Option (Int32 × OneV) :=
  (if ((1 : Int32) <<< ((Group_size (Room_group (One_now wy_50))) &&& 31)) ≤ y5_50 then j115 y3_50 y4_50 wy_50 else (Option.bind (fn_J6_bitCount_0f7a4 y5_50) (fun t6 => jp (fun (x3_109 : Int32) (x4_109 : Int32) (wx_109 : OneV) => rec50 x3_109 x4_109 (y5_50 + 1) wx_109) (fun j109 => (if t6 = x0 then (Option.bind (fn_X1_workOf (One_forecast wy_50) (One_now wy_50) le ea y5_50 10) (fun t8 => (if t8.1 ≤ y3_50 then j109 y3_50 y4_50 (One_forecast_s wy_50 t8.2) else j109 t8.1 y5_50 (One_forecast_s wy_50 t8.2)))) else j109 y3_50 y4_50 wy_50)))))
def lp_X7_team_50 (le : LessonV) (ea : Nat) (x0 : Int32) (j115 : Int32 → Int32 → OneV → Option (Int32 × OneV)) : Nat → Int32 → Int32 → Int32 → OneV → Option (Int32 × OneV)
  | 0 => fun _ _ _ _ => none
  | n + 1 => st_X7_team_50 le ea x0 j115 (lp_X7_team_50 le ea x0 j115 n)
def fn_X7_team (v : OneV) (le : LessonV) (ea : Nat) (x0 : Int32) (x1 : Int32) : Option (Int32 × OneV) :=
  jp (fun (_ : Unit) => (if x0 < 1 then some ((-2), v) else (if x0 ≤ 6 then (if x0 ≤ (Group_size (Room_group (One_now v))) then jp (fun (x3_115 : Int32) (x4_115 : Int32) (wx_115 : OneV) => (if ¬ x1 = 0 then some (x3_115, wx_115) else some (x4_115, wx_115))) (fun j115 => lp_X7_team_50 le ea x0 j115 m_N (-1) 0 0 v) else some ((-5), v)) else some ((-2), v)))) (fun j11 => (if x1 = 0 then j11 () else (if x1 = 1 then j11 () else some ((-1), v))))

def st_X7_split_51 (v : OneV) (le : LessonV) (ea : Nat) (j119 : Int32 → Int32 → OneV → Option (Int32 × OneV)) (rec51 : Int32 → Int32 → Int32 → OneV → Option (Int32 × OneV)) (y3_51 : Int32) (y4_51 : Int32) (y5_51 : Int32) (wy_51 : OneV) : Option (Int32 × OneV) :=
  (if (((1 : Int32) <<< ((Group_size (Room_group (One_now v))) &&& 31)) - 1) ≤ y5_51 then j119 y3_51 y4_51 wy_51 else (Option.bind (fn_X1_workOf (One_forecast wy_51) (One_now wy_51) le ea y5_51 10) (fun t4 => (Option.bind (fn_X1_workOf t4.2 (One_now wy_51) le ea ((((1 : Int32) <<< ((Group_size (Room_group (One_now v))) &&& 31)) - 1) - y5_51) 10) (fun t7 => jp (fun (x3_113 : Int32) (x4_113 : Int32) => rec51 x3_113 x4_113 (y5_51 + 2) (One_forecast_s wy_51 t7.2)) (fun j113 => jp (fun (_ : Unit) => j113 (mAbs (t4.1 - t7.1)) y5_51) (fun j106 => (if y4_51 = 0 then j106 () else (if y3_51 ≤ (mAbs (t4.1 - t7.1)) then j113 y3_51 y4_51 else j106 ())))))))))
def lp_X7_split_51 (v : OneV) (le : LessonV) (ea : Nat) (j119 : Int32 → Int32 → OneV → Option (Int32 × OneV)) : Nat → Int32 → Int32 → Int32 → OneV → Option (Int32 × OneV)
  | 0 => fun _ _ _ _ => none
  | n + 1 => st_X7_split_51 v le ea j119 (lp_X7_split_51 v le ea j119 n)
def fn_X7_split (v : OneV) (le : LessonV) (ea : Nat) (x0 : Int32) : Option (Int32 × OneV) :=
  jp (fun (_ : Unit) => (if 2 ≤ (Group_size (Room_group (One_now v))) then jp (fun (x3_119 : Int32) (x4_119 : Int32) (wx_119 : OneV) => (if ¬ x0 = 0 then some (x3_119, wx_119) else some (x4_119, wx_119))) (fun j119 => lp_X7_split_51 v le ea j119 m_N 0 0 1 v) else some ((-5), v))) (fun j11 => (if x0 = 0 then j11 () else (if x0 = 1 then j11 () else some ((-1), v))))

def st_X7_part_48 (v : OneV) (le : LessonV) (ea : Nat) (x0 : Int32) (j152 : Int64 → OneV → Option (Int64 × OneV)) (rec48 : Int64 → Int32 → OneV → Option (Int64 × OneV)) (y4_48 : Int64) (y6_48 : Int32) (wy_48 : OneV) : Option (Int64 × OneV) :=
  (if ((1 : Int32) <<< ((Group_size (Room_group (One_now v))) &&& 31)) ≤ y6_48 then j152 y4_48 wy_48 else (Option.bind (fn_J6_bitCount_0f7a4 y6_48) (fun t9 => jp (fun (x4_146 : Int64) (wx_146 : OneV) => rec48 x4_146 (y6_48 + 1) wx_146) (fun j146 => (if (y6_48 ||| ((1 : Int32) <<< (x0 &&& 31))) = y6_48 then j146 y4_48 wy_48 else (if t9 < (Group_size (Room_group (One_now v))) then (if mIn t9 7 = true then (if mIn (((Group_size (Room_group (One_now v))) - 1) - t9) 7 = true then (Option.bind (fn_X1_workOf (One_forecast wy_48) (One_now wy_48) le ea (y6_48 ||| ((1 : Int32) <<< (x0 &&& 31))) 5) (fun t14 => (Option.bind (fn_X1_workOf t14.2 (One_now wy_48) le ea y6_48 5) (fun t17 => j146 (y4_48 + ((((mFA.getD (t9).toNatClampNeg 0)).toInt64 * ((mFA.getD ((((Group_size (Room_group (One_now v))) - 1) - t9)).toNatClampNeg 0)).toInt64) * ((t14.1 - t17.1)).toInt64)) (One_forecast_s wy_48 t17.2))))) else none) else none) else j146 y4_48 wy_48))))))
def lp_X7_part_48 (v : OneV) (le : LessonV) (ea : Nat) (x0 : Int32) (j152 : Int64 → OneV → Option (Int64 × OneV)) : Nat → Int64 → Int32 → OneV → Option (Int64 × OneV)
  | 0 => fun _ _ _ => none
  | n + 1 => st_X7_part_48 v le ea x0 j152 (lp_X7_part_48 v le ea x0 j152 n)
def fn_X7_part (v : OneV) (le : LessonV) (ea : Nat) (x0 : Int32) (x1 : Int32) : Option (Int64 × OneV) :=
  (Option.bind (fn_X7_isPupil v x0) (fun t1 => jp (fun (_ : Unit) => some ((-9223372036854775808 : Int64), v)) (fun j15 => (if t1 = 0 then j15 () else (Option.bind (fn_X7_isPart x1) (fun t3 => (if ¬ t3 = 0 then (if (Group_size (Room_group (One_now v))) < 7 then jp (fun (x4_152 : Int64) (wx_152 : OneV) => (if mIn (Group_size (Room_group (One_now v))) 7 = true then (Option.bind (fn_X7_inLowestTerms x4_152 ((mFA.getD ((Group_size (Room_group (One_now v)))).toNatClampNeg 0)).toInt64 x1) (fun t7 => some (t7, wx_152))) else none)) (fun j152 => lp_X7_part_48 v le ea x0 j152 m_N (0 : Int64) 0 v) else some ((-9223372036854775808 : Int64), v)) else j15 ())))))))

def st_X7_skilled_24 (le : LessonV) (ea : Nat) (x0 : Int32) (j86 : Int32 → OneV → Option (Int32 × OneV)) (rec24 : Int32 → Int32 → OneV → Option (Int32 × OneV)) (y3_24 : Int32) (y4_24 : Int32) (wy_24 : OneV) : Option (Int32 × OneV) :=
  (if 9 < y4_24 then j86 y3_24 wy_24 else (Option.bind (fn_X1_begin (One_forecast wy_24) (One_now wy_24)) (fun t7 => (if mIn x0 6 = true then (Option.bind (fn_X1_meets (Forecast_trial_s t7 (Group_skills_s (Forecast_trial t7) (upd (Group_skills (Forecast_trial t7)) (x0).toNatClampNeg y4_24))) (Room_seen (One_now wy_24)) le ea) (fun t9 => jp (fun (x3_80 : Int32) => rec24 x3_80 (y4_24 + 1) (One_forecast_s wy_24 t9.2)) (fun j80 => (if t9.1 = 0 then j80 y3_24 else j80 (y3_24 ||| ((1 : Int32) <<< (y4_24 &&& 31))))))) else none))))
def lp_X7_skilled_24 (le : LessonV) (ea : Nat) (x0 : Int32) (j86 : Int32 → OneV → Option (Int32 × OneV)) : Nat → Int32 → Int32 → OneV → Option (Int32 × OneV)
  | 0 => fun _ _ _ => none
  | n + 1 => st_X7_skilled_24 le ea x0 j86 (lp_X7_skilled_24 le ea x0 j86 n)
def fn_X7_skilled (v : OneV) (le : LessonV) (ea : Nat) (x0 : Int32) (x1 : Int32) : Option (Int32 × OneV) :=
  (Option.bind (fn_X7_isPupil v x0) (fun t1 => (if t1 = 0 then some ((-1), v) else jp (fun (_ : Unit) => jp (fun (x3_86 : Int32) (wx_86 : OneV) => (if ¬ x1 = 0 then (Option.bind (fn_X7_leastOf x3_86) (fun t4 => some (t4, wx_86))) else (Option.bind (fn_J6_bitCount_0f7a4 x3_86) (fun t5 => some (t5, wx_86))))) (fun j86 => lp_X7_skilled_24 le ea x0 j86 m_N 0 1 v)) (fun j19 => (if x1 = 0 then j19 () else (if x1 = 1 then j19 () else some ((-1), v)))))))

def st_X7_firm_24 (le : LessonV) (ea : Nat) (x0 : Int32) (j86 : Int32 → OneV → Option (Int32 × OneV)) (rec24 : Int32 → Int32 → OneV → Option (Int32 × OneV)) (y3_24 : Int32) (y4_24 : Int32) (wy_24 : OneV) : Option (Int32 × OneV) :=
  (if 9 < y4_24 then j86 y3_24 wy_24 else (Option.bind (fn_X1_begin (One_forecast wy_24) (One_now wy_24)) (fun t7 => (if mIn x0 6 = true then (Option.bind (fn_X1_meets (Forecast_trial_s t7 (Group_vs_s (Forecast_trial t7) (upd (Group_vs (Forecast_trial t7)) (x0).toNatClampNeg y4_24))) (Room_seen (One_now wy_24)) le ea) (fun t9 => jp (fun (x3_80 : Int32) => rec24 x3_80 (y4_24 + 1) (One_forecast_s wy_24 t9.2)) (fun j80 => (if t9.1 = 0 then j80 y3_24 else j80 (y3_24 ||| ((1 : Int32) <<< (y4_24 &&& 31))))))) else none))))
def lp_X7_firm_24 (le : LessonV) (ea : Nat) (x0 : Int32) (j86 : Int32 → OneV → Option (Int32 × OneV)) : Nat → Int32 → Int32 → OneV → Option (Int32 × OneV)
  | 0 => fun _ _ _ => none
  | n + 1 => st_X7_firm_24 le ea x0 j86 (lp_X7_firm_24 le ea x0 j86 n)
def fn_X7_firm (v : OneV) (le : LessonV) (ea : Nat) (x0 : Int32) (x1 : Int32) : Option (Int32 × OneV) :=
  (Option.bind (fn_X7_isPupil v x0) (fun t1 => (if t1 = 0 then some ((-1), v) else jp (fun (_ : Unit) => jp (fun (x3_86 : Int32) (wx_86 : OneV) => (if ¬ x1 = 0 then (Option.bind (fn_X7_leastOf x3_86) (fun t4 => some (t4, wx_86))) else (Option.bind (fn_J6_bitCount_0f7a4 x3_86) (fun t5 => some (t5, wx_86))))) (fun j86 => lp_X7_firm_24 le ea x0 j86 m_N 0 0 v)) (fun j19 => (if x1 = 0 then j19 () else (if x1 = 1 then j19 () else some ((-1), v)))))))

def st_X7_odds_54 (le : LessonV) (ea : Nat) (x0 : Int32) (x1 : Int32) (j110 : Int32 → OneV → Option (Int64 × OneV)) (rec54 : Int32 → Int32 → OneV → Option (Int64 × OneV)) (y4_54 : Int32) (y5_54 : Int32) (wy_54 : OneV) : Option (Int64 × OneV) :=
  (if (Group_size (Room_group (One_now wy_54))) ≤ y5_54 then j110 y4_54 wy_54 else (Option.bind (fn_X1_beginWithout (One_forecast wy_54) (One_now wy_54) y5_54) (fun t10 => (Option.bind (fn_X1_go t10 le ea x0) (fun t11 => (Option.bind (fn_X1_workMore t11) (fun t14 => jp (fun (x4_104 : Int32) => rec54 x4_104 (y5_54 + 1) (One_forecast_s wy_54 t11)) (fun j104 => (if t14 < x1 then j104 y4_54 else j104 (y4_54 + 1))))))))))
def lp_X7_odds_54 (le : LessonV) (ea : Nat) (x0 : Int32) (x1 : Int32) (j110 : Int32 → OneV → Option (Int64 × OneV)) : Nat → Int32 → Int32 → OneV → Option (Int64 × OneV)
  | 0 => fun _ _ _ => none
  | n + 1 => st_X7_odds_54 le ea x0 x1 j110 (lp_X7_odds_54 le ea x0 x1 j110 n)
def fn_X7_odds (v : OneV) (le : LessonV) (ea : Nat) (x0 : Int32) (x1 : Int32) (x2 : Int32) : Option (Int64 × OneV) :=
  jp (fun (_ : Unit) => some ((-9223372036854775808 : Int64), v)) (fun j27 => (if x0 < 0 then j27 () else (if 60 < x0 then j27 () else (if x1 < 0 then j27 () else (if 99999 < x1 then j27 () else (Option.bind (fn_X7_isPart x2) (fun t5 => (if ¬ t5 = 0 then (if ¬ (Group_size (Room_group (One_now v))) = 0 then jp (fun (x4_110 : Int32) (wx_110 : OneV) => (Option.bind (fn_X7_inLowestTerms (x4_110).toInt64 ((Group_size (Room_group (One_now wx_110)))).toInt64 x2) (fun t8 => some (t8, wx_110)))) (fun j110 => lp_X7_odds_54 le ea x0 x1 j110 m_N 0 0 v) else some ((-9223372036854775808 : Int64), v)) else j27 ()))))))))

def fn_X7_mean (v : OneV) (le : LessonV) (ea : Nat) (x0 : Int32) (x1 : Int32) : Option (Int64 × OneV) :=
  jp (fun (_ : Unit) => some ((-9223372036854775808 : Int64), v)) (fun j17 => (if x0 < 0 then j17 () else (if 60 < x0 then j17 () else (Option.bind (fn_X7_isPart x1) (fun t3 => (if ¬ t3 = 0 then (if ¬ (Group_size (Room_group (One_now v))) = 0 then (Option.bind (fn_X1_begin (One_forecast v) (One_now v)) (fun t6 => (Option.bind (fn_X1_go t6 le ea x0) (fun t7 => (Option.bind (fn_X1_hoursMore t7) (fun t10 => (Option.bind (fn_X7_inLowestTerms (t10).toInt64 ((Group_size (Room_group (One_now v)))).toInt64 x1) (fun t11 => some (t11, (One_forecast_s v t7)))))))))) else some ((-9223372036854775808 : Int64), v)) else j17 ()))))))

def fn_X7_done (v : OneV) (le : LessonV) (ea : Nat) (x0 : Int32) : Option (Int32 × OneV) :=
  jp (fun (_ : Unit) => (Option.bind (fn_X1_begin (One_forecast v) (One_now v)) (fun t1 => (Option.bind (fn_X1_follow t1 (Room_plan (One_now v)) le ea) (fun t2 => (if ¬ x0 = 0 then (Option.bind (fn_X1_hoursMore t2) (fun t8 => some (t8, (One_forecast_s v t2)))) else (Option.bind (fn_X1_workMore t2) (fun t9 => some (t9, (One_forecast_s v t2)))))))))) (fun j11 => (if x0 = 0 then j11 () else (if x0 = 1 then j11 () else some ((-1), v))))

def fn_X7_school (v : OneV) (q : Nat) : Option (Int32 × OneV × LessonV) :=
  (Option.bind (fn_X4_readLesson ((Room_tape (One_now v), mMin (Room_signs (One_now v)) 100, 0, 0, Lesson_0) : ReaderV)) (fun t1 => (if ¬ t1.1 = 0 then (if mIn (Room_lessonCount (One_now v)) 5 = true then some ((((Room_lessonCount (One_now v)) + 1) - 1), (One_now_s v (Room_lessonCount_s (Room_lessons_s (Room_signs_s (Room_tape_s (One_now v) (Reader_tape t1.2)) 0) (va_up (Room_lessons (One_now v)) ((Room_lessonCount (One_now v))).toNatClampNeg (some q))) ((Room_lessonCount (One_now v)) + 1))), (Reader_lesson t1.2)) else none) else some (((-10) - (Reader_place t1.2)), (One_now_s v (Room_signs_s (Room_tape_s (One_now v) (Reader_tape t1.2)) 0)), (Reader_lesson t1.2)))))
