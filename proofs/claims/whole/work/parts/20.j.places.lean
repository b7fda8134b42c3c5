/-! Places in the reference's rows, by their written offsets (gen_q.py wrote this part). -/
theorem q_i1 {k : Nat} (h : 1 + k < 926) : mIn (1 + nI k) 926 = true := s_in (m := 1) h (by omega)
theorem q_a1 {k : Nat} (h : 1 + k < 926) : (1 + nI k).toNatClampNeg = 1 + k := s_at (m := 1) (by omega)
theorem q_i2 {k : Nat} (h : 2 + k < 926) : mIn (2 + nI k) 926 = true := s_in (m := 2) h (by omega)
theorem q_a2 {k : Nat} (h : 2 + k < 926) : (2 + nI k).toNatClampNeg = 2 + k := s_at (m := 2) (by omega)
theorem q_i3 {k : Nat} (h : 3 + k < 926) : mIn (3 + nI k) 926 = true := s_in (m := 3) h (by omega)
theorem q_a3 {k : Nat} (h : 3 + k < 926) : (3 + nI k).toNatClampNeg = 3 + k := s_at (m := 3) (by omega)
theorem q_i4 {k : Nat} (h : 4 + k < 926) : mIn (4 + nI k) 926 = true := s_in (m := 4) h (by omega)
theorem q_a4 {k : Nat} (h : 4 + k < 926) : (4 + nI k).toNatClampNeg = 4 + k := s_at (m := 4) (by omega)
theorem q_i5 {k : Nat} (h : 5 + k < 926) : mIn (5 + nI k) 926 = true := s_in (m := 5) h (by omega)
theorem q_a5 {k : Nat} (h : 5 + k < 926) : (5 + nI k).toNatClampNeg = 5 + k := s_at (m := 5) (by omega)
theorem q_i8 {k : Nat} (h : 8 + k < 926) : mIn (8 + nI k) 926 = true := s_in (m := 8) h (by omega)
theorem q_a8 {k : Nat} (h : 8 + k < 926) : (8 + nI k).toNatClampNeg = 8 + k := s_at (m := 8) (by omega)
theorem q_i14 {k : Nat} (h : 14 + k < 926) : mIn (14 + nI k) 926 = true := s_in (m := 14) h (by omega)
theorem q_a14 {k : Nat} (h : 14 + k < 926) : (14 + nI k).toNatClampNeg = 14 + k := s_at (m := 14) (by omega)
theorem q_i27 {k : Nat} (h : 27 + k < 926) : mIn (27 + nI k) 926 = true := s_in (m := 27) h (by omega)
theorem q_a27 {k : Nat} (h : 27 + k < 926) : (27 + nI k).toNatClampNeg = 27 + k := s_at (m := 27) (by omega)
theorem q_i33 {k : Nat} (h : 33 + k < 926) : mIn (33 + nI k) 926 = true := s_in (m := 33) h (by omega)
theorem q_a33 {k : Nat} (h : 33 + k < 926) : (33 + nI k).toNatClampNeg = 33 + k := s_at (m := 33) (by omega)
theorem q_i39 {k : Nat} (h : 39 + k < 926) : mIn (39 + nI k) 926 = true := s_in (m := 39) h (by omega)
theorem q_a39 {k : Nat} (h : 39 + k < 926) : (39 + nI k).toNatClampNeg = 39 + k := s_at (m := 39) (by omega)
theorem q_i69 {k : Nat} (h : 69 + k < 926) : mIn (69 + nI k) 926 = true := s_in (m := 69) h (by omega)
theorem q_a69 {k : Nat} (h : 69 + k < 926) : (69 + nI k).toNatClampNeg = 69 + k := s_at (m := 69) (by omega)
theorem q_i74 {k : Nat} (h : 74 + k < 926) : mIn (74 + nI k) 926 = true := s_in (m := 74) h (by omega)
theorem q_a74 {k : Nat} (h : 74 + k < 926) : (74 + nI k).toNatClampNeg = 74 + k := s_at (m := 74) (by omega)
theorem q_i79 {k : Nat} (h : 79 + k < 926) : mIn (79 + nI k) 926 = true := s_in (m := 79) h (by omega)
theorem q_a79 {k : Nat} (h : 79 + k < 926) : (79 + nI k).toNatClampNeg = 79 + k := s_at (m := 79) (by omega)
theorem q_i87 {k : Nat} (h : 87 + k < 926) : mIn (87 + nI k) 926 = true := s_in (m := 87) h (by omega)
theorem q_a87 {k : Nat} (h : 87 + k < 926) : (87 + nI k).toNatClampNeg = 87 + k := s_at (m := 87) (by omega)
theorem q_i95 {k : Nat} (h : 95 + k < 926) : mIn (95 + nI k) 926 = true := s_in (m := 95) h (by omega)
theorem q_a95 {k : Nat} (h : 95 + k < 926) : (95 + nI k).toNatClampNeg = 95 + k := s_at (m := 95) (by omega)
theorem q_i103 {k : Nat} (h : 103 + k < 926) : mIn (103 + nI k) 926 = true := s_in (m := 103) h (by omega)
theorem q_a103 {k : Nat} (h : 103 + k < 926) : (103 + nI k).toNatClampNeg = 103 + k := s_at (m := 103) (by omega)
theorem q_i111 {k : Nat} (h : 111 + k < 926) : mIn (111 + nI k) 926 = true := s_in (m := 111) h (by omega)
theorem q_a111 {k : Nat} (h : 111 + k < 926) : (111 + nI k).toNatClampNeg = 111 + k := s_at (m := 111) (by omega)
theorem q_i211 {k : Nat} (h : 211 + k < 926) : mIn (211 + nI k) 926 = true := s_in (m := 211) h (by omega)
theorem q_a211 {k : Nat} (h : 211 + k < 926) : (211 + nI k).toNatClampNeg = 211 + k := s_at (m := 211) (by omega)
theorem q_i216 {k : Nat} (h : 216 + k < 926) : mIn (216 + nI k) 926 = true := s_in (m := 216) h (by omega)
theorem q_a216 {k : Nat} (h : 216 + k < 926) : (216 + nI k).toNatClampNeg = 216 + k := s_at (m := 216) (by omega)
theorem q_i221 {k : Nat} (h : 221 + k < 926) : mIn (221 + nI k) 926 = true := s_in (m := 221) h (by omega)
theorem q_a221 {k : Nat} (h : 221 + k < 926) : (221 + nI k).toNatClampNeg = 221 + k := s_at (m := 221) (by omega)
theorem q_c0 : (0 : Int32).toNatClampNeg = 0 := by decide
theorem q_j0 : mIn 0 926 = true := by decide
theorem q_c1 : (1 : Int32).toNatClampNeg = 1 := by decide
theorem q_j1 : mIn 1 926 = true := by decide
theorem q_c2 : (2 : Int32).toNatClampNeg = 2 := by decide
theorem q_j2 : mIn 2 926 = true := by decide
theorem q_c3 : (3 : Int32).toNatClampNeg = 3 := by decide
theorem q_j3 : mIn 3 926 = true := by decide
theorem q_c4 : (4 : Int32).toNatClampNeg = 4 := by decide
theorem q_j4 : mIn 4 926 = true := by decide
theorem q_c5 : (5 : Int32).toNatClampNeg = 5 := by decide
theorem q_j5 : mIn 5 926 = true := by decide
theorem q_c20 : (20 : Int32).toNatClampNeg = 20 := by decide
theorem q_j20 : mIn 20 926 = true := by decide
theorem q_c21 : (21 : Int32).toNatClampNeg = 21 := by decide
theorem q_j21 : mIn 21 926 = true := by decide
theorem q_c22 : (22 : Int32).toNatClampNeg = 22 := by decide
theorem q_j22 : mIn 22 926 = true := by decide
theorem q_c23 : (23 : Int32).toNatClampNeg = 23 := by decide
theorem q_j23 : mIn 23 926 = true := by decide
theorem q_c24 : (24 : Int32).toNatClampNeg = 24 := by decide
theorem q_j24 : mIn 24 926 = true := by decide
theorem q_c25 : (25 : Int32).toNatClampNeg = 25 := by decide
theorem q_j25 : mIn 25 926 = true := by decide
theorem q_c26 : (26 : Int32).toNatClampNeg = 26 := by decide
theorem q_j26 : mIn 26 926 = true := by decide
theorem q_f2 {k : Nat} (h : 2 + k < 20) : mIn (2 + nI k) 20 = true := s_in (m := 2) h (by omega)
theorem q_f8 {k : Nat} (h : 8 + k < 20) : mIn (8 + nI k) 20 = true := s_in (m := 8) h (by omega)
theorem q_f14 {k : Nat} (h : 14 + k < 20) : mIn (14 + nI k) 20 = true := s_in (m := 14) h (by omega)
theorem q_f1 : mIn 1 20 = true := by decide
theorem q_6 {k : Nat} (h : k < 6) : mIn (nI k) 6 = true := mIn_nI h (by omega)
theorem q_n {k : Nat} (h : k < 100000) : (nI k).toNatClampNeg = k := nI_clamp (by omega)
theorem q_b0 : mIn 0 6 = true := by decide
theorem q_b1 : mIn 1 6 = true := by decide
theorem q_b2 : mIn 2 6 = true := by decide
theorem q_b3 : mIn 3 6 = true := by decide
theorem q_b4 : mIn 4 6 = true := by decide
theorem q_b5 : mIn 5 6 = true := by decide
theorem q_tt : (true = true) = True := eq_self true
