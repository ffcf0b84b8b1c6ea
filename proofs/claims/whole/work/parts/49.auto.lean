/-! facts of small numbers in a form that simp can use by itself -/
theorem ltT {a b : Nat} (h : a < b) : (a < b) = True := eq_true h
theorem ltF {a b : Nat} (h : b ≤ a) : (a < b) = False := eq_false (Nat.not_lt.mpr h)
theorem leT {a b : Nat} (h : a ≤ b) : (a ≤ b) = True := eq_true h
theorem leF {a b : Nat} (h : b < a) : (a ≤ b) = False := eq_false (Nat.not_le.mpr h)
theorem natT {a b : Nat} (h : a = b) : (a = b) = True := eq_true h
theorem natF {a b : Nat} (h : a ≠ b) : (a = b) = False := eq_false h
theorem iltT {a b : Nat} (h : a < b) (hb : b < 2147483648) : (nI a < nI b) = True := eq_true (nI_lt h hb)
theorem iltF {a b : Nat} (h : b ≤ a) (ha : a < 2147483648) : (nI a < nI b) = False := eq_false (nI_nlt h ha)
theorem ieqT {a b : Nat} (h : a = b) : (nI a = nI b) = True := by rw [h]; exact eq_self _
theorem ieqF {a b : Nat} (h : a ≠ b) (ha : a < 2147483648) (hb : b < 2147483648) : (nI a = nI b) = False := (nI_eqI ha hb).trans (eq_false h)
theorem vpT {a N : Nat} (h : a < N) (hN : N < 2147483648) : vp_in (nI a) N = True := eq_true (vp_in_nI h hN)
theorem cl_nI {a : Nat} (h : a < 2147483648) : (nI a).toNatClampNeg = a := nI_clamp h
theorem i32_irr (a : Int32) : (a < a) = False := eq_false (Int32.lt_irrefl)
theorem nI_dn (t : Nat) : nI (t + 1) - 1 = nI t := nI_pred t
theorem nI_dn0 : nI 0 - 1 = -1 := by decide
theorem nI_m1 (t : Nat) : nI t + -1 = nI t - 1 := by rw [Int32.sub_eq_add_neg]
theorem nI_mul (a b : Nat) : nI a * nI b = nI (a * b) := (Int32.ofNat_mul a b).symm
theorem nI_sub {a b : Nat} (h : b ≤ a) : nI a - nI b = nI (a - b) := pk_sub h
theorem nI_l2i {a : Nat} (h : a < 2147483648) : (nI a).toInt64 = lN a := nI_l h
theorem jlT_0 {a : Nat} (h : a < 0) : (nI a < (0 : Int32)) = True := iltT h (by decide)
theorem jlF_0 {a : Nat} (h : 0 ≤ a) (ha : a < 2147483648) : (nI a < (0 : Int32)) = False := iltF h ha
theorem jgT_0 {a : Nat} (h : 0 < a) (ha : a < 2147483648) : ((0 : Int32) < nI a) = True := iltT h ha
theorem jgF_0 {a : Nat} (h : a ≤ 0) : ((0 : Int32) < nI a) = False := iltF h (by decide)
theorem jeT_0 {a : Nat} (h : a = 0) : (nI a = (0 : Int32)) = True := ieqT h
theorem jeF_0 {a : Nat} (h : a ≠ 0) (ha : a < 2147483648) : (nI a = (0 : Int32)) = False := ieqF h ha (by decide)
theorem jv_0 {N : Nat} (h : 0 < N) (hN : N < 2147483648) : vp_in (0 : Int32) N = True := eq_true (vp_in_nI h hN)
theorem jc_0 : (0 : Int32).toNatClampNeg = 0 := nI_clamp (n := 0) (by decide)
theorem jm_0 (a : Nat) : nI a * (0 : Int32) = nI (a * 0) := nI_mul a 0
theorem jM_0 (a : Nat) : (0 : Int32) * nI a = nI (0 * a) := nI_mul 0 a
theorem ja_0 (a : Nat) : nI a + (0 : Int32) = nI (a + 0) := nI_add a 0
theorem jA_0 (a : Nat) : (0 : Int32) + nI a = nI (0 + a) := nI_add 0 a
theorem js_0 {a : Nat} (h : 0 ≤ a) : nI a - (0 : Int32) = nI (a - 0) := nI_sub h
theorem jlT_1 {a : Nat} (h : a < 1) : (nI a < (1 : Int32)) = True := iltT h (by decide)
theorem jlF_1 {a : Nat} (h : 1 ≤ a) (ha : a < 2147483648) : (nI a < (1 : Int32)) = False := iltF h ha
theorem jgT_1 {a : Nat} (h : 1 < a) (ha : a < 2147483648) : ((1 : Int32) < nI a) = True := iltT h ha
theorem jgF_1 {a : Nat} (h : a ≤ 1) : ((1 : Int32) < nI a) = False := iltF h (by decide)
theorem jeT_1 {a : Nat} (h : a = 1) : (nI a = (1 : Int32)) = True := ieqT h
theorem jeF_1 {a : Nat} (h : a ≠ 1) (ha : a < 2147483648) : (nI a = (1 : Int32)) = False := ieqF h ha (by decide)
theorem jv_1 {N : Nat} (h : 1 < N) (hN : N < 2147483648) : vp_in (1 : Int32) N = True := eq_true (vp_in_nI h hN)
theorem jc_1 : (1 : Int32).toNatClampNeg = 1 := nI_clamp (n := 1) (by decide)
theorem jm_1 (a : Nat) : nI a * (1 : Int32) = nI (a * 1) := nI_mul a 1
theorem jM_1 (a : Nat) : (1 : Int32) * nI a = nI (1 * a) := nI_mul 1 a
theorem ja_1 (a : Nat) : nI a + (1 : Int32) = nI (a + 1) := nI_add a 1
theorem jA_1 (a : Nat) : (1 : Int32) + nI a = nI (1 + a) := nI_add 1 a
theorem js_1 {a : Nat} (h : 1 ≤ a) : nI a - (1 : Int32) = nI (a - 1) := nI_sub h
theorem jlT_2 {a : Nat} (h : a < 2) : (nI a < (2 : Int32)) = True := iltT h (by decide)
theorem jlF_2 {a : Nat} (h : 2 ≤ a) (ha : a < 2147483648) : (nI a < (2 : Int32)) = False := iltF h ha
theorem jgT_2 {a : Nat} (h : 2 < a) (ha : a < 2147483648) : ((2 : Int32) < nI a) = True := iltT h ha
theorem jgF_2 {a : Nat} (h : a ≤ 2) : ((2 : Int32) < nI a) = False := iltF h (by decide)
theorem jeT_2 {a : Nat} (h : a = 2) : (nI a = (2 : Int32)) = True := ieqT h
theorem jeF_2 {a : Nat} (h : a ≠ 2) (ha : a < 2147483648) : (nI a = (2 : Int32)) = False := ieqF h ha (by decide)
theorem jv_2 {N : Nat} (h : 2 < N) (hN : N < 2147483648) : vp_in (2 : Int32) N = True := eq_true (vp_in_nI h hN)
theorem jc_2 : (2 : Int32).toNatClampNeg = 2 := nI_clamp (n := 2) (by decide)
theorem jm_2 (a : Nat) : nI a * (2 : Int32) = nI (a * 2) := nI_mul a 2
theorem jM_2 (a : Nat) : (2 : Int32) * nI a = nI (2 * a) := nI_mul 2 a
theorem ja_2 (a : Nat) : nI a + (2 : Int32) = nI (a + 2) := nI_add a 2
theorem jA_2 (a : Nat) : (2 : Int32) + nI a = nI (2 + a) := nI_add 2 a
theorem js_2 {a : Nat} (h : 2 ≤ a) : nI a - (2 : Int32) = nI (a - 2) := nI_sub h
theorem jlT_3 {a : Nat} (h : a < 3) : (nI a < (3 : Int32)) = True := iltT h (by decide)
theorem jlF_3 {a : Nat} (h : 3 ≤ a) (ha : a < 2147483648) : (nI a < (3 : Int32)) = False := iltF h ha
theorem jgT_3 {a : Nat} (h : 3 < a) (ha : a < 2147483648) : ((3 : Int32) < nI a) = True := iltT h ha
theorem jgF_3 {a : Nat} (h : a ≤ 3) : ((3 : Int32) < nI a) = False := iltF h (by decide)
theorem jeT_3 {a : Nat} (h : a = 3) : (nI a = (3 : Int32)) = True := ieqT h
theorem jeF_3 {a : Nat} (h : a ≠ 3) (ha : a < 2147483648) : (nI a = (3 : Int32)) = False := ieqF h ha (by decide)
theorem jv_3 {N : Nat} (h : 3 < N) (hN : N < 2147483648) : vp_in (3 : Int32) N = True := eq_true (vp_in_nI h hN)
theorem jc_3 : (3 : Int32).toNatClampNeg = 3 := nI_clamp (n := 3) (by decide)
theorem jm_3 (a : Nat) : nI a * (3 : Int32) = nI (a * 3) := nI_mul a 3
theorem jM_3 (a : Nat) : (3 : Int32) * nI a = nI (3 * a) := nI_mul 3 a
theorem ja_3 (a : Nat) : nI a + (3 : Int32) = nI (a + 3) := nI_add a 3
theorem jA_3 (a : Nat) : (3 : Int32) + nI a = nI (3 + a) := nI_add 3 a
theorem js_3 {a : Nat} (h : 3 ≤ a) : nI a - (3 : Int32) = nI (a - 3) := nI_sub h
theorem jlT_4 {a : Nat} (h : a < 4) : (nI a < (4 : Int32)) = True := iltT h (by decide)
theorem jlF_4 {a : Nat} (h : 4 ≤ a) (ha : a < 2147483648) : (nI a < (4 : Int32)) = False := iltF h ha
theorem jgT_4 {a : Nat} (h : 4 < a) (ha : a < 2147483648) : ((4 : Int32) < nI a) = True := iltT h ha
theorem jgF_4 {a : Nat} (h : a ≤ 4) : ((4 : Int32) < nI a) = False := iltF h (by decide)
theorem jeT_4 {a : Nat} (h : a = 4) : (nI a = (4 : Int32)) = True := ieqT h
theorem jeF_4 {a : Nat} (h : a ≠ 4) (ha : a < 2147483648) : (nI a = (4 : Int32)) = False := ieqF h ha (by decide)
theorem jv_4 {N : Nat} (h : 4 < N) (hN : N < 2147483648) : vp_in (4 : Int32) N = True := eq_true (vp_in_nI h hN)
theorem jc_4 : (4 : Int32).toNatClampNeg = 4 := nI_clamp (n := 4) (by decide)
theorem jm_4 (a : Nat) : nI a * (4 : Int32) = nI (a * 4) := nI_mul a 4
theorem jM_4 (a : Nat) : (4 : Int32) * nI a = nI (4 * a) := nI_mul 4 a
theorem ja_4 (a : Nat) : nI a + (4 : Int32) = nI (a + 4) := nI_add a 4
theorem jA_4 (a : Nat) : (4 : Int32) + nI a = nI (4 + a) := nI_add 4 a
theorem js_4 {a : Nat} (h : 4 ≤ a) : nI a - (4 : Int32) = nI (a - 4) := nI_sub h
theorem jlT_5 {a : Nat} (h : a < 5) : (nI a < (5 : Int32)) = True := iltT h (by decide)
theorem jlF_5 {a : Nat} (h : 5 ≤ a) (ha : a < 2147483648) : (nI a < (5 : Int32)) = False := iltF h ha
theorem jgT_5 {a : Nat} (h : 5 < a) (ha : a < 2147483648) : ((5 : Int32) < nI a) = True := iltT h ha
theorem jgF_5 {a : Nat} (h : a ≤ 5) : ((5 : Int32) < nI a) = False := iltF h (by decide)
theorem jeT_5 {a : Nat} (h : a = 5) : (nI a = (5 : Int32)) = True := ieqT h
theorem jeF_5 {a : Nat} (h : a ≠ 5) (ha : a < 2147483648) : (nI a = (5 : Int32)) = False := ieqF h ha (by decide)
theorem jv_5 {N : Nat} (h : 5 < N) (hN : N < 2147483648) : vp_in (5 : Int32) N = True := eq_true (vp_in_nI h hN)
theorem jc_5 : (5 : Int32).toNatClampNeg = 5 := nI_clamp (n := 5) (by decide)
theorem jm_5 (a : Nat) : nI a * (5 : Int32) = nI (a * 5) := nI_mul a 5
theorem jM_5 (a : Nat) : (5 : Int32) * nI a = nI (5 * a) := nI_mul 5 a
theorem ja_5 (a : Nat) : nI a + (5 : Int32) = nI (a + 5) := nI_add a 5
theorem jA_5 (a : Nat) : (5 : Int32) + nI a = nI (5 + a) := nI_add 5 a
theorem js_5 {a : Nat} (h : 5 ≤ a) : nI a - (5 : Int32) = nI (a - 5) := nI_sub h
theorem jlT_6 {a : Nat} (h : a < 6) : (nI a < (6 : Int32)) = True := iltT h (by decide)
theorem jlF_6 {a : Nat} (h : 6 ≤ a) (ha : a < 2147483648) : (nI a < (6 : Int32)) = False := iltF h ha
theorem jgT_6 {a : Nat} (h : 6 < a) (ha : a < 2147483648) : ((6 : Int32) < nI a) = True := iltT h ha
theorem jgF_6 {a : Nat} (h : a ≤ 6) : ((6 : Int32) < nI a) = False := iltF h (by decide)
theorem jeT_6 {a : Nat} (h : a = 6) : (nI a = (6 : Int32)) = True := ieqT h
theorem jeF_6 {a : Nat} (h : a ≠ 6) (ha : a < 2147483648) : (nI a = (6 : Int32)) = False := ieqF h ha (by decide)
theorem jv_6 {N : Nat} (h : 6 < N) (hN : N < 2147483648) : vp_in (6 : Int32) N = True := eq_true (vp_in_nI h hN)
theorem jc_6 : (6 : Int32).toNatClampNeg = 6 := nI_clamp (n := 6) (by decide)
theorem jm_6 (a : Nat) : nI a * (6 : Int32) = nI (a * 6) := nI_mul a 6
theorem jM_6 (a : Nat) : (6 : Int32) * nI a = nI (6 * a) := nI_mul 6 a
theorem ja_6 (a : Nat) : nI a + (6 : Int32) = nI (a + 6) := nI_add a 6
theorem jA_6 (a : Nat) : (6 : Int32) + nI a = nI (6 + a) := nI_add 6 a
theorem js_6 {a : Nat} (h : 6 ≤ a) : nI a - (6 : Int32) = nI (a - 6) := nI_sub h
theorem jlT_7 {a : Nat} (h : a < 7) : (nI a < (7 : Int32)) = True := iltT h (by decide)
theorem jlF_7 {a : Nat} (h : 7 ≤ a) (ha : a < 2147483648) : (nI a < (7 : Int32)) = False := iltF h ha
theorem jgT_7 {a : Nat} (h : 7 < a) (ha : a < 2147483648) : ((7 : Int32) < nI a) = True := iltT h ha
theorem jgF_7 {a : Nat} (h : a ≤ 7) : ((7 : Int32) < nI a) = False := iltF h (by decide)
theorem jeT_7 {a : Nat} (h : a = 7) : (nI a = (7 : Int32)) = True := ieqT h
theorem jeF_7 {a : Nat} (h : a ≠ 7) (ha : a < 2147483648) : (nI a = (7 : Int32)) = False := ieqF h ha (by decide)
theorem jv_7 {N : Nat} (h : 7 < N) (hN : N < 2147483648) : vp_in (7 : Int32) N = True := eq_true (vp_in_nI h hN)
theorem jc_7 : (7 : Int32).toNatClampNeg = 7 := nI_clamp (n := 7) (by decide)
theorem jm_7 (a : Nat) : nI a * (7 : Int32) = nI (a * 7) := nI_mul a 7
theorem jM_7 (a : Nat) : (7 : Int32) * nI a = nI (7 * a) := nI_mul 7 a
theorem ja_7 (a : Nat) : nI a + (7 : Int32) = nI (a + 7) := nI_add a 7
theorem jA_7 (a : Nat) : (7 : Int32) + nI a = nI (7 + a) := nI_add 7 a
theorem js_7 {a : Nat} (h : 7 ≤ a) : nI a - (7 : Int32) = nI (a - 7) := nI_sub h
theorem jlT_8 {a : Nat} (h : a < 8) : (nI a < (8 : Int32)) = True := iltT h (by decide)
theorem jlF_8 {a : Nat} (h : 8 ≤ a) (ha : a < 2147483648) : (nI a < (8 : Int32)) = False := iltF h ha
theorem jgT_8 {a : Nat} (h : 8 < a) (ha : a < 2147483648) : ((8 : Int32) < nI a) = True := iltT h ha
theorem jgF_8 {a : Nat} (h : a ≤ 8) : ((8 : Int32) < nI a) = False := iltF h (by decide)
theorem jeT_8 {a : Nat} (h : a = 8) : (nI a = (8 : Int32)) = True := ieqT h
theorem jeF_8 {a : Nat} (h : a ≠ 8) (ha : a < 2147483648) : (nI a = (8 : Int32)) = False := ieqF h ha (by decide)
theorem jv_8 {N : Nat} (h : 8 < N) (hN : N < 2147483648) : vp_in (8 : Int32) N = True := eq_true (vp_in_nI h hN)
theorem jc_8 : (8 : Int32).toNatClampNeg = 8 := nI_clamp (n := 8) (by decide)
theorem jm_8 (a : Nat) : nI a * (8 : Int32) = nI (a * 8) := nI_mul a 8
theorem jM_8 (a : Nat) : (8 : Int32) * nI a = nI (8 * a) := nI_mul 8 a
theorem ja_8 (a : Nat) : nI a + (8 : Int32) = nI (a + 8) := nI_add a 8
theorem jA_8 (a : Nat) : (8 : Int32) + nI a = nI (8 + a) := nI_add 8 a
theorem js_8 {a : Nat} (h : 8 ≤ a) : nI a - (8 : Int32) = nI (a - 8) := nI_sub h
theorem jlT_9 {a : Nat} (h : a < 9) : (nI a < (9 : Int32)) = True := iltT h (by decide)
theorem jlF_9 {a : Nat} (h : 9 ≤ a) (ha : a < 2147483648) : (nI a < (9 : Int32)) = False := iltF h ha
theorem jgT_9 {a : Nat} (h : 9 < a) (ha : a < 2147483648) : ((9 : Int32) < nI a) = True := iltT h ha
theorem jgF_9 {a : Nat} (h : a ≤ 9) : ((9 : Int32) < nI a) = False := iltF h (by decide)
theorem jeT_9 {a : Nat} (h : a = 9) : (nI a = (9 : Int32)) = True := ieqT h
theorem jeF_9 {a : Nat} (h : a ≠ 9) (ha : a < 2147483648) : (nI a = (9 : Int32)) = False := ieqF h ha (by decide)
theorem jv_9 {N : Nat} (h : 9 < N) (hN : N < 2147483648) : vp_in (9 : Int32) N = True := eq_true (vp_in_nI h hN)
theorem jc_9 : (9 : Int32).toNatClampNeg = 9 := nI_clamp (n := 9) (by decide)
theorem jm_9 (a : Nat) : nI a * (9 : Int32) = nI (a * 9) := nI_mul a 9
theorem jM_9 (a : Nat) : (9 : Int32) * nI a = nI (9 * a) := nI_mul 9 a
theorem ja_9 (a : Nat) : nI a + (9 : Int32) = nI (a + 9) := nI_add a 9
theorem jA_9 (a : Nat) : (9 : Int32) + nI a = nI (9 + a) := nI_add 9 a
theorem js_9 {a : Nat} (h : 9 ≤ a) : nI a - (9 : Int32) = nI (a - 9) := nI_sub h
theorem jlT_10 {a : Nat} (h : a < 10) : (nI a < (10 : Int32)) = True := iltT h (by decide)
theorem jlF_10 {a : Nat} (h : 10 ≤ a) (ha : a < 2147483648) : (nI a < (10 : Int32)) = False := iltF h ha
theorem jgT_10 {a : Nat} (h : 10 < a) (ha : a < 2147483648) : ((10 : Int32) < nI a) = True := iltT h ha
theorem jgF_10 {a : Nat} (h : a ≤ 10) : ((10 : Int32) < nI a) = False := iltF h (by decide)
theorem jeT_10 {a : Nat} (h : a = 10) : (nI a = (10 : Int32)) = True := ieqT h
theorem jeF_10 {a : Nat} (h : a ≠ 10) (ha : a < 2147483648) : (nI a = (10 : Int32)) = False := ieqF h ha (by decide)
theorem jv_10 {N : Nat} (h : 10 < N) (hN : N < 2147483648) : vp_in (10 : Int32) N = True := eq_true (vp_in_nI h hN)
theorem jc_10 : (10 : Int32).toNatClampNeg = 10 := nI_clamp (n := 10) (by decide)
theorem jm_10 (a : Nat) : nI a * (10 : Int32) = nI (a * 10) := nI_mul a 10
theorem jM_10 (a : Nat) : (10 : Int32) * nI a = nI (10 * a) := nI_mul 10 a
theorem ja_10 (a : Nat) : nI a + (10 : Int32) = nI (a + 10) := nI_add a 10
theorem jA_10 (a : Nat) : (10 : Int32) + nI a = nI (10 + a) := nI_add 10 a
theorem js_10 {a : Nat} (h : 10 ≤ a) : nI a - (10 : Int32) = nI (a - 10) := nI_sub h
theorem jlT_11 {a : Nat} (h : a < 11) : (nI a < (11 : Int32)) = True := iltT h (by decide)
theorem jlF_11 {a : Nat} (h : 11 ≤ a) (ha : a < 2147483648) : (nI a < (11 : Int32)) = False := iltF h ha
theorem jgT_11 {a : Nat} (h : 11 < a) (ha : a < 2147483648) : ((11 : Int32) < nI a) = True := iltT h ha
theorem jgF_11 {a : Nat} (h : a ≤ 11) : ((11 : Int32) < nI a) = False := iltF h (by decide)
theorem jeT_11 {a : Nat} (h : a = 11) : (nI a = (11 : Int32)) = True := ieqT h
theorem jeF_11 {a : Nat} (h : a ≠ 11) (ha : a < 2147483648) : (nI a = (11 : Int32)) = False := ieqF h ha (by decide)
theorem jv_11 {N : Nat} (h : 11 < N) (hN : N < 2147483648) : vp_in (11 : Int32) N = True := eq_true (vp_in_nI h hN)
theorem jc_11 : (11 : Int32).toNatClampNeg = 11 := nI_clamp (n := 11) (by decide)
theorem jm_11 (a : Nat) : nI a * (11 : Int32) = nI (a * 11) := nI_mul a 11
theorem jM_11 (a : Nat) : (11 : Int32) * nI a = nI (11 * a) := nI_mul 11 a
theorem ja_11 (a : Nat) : nI a + (11 : Int32) = nI (a + 11) := nI_add a 11
theorem jA_11 (a : Nat) : (11 : Int32) + nI a = nI (11 + a) := nI_add 11 a
theorem js_11 {a : Nat} (h : 11 ≤ a) : nI a - (11 : Int32) = nI (a - 11) := nI_sub h
theorem jlT_12 {a : Nat} (h : a < 12) : (nI a < (12 : Int32)) = True := iltT h (by decide)
theorem jlF_12 {a : Nat} (h : 12 ≤ a) (ha : a < 2147483648) : (nI a < (12 : Int32)) = False := iltF h ha
theorem jgT_12 {a : Nat} (h : 12 < a) (ha : a < 2147483648) : ((12 : Int32) < nI a) = True := iltT h ha
theorem jgF_12 {a : Nat} (h : a ≤ 12) : ((12 : Int32) < nI a) = False := iltF h (by decide)
theorem jeT_12 {a : Nat} (h : a = 12) : (nI a = (12 : Int32)) = True := ieqT h
theorem jeF_12 {a : Nat} (h : a ≠ 12) (ha : a < 2147483648) : (nI a = (12 : Int32)) = False := ieqF h ha (by decide)
theorem jv_12 {N : Nat} (h : 12 < N) (hN : N < 2147483648) : vp_in (12 : Int32) N = True := eq_true (vp_in_nI h hN)
theorem jc_12 : (12 : Int32).toNatClampNeg = 12 := nI_clamp (n := 12) (by decide)
theorem jm_12 (a : Nat) : nI a * (12 : Int32) = nI (a * 12) := nI_mul a 12
theorem jM_12 (a : Nat) : (12 : Int32) * nI a = nI (12 * a) := nI_mul 12 a
theorem ja_12 (a : Nat) : nI a + (12 : Int32) = nI (a + 12) := nI_add a 12
theorem jA_12 (a : Nat) : (12 : Int32) + nI a = nI (12 + a) := nI_add 12 a
theorem js_12 {a : Nat} (h : 12 ≤ a) : nI a - (12 : Int32) = nI (a - 12) := nI_sub h
theorem jlT_13 {a : Nat} (h : a < 13) : (nI a < (13 : Int32)) = True := iltT h (by decide)
theorem jlF_13 {a : Nat} (h : 13 ≤ a) (ha : a < 2147483648) : (nI a < (13 : Int32)) = False := iltF h ha
theorem jgT_13 {a : Nat} (h : 13 < a) (ha : a < 2147483648) : ((13 : Int32) < nI a) = True := iltT h ha
theorem jgF_13 {a : Nat} (h : a ≤ 13) : ((13 : Int32) < nI a) = False := iltF h (by decide)
theorem jeT_13 {a : Nat} (h : a = 13) : (nI a = (13 : Int32)) = True := ieqT h
theorem jeF_13 {a : Nat} (h : a ≠ 13) (ha : a < 2147483648) : (nI a = (13 : Int32)) = False := ieqF h ha (by decide)
theorem jv_13 {N : Nat} (h : 13 < N) (hN : N < 2147483648) : vp_in (13 : Int32) N = True := eq_true (vp_in_nI h hN)
theorem jc_13 : (13 : Int32).toNatClampNeg = 13 := nI_clamp (n := 13) (by decide)
theorem jm_13 (a : Nat) : nI a * (13 : Int32) = nI (a * 13) := nI_mul a 13
theorem jM_13 (a : Nat) : (13 : Int32) * nI a = nI (13 * a) := nI_mul 13 a
theorem ja_13 (a : Nat) : nI a + (13 : Int32) = nI (a + 13) := nI_add a 13
theorem jA_13 (a : Nat) : (13 : Int32) + nI a = nI (13 + a) := nI_add 13 a
theorem js_13 {a : Nat} (h : 13 ≤ a) : nI a - (13 : Int32) = nI (a - 13) := nI_sub h
theorem jlT_14 {a : Nat} (h : a < 14) : (nI a < (14 : Int32)) = True := iltT h (by decide)
theorem jlF_14 {a : Nat} (h : 14 ≤ a) (ha : a < 2147483648) : (nI a < (14 : Int32)) = False := iltF h ha
theorem jgT_14 {a : Nat} (h : 14 < a) (ha : a < 2147483648) : ((14 : Int32) < nI a) = True := iltT h ha
theorem jgF_14 {a : Nat} (h : a ≤ 14) : ((14 : Int32) < nI a) = False := iltF h (by decide)
theorem jeT_14 {a : Nat} (h : a = 14) : (nI a = (14 : Int32)) = True := ieqT h
theorem jeF_14 {a : Nat} (h : a ≠ 14) (ha : a < 2147483648) : (nI a = (14 : Int32)) = False := ieqF h ha (by decide)
theorem jv_14 {N : Nat} (h : 14 < N) (hN : N < 2147483648) : vp_in (14 : Int32) N = True := eq_true (vp_in_nI h hN)
theorem jc_14 : (14 : Int32).toNatClampNeg = 14 := nI_clamp (n := 14) (by decide)
theorem jm_14 (a : Nat) : nI a * (14 : Int32) = nI (a * 14) := nI_mul a 14
theorem jM_14 (a : Nat) : (14 : Int32) * nI a = nI (14 * a) := nI_mul 14 a
theorem ja_14 (a : Nat) : nI a + (14 : Int32) = nI (a + 14) := nI_add a 14
theorem jA_14 (a : Nat) : (14 : Int32) + nI a = nI (14 + a) := nI_add 14 a
theorem js_14 {a : Nat} (h : 14 ≤ a) : nI a - (14 : Int32) = nI (a - 14) := nI_sub h
theorem jlT_15 {a : Nat} (h : a < 15) : (nI a < (15 : Int32)) = True := iltT h (by decide)
theorem jlF_15 {a : Nat} (h : 15 ≤ a) (ha : a < 2147483648) : (nI a < (15 : Int32)) = False := iltF h ha
theorem jgT_15 {a : Nat} (h : 15 < a) (ha : a < 2147483648) : ((15 : Int32) < nI a) = True := iltT h ha
theorem jgF_15 {a : Nat} (h : a ≤ 15) : ((15 : Int32) < nI a) = False := iltF h (by decide)
theorem jeT_15 {a : Nat} (h : a = 15) : (nI a = (15 : Int32)) = True := ieqT h
theorem jeF_15 {a : Nat} (h : a ≠ 15) (ha : a < 2147483648) : (nI a = (15 : Int32)) = False := ieqF h ha (by decide)
theorem jv_15 {N : Nat} (h : 15 < N) (hN : N < 2147483648) : vp_in (15 : Int32) N = True := eq_true (vp_in_nI h hN)
theorem jc_15 : (15 : Int32).toNatClampNeg = 15 := nI_clamp (n := 15) (by decide)
theorem jm_15 (a : Nat) : nI a * (15 : Int32) = nI (a * 15) := nI_mul a 15
theorem jM_15 (a : Nat) : (15 : Int32) * nI a = nI (15 * a) := nI_mul 15 a
theorem ja_15 (a : Nat) : nI a + (15 : Int32) = nI (a + 15) := nI_add a 15
theorem jA_15 (a : Nat) : (15 : Int32) + nI a = nI (15 + a) := nI_add 15 a
theorem js_15 {a : Nat} (h : 15 ≤ a) : nI a - (15 : Int32) = nI (a - 15) := nI_sub h
theorem jlT_16 {a : Nat} (h : a < 16) : (nI a < (16 : Int32)) = True := iltT h (by decide)
theorem jlF_16 {a : Nat} (h : 16 ≤ a) (ha : a < 2147483648) : (nI a < (16 : Int32)) = False := iltF h ha
theorem jgT_16 {a : Nat} (h : 16 < a) (ha : a < 2147483648) : ((16 : Int32) < nI a) = True := iltT h ha
theorem jgF_16 {a : Nat} (h : a ≤ 16) : ((16 : Int32) < nI a) = False := iltF h (by decide)
theorem jeT_16 {a : Nat} (h : a = 16) : (nI a = (16 : Int32)) = True := ieqT h
theorem jeF_16 {a : Nat} (h : a ≠ 16) (ha : a < 2147483648) : (nI a = (16 : Int32)) = False := ieqF h ha (by decide)
theorem jv_16 {N : Nat} (h : 16 < N) (hN : N < 2147483648) : vp_in (16 : Int32) N = True := eq_true (vp_in_nI h hN)
theorem jc_16 : (16 : Int32).toNatClampNeg = 16 := nI_clamp (n := 16) (by decide)
theorem jm_16 (a : Nat) : nI a * (16 : Int32) = nI (a * 16) := nI_mul a 16
theorem jM_16 (a : Nat) : (16 : Int32) * nI a = nI (16 * a) := nI_mul 16 a
theorem ja_16 (a : Nat) : nI a + (16 : Int32) = nI (a + 16) := nI_add a 16
theorem jA_16 (a : Nat) : (16 : Int32) + nI a = nI (16 + a) := nI_add 16 a
theorem js_16 {a : Nat} (h : 16 ≤ a) : nI a - (16 : Int32) = nI (a - 16) := nI_sub h
theorem jlT_17 {a : Nat} (h : a < 17) : (nI a < (17 : Int32)) = True := iltT h (by decide)
theorem jlF_17 {a : Nat} (h : 17 ≤ a) (ha : a < 2147483648) : (nI a < (17 : Int32)) = False := iltF h ha
theorem jgT_17 {a : Nat} (h : 17 < a) (ha : a < 2147483648) : ((17 : Int32) < nI a) = True := iltT h ha
theorem jgF_17 {a : Nat} (h : a ≤ 17) : ((17 : Int32) < nI a) = False := iltF h (by decide)
theorem jeT_17 {a : Nat} (h : a = 17) : (nI a = (17 : Int32)) = True := ieqT h
theorem jeF_17 {a : Nat} (h : a ≠ 17) (ha : a < 2147483648) : (nI a = (17 : Int32)) = False := ieqF h ha (by decide)
theorem jv_17 {N : Nat} (h : 17 < N) (hN : N < 2147483648) : vp_in (17 : Int32) N = True := eq_true (vp_in_nI h hN)
theorem jc_17 : (17 : Int32).toNatClampNeg = 17 := nI_clamp (n := 17) (by decide)
theorem jm_17 (a : Nat) : nI a * (17 : Int32) = nI (a * 17) := nI_mul a 17
theorem jM_17 (a : Nat) : (17 : Int32) * nI a = nI (17 * a) := nI_mul 17 a
theorem ja_17 (a : Nat) : nI a + (17 : Int32) = nI (a + 17) := nI_add a 17
theorem jA_17 (a : Nat) : (17 : Int32) + nI a = nI (17 + a) := nI_add 17 a
theorem js_17 {a : Nat} (h : 17 ≤ a) : nI a - (17 : Int32) = nI (a - 17) := nI_sub h
theorem jlT_18 {a : Nat} (h : a < 18) : (nI a < (18 : Int32)) = True := iltT h (by decide)
theorem jlF_18 {a : Nat} (h : 18 ≤ a) (ha : a < 2147483648) : (nI a < (18 : Int32)) = False := iltF h ha
theorem jgT_18 {a : Nat} (h : 18 < a) (ha : a < 2147483648) : ((18 : Int32) < nI a) = True := iltT h ha
theorem jgF_18 {a : Nat} (h : a ≤ 18) : ((18 : Int32) < nI a) = False := iltF h (by decide)
theorem jeT_18 {a : Nat} (h : a = 18) : (nI a = (18 : Int32)) = True := ieqT h
theorem jeF_18 {a : Nat} (h : a ≠ 18) (ha : a < 2147483648) : (nI a = (18 : Int32)) = False := ieqF h ha (by decide)
theorem jv_18 {N : Nat} (h : 18 < N) (hN : N < 2147483648) : vp_in (18 : Int32) N = True := eq_true (vp_in_nI h hN)
theorem jc_18 : (18 : Int32).toNatClampNeg = 18 := nI_clamp (n := 18) (by decide)
theorem jm_18 (a : Nat) : nI a * (18 : Int32) = nI (a * 18) := nI_mul a 18
theorem jM_18 (a : Nat) : (18 : Int32) * nI a = nI (18 * a) := nI_mul 18 a
theorem ja_18 (a : Nat) : nI a + (18 : Int32) = nI (a + 18) := nI_add a 18
theorem jA_18 (a : Nat) : (18 : Int32) + nI a = nI (18 + a) := nI_add 18 a
theorem js_18 {a : Nat} (h : 18 ≤ a) : nI a - (18 : Int32) = nI (a - 18) := nI_sub h
theorem jlT_19 {a : Nat} (h : a < 19) : (nI a < (19 : Int32)) = True := iltT h (by decide)
theorem jlF_19 {a : Nat} (h : 19 ≤ a) (ha : a < 2147483648) : (nI a < (19 : Int32)) = False := iltF h ha
theorem jgT_19 {a : Nat} (h : 19 < a) (ha : a < 2147483648) : ((19 : Int32) < nI a) = True := iltT h ha
theorem jgF_19 {a : Nat} (h : a ≤ 19) : ((19 : Int32) < nI a) = False := iltF h (by decide)
theorem jeT_19 {a : Nat} (h : a = 19) : (nI a = (19 : Int32)) = True := ieqT h
theorem jeF_19 {a : Nat} (h : a ≠ 19) (ha : a < 2147483648) : (nI a = (19 : Int32)) = False := ieqF h ha (by decide)
theorem jv_19 {N : Nat} (h : 19 < N) (hN : N < 2147483648) : vp_in (19 : Int32) N = True := eq_true (vp_in_nI h hN)
theorem jc_19 : (19 : Int32).toNatClampNeg = 19 := nI_clamp (n := 19) (by decide)
theorem jm_19 (a : Nat) : nI a * (19 : Int32) = nI (a * 19) := nI_mul a 19
theorem jM_19 (a : Nat) : (19 : Int32) * nI a = nI (19 * a) := nI_mul 19 a
theorem ja_19 (a : Nat) : nI a + (19 : Int32) = nI (a + 19) := nI_add a 19
theorem jA_19 (a : Nat) : (19 : Int32) + nI a = nI (19 + a) := nI_add 19 a
theorem js_19 {a : Nat} (h : 19 ≤ a) : nI a - (19 : Int32) = nI (a - 19) := nI_sub h
theorem jlT_20 {a : Nat} (h : a < 20) : (nI a < (20 : Int32)) = True := iltT h (by decide)
theorem jlF_20 {a : Nat} (h : 20 ≤ a) (ha : a < 2147483648) : (nI a < (20 : Int32)) = False := iltF h ha
theorem jgT_20 {a : Nat} (h : 20 < a) (ha : a < 2147483648) : ((20 : Int32) < nI a) = True := iltT h ha
theorem jgF_20 {a : Nat} (h : a ≤ 20) : ((20 : Int32) < nI a) = False := iltF h (by decide)
theorem jeT_20 {a : Nat} (h : a = 20) : (nI a = (20 : Int32)) = True := ieqT h
theorem jeF_20 {a : Nat} (h : a ≠ 20) (ha : a < 2147483648) : (nI a = (20 : Int32)) = False := ieqF h ha (by decide)
theorem jv_20 {N : Nat} (h : 20 < N) (hN : N < 2147483648) : vp_in (20 : Int32) N = True := eq_true (vp_in_nI h hN)
theorem jc_20 : (20 : Int32).toNatClampNeg = 20 := nI_clamp (n := 20) (by decide)
theorem jm_20 (a : Nat) : nI a * (20 : Int32) = nI (a * 20) := nI_mul a 20
theorem jM_20 (a : Nat) : (20 : Int32) * nI a = nI (20 * a) := nI_mul 20 a
theorem ja_20 (a : Nat) : nI a + (20 : Int32) = nI (a + 20) := nI_add a 20
theorem jA_20 (a : Nat) : (20 : Int32) + nI a = nI (20 + a) := nI_add 20 a
theorem js_20 {a : Nat} (h : 20 ≤ a) : nI a - (20 : Int32) = nI (a - 20) := nI_sub h
theorem jlT_24 {a : Nat} (h : a < 24) : (nI a < (24 : Int32)) = True := iltT h (by decide)
theorem jlF_24 {a : Nat} (h : 24 ≤ a) (ha : a < 2147483648) : (nI a < (24 : Int32)) = False := iltF h ha
theorem jgT_24 {a : Nat} (h : 24 < a) (ha : a < 2147483648) : ((24 : Int32) < nI a) = True := iltT h ha
theorem jgF_24 {a : Nat} (h : a ≤ 24) : ((24 : Int32) < nI a) = False := iltF h (by decide)
theorem jeT_24 {a : Nat} (h : a = 24) : (nI a = (24 : Int32)) = True := ieqT h
theorem jeF_24 {a : Nat} (h : a ≠ 24) (ha : a < 2147483648) : (nI a = (24 : Int32)) = False := ieqF h ha (by decide)
theorem jv_24 {N : Nat} (h : 24 < N) (hN : N < 2147483648) : vp_in (24 : Int32) N = True := eq_true (vp_in_nI h hN)
theorem jc_24 : (24 : Int32).toNatClampNeg = 24 := nI_clamp (n := 24) (by decide)
theorem jm_24 (a : Nat) : nI a * (24 : Int32) = nI (a * 24) := nI_mul a 24
theorem jM_24 (a : Nat) : (24 : Int32) * nI a = nI (24 * a) := nI_mul 24 a
theorem ja_24 (a : Nat) : nI a + (24 : Int32) = nI (a + 24) := nI_add a 24
theorem jA_24 (a : Nat) : (24 : Int32) + nI a = nI (24 + a) := nI_add 24 a
theorem js_24 {a : Nat} (h : 24 ≤ a) : nI a - (24 : Int32) = nI (a - 24) := nI_sub h
theorem jlT_26 {a : Nat} (h : a < 26) : (nI a < (26 : Int32)) = True := iltT h (by decide)
theorem jlF_26 {a : Nat} (h : 26 ≤ a) (ha : a < 2147483648) : (nI a < (26 : Int32)) = False := iltF h ha
theorem jgT_26 {a : Nat} (h : 26 < a) (ha : a < 2147483648) : ((26 : Int32) < nI a) = True := iltT h ha
theorem jgF_26 {a : Nat} (h : a ≤ 26) : ((26 : Int32) < nI a) = False := iltF h (by decide)
theorem jeT_26 {a : Nat} (h : a = 26) : (nI a = (26 : Int32)) = True := ieqT h
theorem jeF_26 {a : Nat} (h : a ≠ 26) (ha : a < 2147483648) : (nI a = (26 : Int32)) = False := ieqF h ha (by decide)
theorem jv_26 {N : Nat} (h : 26 < N) (hN : N < 2147483648) : vp_in (26 : Int32) N = True := eq_true (vp_in_nI h hN)
theorem jc_26 : (26 : Int32).toNatClampNeg = 26 := nI_clamp (n := 26) (by decide)
theorem jm_26 (a : Nat) : nI a * (26 : Int32) = nI (a * 26) := nI_mul a 26
theorem jM_26 (a : Nat) : (26 : Int32) * nI a = nI (26 * a) := nI_mul 26 a
theorem ja_26 (a : Nat) : nI a + (26 : Int32) = nI (a + 26) := nI_add a 26
theorem jA_26 (a : Nat) : (26 : Int32) + nI a = nI (26 + a) := nI_add 26 a
theorem js_26 {a : Nat} (h : 26 ≤ a) : nI a - (26 : Int32) = nI (a - 26) := nI_sub h
theorem jlT_30 {a : Nat} (h : a < 30) : (nI a < (30 : Int32)) = True := iltT h (by decide)
theorem jlF_30 {a : Nat} (h : 30 ≤ a) (ha : a < 2147483648) : (nI a < (30 : Int32)) = False := iltF h ha
theorem jgT_30 {a : Nat} (h : 30 < a) (ha : a < 2147483648) : ((30 : Int32) < nI a) = True := iltT h ha
theorem jgF_30 {a : Nat} (h : a ≤ 30) : ((30 : Int32) < nI a) = False := iltF h (by decide)
theorem jeT_30 {a : Nat} (h : a = 30) : (nI a = (30 : Int32)) = True := ieqT h
theorem jeF_30 {a : Nat} (h : a ≠ 30) (ha : a < 2147483648) : (nI a = (30 : Int32)) = False := ieqF h ha (by decide)
theorem jv_30 {N : Nat} (h : 30 < N) (hN : N < 2147483648) : vp_in (30 : Int32) N = True := eq_true (vp_in_nI h hN)
theorem jc_30 : (30 : Int32).toNatClampNeg = 30 := nI_clamp (n := 30) (by decide)
theorem jm_30 (a : Nat) : nI a * (30 : Int32) = nI (a * 30) := nI_mul a 30
theorem jM_30 (a : Nat) : (30 : Int32) * nI a = nI (30 * a) := nI_mul 30 a
theorem ja_30 (a : Nat) : nI a + (30 : Int32) = nI (a + 30) := nI_add a 30
theorem jA_30 (a : Nat) : (30 : Int32) + nI a = nI (30 + a) := nI_add 30 a
theorem js_30 {a : Nat} (h : 30 ≤ a) : nI a - (30 : Int32) = nI (a - 30) := nI_sub h
theorem jlT_40 {a : Nat} (h : a < 40) : (nI a < (40 : Int32)) = True := iltT h (by decide)
theorem jlF_40 {a : Nat} (h : 40 ≤ a) (ha : a < 2147483648) : (nI a < (40 : Int32)) = False := iltF h ha
theorem jgT_40 {a : Nat} (h : 40 < a) (ha : a < 2147483648) : ((40 : Int32) < nI a) = True := iltT h ha
theorem jgF_40 {a : Nat} (h : a ≤ 40) : ((40 : Int32) < nI a) = False := iltF h (by decide)
theorem jeT_40 {a : Nat} (h : a = 40) : (nI a = (40 : Int32)) = True := ieqT h
theorem jeF_40 {a : Nat} (h : a ≠ 40) (ha : a < 2147483648) : (nI a = (40 : Int32)) = False := ieqF h ha (by decide)
theorem jv_40 {N : Nat} (h : 40 < N) (hN : N < 2147483648) : vp_in (40 : Int32) N = True := eq_true (vp_in_nI h hN)
theorem jc_40 : (40 : Int32).toNatClampNeg = 40 := nI_clamp (n := 40) (by decide)
theorem jm_40 (a : Nat) : nI a * (40 : Int32) = nI (a * 40) := nI_mul a 40
theorem jM_40 (a : Nat) : (40 : Int32) * nI a = nI (40 * a) := nI_mul 40 a
theorem ja_40 (a : Nat) : nI a + (40 : Int32) = nI (a + 40) := nI_add a 40
theorem jA_40 (a : Nat) : (40 : Int32) + nI a = nI (40 + a) := nI_add 40 a
theorem js_40 {a : Nat} (h : 40 ≤ a) : nI a - (40 : Int32) = nI (a - 40) := nI_sub h
theorem jlT_48 {a : Nat} (h : a < 48) : (nI a < (48 : Int32)) = True := iltT h (by decide)
theorem jlF_48 {a : Nat} (h : 48 ≤ a) (ha : a < 2147483648) : (nI a < (48 : Int32)) = False := iltF h ha
theorem jgT_48 {a : Nat} (h : 48 < a) (ha : a < 2147483648) : ((48 : Int32) < nI a) = True := iltT h ha
theorem jgF_48 {a : Nat} (h : a ≤ 48) : ((48 : Int32) < nI a) = False := iltF h (by decide)
theorem jeT_48 {a : Nat} (h : a = 48) : (nI a = (48 : Int32)) = True := ieqT h
theorem jeF_48 {a : Nat} (h : a ≠ 48) (ha : a < 2147483648) : (nI a = (48 : Int32)) = False := ieqF h ha (by decide)
theorem jv_48 {N : Nat} (h : 48 < N) (hN : N < 2147483648) : vp_in (48 : Int32) N = True := eq_true (vp_in_nI h hN)
theorem jc_48 : (48 : Int32).toNatClampNeg = 48 := nI_clamp (n := 48) (by decide)
theorem jm_48 (a : Nat) : nI a * (48 : Int32) = nI (a * 48) := nI_mul a 48
theorem jM_48 (a : Nat) : (48 : Int32) * nI a = nI (48 * a) := nI_mul 48 a
theorem ja_48 (a : Nat) : nI a + (48 : Int32) = nI (a + 48) := nI_add a 48
theorem jA_48 (a : Nat) : (48 : Int32) + nI a = nI (48 + a) := nI_add 48 a
theorem js_48 {a : Nat} (h : 48 ≤ a) : nI a - (48 : Int32) = nI (a - 48) := nI_sub h
theorem jlT_49 {a : Nat} (h : a < 49) : (nI a < (49 : Int32)) = True := iltT h (by decide)
theorem jlF_49 {a : Nat} (h : 49 ≤ a) (ha : a < 2147483648) : (nI a < (49 : Int32)) = False := iltF h ha
theorem jgT_49 {a : Nat} (h : 49 < a) (ha : a < 2147483648) : ((49 : Int32) < nI a) = True := iltT h ha
theorem jgF_49 {a : Nat} (h : a ≤ 49) : ((49 : Int32) < nI a) = False := iltF h (by decide)
theorem jeT_49 {a : Nat} (h : a = 49) : (nI a = (49 : Int32)) = True := ieqT h
theorem jeF_49 {a : Nat} (h : a ≠ 49) (ha : a < 2147483648) : (nI a = (49 : Int32)) = False := ieqF h ha (by decide)
theorem jv_49 {N : Nat} (h : 49 < N) (hN : N < 2147483648) : vp_in (49 : Int32) N = True := eq_true (vp_in_nI h hN)
theorem jc_49 : (49 : Int32).toNatClampNeg = 49 := nI_clamp (n := 49) (by decide)
theorem jm_49 (a : Nat) : nI a * (49 : Int32) = nI (a * 49) := nI_mul a 49
theorem jM_49 (a : Nat) : (49 : Int32) * nI a = nI (49 * a) := nI_mul 49 a
theorem ja_49 (a : Nat) : nI a + (49 : Int32) = nI (a + 49) := nI_add a 49
theorem jA_49 (a : Nat) : (49 : Int32) + nI a = nI (49 + a) := nI_add 49 a
theorem js_49 {a : Nat} (h : 49 ≤ a) : nI a - (49 : Int32) = nI (a - 49) := nI_sub h
theorem jlT_57 {a : Nat} (h : a < 57) : (nI a < (57 : Int32)) = True := iltT h (by decide)
theorem jlF_57 {a : Nat} (h : 57 ≤ a) (ha : a < 2147483648) : (nI a < (57 : Int32)) = False := iltF h ha
theorem jgT_57 {a : Nat} (h : 57 < a) (ha : a < 2147483648) : ((57 : Int32) < nI a) = True := iltT h ha
theorem jgF_57 {a : Nat} (h : a ≤ 57) : ((57 : Int32) < nI a) = False := iltF h (by decide)
theorem jeT_57 {a : Nat} (h : a = 57) : (nI a = (57 : Int32)) = True := ieqT h
theorem jeF_57 {a : Nat} (h : a ≠ 57) (ha : a < 2147483648) : (nI a = (57 : Int32)) = False := ieqF h ha (by decide)
theorem jv_57 {N : Nat} (h : 57 < N) (hN : N < 2147483648) : vp_in (57 : Int32) N = True := eq_true (vp_in_nI h hN)
theorem jc_57 : (57 : Int32).toNatClampNeg = 57 := nI_clamp (n := 57) (by decide)
theorem jm_57 (a : Nat) : nI a * (57 : Int32) = nI (a * 57) := nI_mul a 57
theorem jM_57 (a : Nat) : (57 : Int32) * nI a = nI (57 * a) := nI_mul 57 a
theorem ja_57 (a : Nat) : nI a + (57 : Int32) = nI (a + 57) := nI_add a 57
theorem jA_57 (a : Nat) : (57 : Int32) + nI a = nI (57 + a) := nI_add 57 a
theorem js_57 {a : Nat} (h : 57 ≤ a) : nI a - (57 : Int32) = nI (a - 57) := nI_sub h
theorem jlT_60 {a : Nat} (h : a < 60) : (nI a < (60 : Int32)) = True := iltT h (by decide)
theorem jlF_60 {a : Nat} (h : 60 ≤ a) (ha : a < 2147483648) : (nI a < (60 : Int32)) = False := iltF h ha
theorem jgT_60 {a : Nat} (h : 60 < a) (ha : a < 2147483648) : ((60 : Int32) < nI a) = True := iltT h ha
theorem jgF_60 {a : Nat} (h : a ≤ 60) : ((60 : Int32) < nI a) = False := iltF h (by decide)
theorem jeT_60 {a : Nat} (h : a = 60) : (nI a = (60 : Int32)) = True := ieqT h
theorem jeF_60 {a : Nat} (h : a ≠ 60) (ha : a < 2147483648) : (nI a = (60 : Int32)) = False := ieqF h ha (by decide)
theorem jv_60 {N : Nat} (h : 60 < N) (hN : N < 2147483648) : vp_in (60 : Int32) N = True := eq_true (vp_in_nI h hN)
theorem jc_60 : (60 : Int32).toNatClampNeg = 60 := nI_clamp (n := 60) (by decide)
theorem jm_60 (a : Nat) : nI a * (60 : Int32) = nI (a * 60) := nI_mul a 60
theorem jM_60 (a : Nat) : (60 : Int32) * nI a = nI (60 * a) := nI_mul 60 a
theorem ja_60 (a : Nat) : nI a + (60 : Int32) = nI (a + 60) := nI_add a 60
theorem jA_60 (a : Nat) : (60 : Int32) + nI a = nI (60 + a) := nI_add 60 a
theorem js_60 {a : Nat} (h : 60 ≤ a) : nI a - (60 : Int32) = nI (a - 60) := nI_sub h
theorem jlT_61 {a : Nat} (h : a < 61) : (nI a < (61 : Int32)) = True := iltT h (by decide)
theorem jlF_61 {a : Nat} (h : 61 ≤ a) (ha : a < 2147483648) : (nI a < (61 : Int32)) = False := iltF h ha
theorem jgT_61 {a : Nat} (h : 61 < a) (ha : a < 2147483648) : ((61 : Int32) < nI a) = True := iltT h ha
theorem jgF_61 {a : Nat} (h : a ≤ 61) : ((61 : Int32) < nI a) = False := iltF h (by decide)
theorem jeT_61 {a : Nat} (h : a = 61) : (nI a = (61 : Int32)) = True := ieqT h
theorem jeF_61 {a : Nat} (h : a ≠ 61) (ha : a < 2147483648) : (nI a = (61 : Int32)) = False := ieqF h ha (by decide)
theorem jv_61 {N : Nat} (h : 61 < N) (hN : N < 2147483648) : vp_in (61 : Int32) N = True := eq_true (vp_in_nI h hN)
theorem jc_61 : (61 : Int32).toNatClampNeg = 61 := nI_clamp (n := 61) (by decide)
theorem jm_61 (a : Nat) : nI a * (61 : Int32) = nI (a * 61) := nI_mul a 61
theorem jM_61 (a : Nat) : (61 : Int32) * nI a = nI (61 * a) := nI_mul 61 a
theorem ja_61 (a : Nat) : nI a + (61 : Int32) = nI (a + 61) := nI_add a 61
theorem jA_61 (a : Nat) : (61 : Int32) + nI a = nI (61 + a) := nI_add 61 a
theorem js_61 {a : Nat} (h : 61 ≤ a) : nI a - (61 : Int32) = nI (a - 61) := nI_sub h
theorem jlT_64 {a : Nat} (h : a < 64) : (nI a < (64 : Int32)) = True := iltT h (by decide)
theorem jlF_64 {a : Nat} (h : 64 ≤ a) (ha : a < 2147483648) : (nI a < (64 : Int32)) = False := iltF h ha
theorem jgT_64 {a : Nat} (h : 64 < a) (ha : a < 2147483648) : ((64 : Int32) < nI a) = True := iltT h ha
theorem jgF_64 {a : Nat} (h : a ≤ 64) : ((64 : Int32) < nI a) = False := iltF h (by decide)
theorem jeT_64 {a : Nat} (h : a = 64) : (nI a = (64 : Int32)) = True := ieqT h
theorem jeF_64 {a : Nat} (h : a ≠ 64) (ha : a < 2147483648) : (nI a = (64 : Int32)) = False := ieqF h ha (by decide)
theorem jv_64 {N : Nat} (h : 64 < N) (hN : N < 2147483648) : vp_in (64 : Int32) N = True := eq_true (vp_in_nI h hN)
theorem jc_64 : (64 : Int32).toNatClampNeg = 64 := nI_clamp (n := 64) (by decide)
theorem jm_64 (a : Nat) : nI a * (64 : Int32) = nI (a * 64) := nI_mul a 64
theorem jM_64 (a : Nat) : (64 : Int32) * nI a = nI (64 * a) := nI_mul 64 a
theorem ja_64 (a : Nat) : nI a + (64 : Int32) = nI (a + 64) := nI_add a 64
theorem jA_64 (a : Nat) : (64 : Int32) + nI a = nI (64 + a) := nI_add 64 a
theorem js_64 {a : Nat} (h : 64 ≤ a) : nI a - (64 : Int32) = nI (a - 64) := nI_sub h
theorem jlT_79 {a : Nat} (h : a < 79) : (nI a < (79 : Int32)) = True := iltT h (by decide)
theorem jlF_79 {a : Nat} (h : 79 ≤ a) (ha : a < 2147483648) : (nI a < (79 : Int32)) = False := iltF h ha
theorem jgT_79 {a : Nat} (h : 79 < a) (ha : a < 2147483648) : ((79 : Int32) < nI a) = True := iltT h ha
theorem jgF_79 {a : Nat} (h : a ≤ 79) : ((79 : Int32) < nI a) = False := iltF h (by decide)
theorem jeT_79 {a : Nat} (h : a = 79) : (nI a = (79 : Int32)) = True := ieqT h
theorem jeF_79 {a : Nat} (h : a ≠ 79) (ha : a < 2147483648) : (nI a = (79 : Int32)) = False := ieqF h ha (by decide)
theorem jv_79 {N : Nat} (h : 79 < N) (hN : N < 2147483648) : vp_in (79 : Int32) N = True := eq_true (vp_in_nI h hN)
theorem jc_79 : (79 : Int32).toNatClampNeg = 79 := nI_clamp (n := 79) (by decide)
theorem jm_79 (a : Nat) : nI a * (79 : Int32) = nI (a * 79) := nI_mul a 79
theorem jM_79 (a : Nat) : (79 : Int32) * nI a = nI (79 * a) := nI_mul 79 a
theorem ja_79 (a : Nat) : nI a + (79 : Int32) = nI (a + 79) := nI_add a 79
theorem jA_79 (a : Nat) : (79 : Int32) + nI a = nI (79 + a) := nI_add 79 a
theorem js_79 {a : Nat} (h : 79 ≤ a) : nI a - (79 : Int32) = nI (a - 79) := nI_sub h
theorem jlT_80 {a : Nat} (h : a < 80) : (nI a < (80 : Int32)) = True := iltT h (by decide)
theorem jlF_80 {a : Nat} (h : 80 ≤ a) (ha : a < 2147483648) : (nI a < (80 : Int32)) = False := iltF h ha
theorem jgT_80 {a : Nat} (h : 80 < a) (ha : a < 2147483648) : ((80 : Int32) < nI a) = True := iltT h ha
theorem jgF_80 {a : Nat} (h : a ≤ 80) : ((80 : Int32) < nI a) = False := iltF h (by decide)
theorem jeT_80 {a : Nat} (h : a = 80) : (nI a = (80 : Int32)) = True := ieqT h
theorem jeF_80 {a : Nat} (h : a ≠ 80) (ha : a < 2147483648) : (nI a = (80 : Int32)) = False := ieqF h ha (by decide)
theorem jv_80 {N : Nat} (h : 80 < N) (hN : N < 2147483648) : vp_in (80 : Int32) N = True := eq_true (vp_in_nI h hN)
theorem jc_80 : (80 : Int32).toNatClampNeg = 80 := nI_clamp (n := 80) (by decide)
theorem jm_80 (a : Nat) : nI a * (80 : Int32) = nI (a * 80) := nI_mul a 80
theorem jM_80 (a : Nat) : (80 : Int32) * nI a = nI (80 * a) := nI_mul 80 a
theorem ja_80 (a : Nat) : nI a + (80 : Int32) = nI (a + 80) := nI_add a 80
theorem jA_80 (a : Nat) : (80 : Int32) + nI a = nI (80 + a) := nI_add 80 a
theorem js_80 {a : Nat} (h : 80 ≤ a) : nI a - (80 : Int32) = nI (a - 80) := nI_sub h
theorem jlT_99 {a : Nat} (h : a < 99) : (nI a < (99 : Int32)) = True := iltT h (by decide)
theorem jlF_99 {a : Nat} (h : 99 ≤ a) (ha : a < 2147483648) : (nI a < (99 : Int32)) = False := iltF h ha
theorem jgT_99 {a : Nat} (h : 99 < a) (ha : a < 2147483648) : ((99 : Int32) < nI a) = True := iltT h ha
theorem jgF_99 {a : Nat} (h : a ≤ 99) : ((99 : Int32) < nI a) = False := iltF h (by decide)
theorem jeT_99 {a : Nat} (h : a = 99) : (nI a = (99 : Int32)) = True := ieqT h
theorem jeF_99 {a : Nat} (h : a ≠ 99) (ha : a < 2147483648) : (nI a = (99 : Int32)) = False := ieqF h ha (by decide)
theorem jv_99 {N : Nat} (h : 99 < N) (hN : N < 2147483648) : vp_in (99 : Int32) N = True := eq_true (vp_in_nI h hN)
theorem jc_99 : (99 : Int32).toNatClampNeg = 99 := nI_clamp (n := 99) (by decide)
theorem jm_99 (a : Nat) : nI a * (99 : Int32) = nI (a * 99) := nI_mul a 99
theorem jM_99 (a : Nat) : (99 : Int32) * nI a = nI (99 * a) := nI_mul 99 a
theorem ja_99 (a : Nat) : nI a + (99 : Int32) = nI (a + 99) := nI_add a 99
theorem jA_99 (a : Nat) : (99 : Int32) + nI a = nI (99 + a) := nI_add 99 a
theorem js_99 {a : Nat} (h : 99 ≤ a) : nI a - (99 : Int32) = nI (a - 99) := nI_sub h
theorem jlT_100 {a : Nat} (h : a < 100) : (nI a < (100 : Int32)) = True := iltT h (by decide)
theorem jlF_100 {a : Nat} (h : 100 ≤ a) (ha : a < 2147483648) : (nI a < (100 : Int32)) = False := iltF h ha
theorem jgT_100 {a : Nat} (h : 100 < a) (ha : a < 2147483648) : ((100 : Int32) < nI a) = True := iltT h ha
theorem jgF_100 {a : Nat} (h : a ≤ 100) : ((100 : Int32) < nI a) = False := iltF h (by decide)
theorem jeT_100 {a : Nat} (h : a = 100) : (nI a = (100 : Int32)) = True := ieqT h
theorem jeF_100 {a : Nat} (h : a ≠ 100) (ha : a < 2147483648) : (nI a = (100 : Int32)) = False := ieqF h ha (by decide)
theorem jv_100 {N : Nat} (h : 100 < N) (hN : N < 2147483648) : vp_in (100 : Int32) N = True := eq_true (vp_in_nI h hN)
theorem jc_100 : (100 : Int32).toNatClampNeg = 100 := nI_clamp (n := 100) (by decide)
theorem jm_100 (a : Nat) : nI a * (100 : Int32) = nI (a * 100) := nI_mul a 100
theorem jM_100 (a : Nat) : (100 : Int32) * nI a = nI (100 * a) := nI_mul 100 a
theorem ja_100 (a : Nat) : nI a + (100 : Int32) = nI (a + 100) := nI_add a 100
theorem jA_100 (a : Nat) : (100 : Int32) + nI a = nI (100 + a) := nI_add 100 a
theorem js_100 {a : Nat} (h : 100 ≤ a) : nI a - (100 : Int32) = nI (a - 100) := nI_sub h
theorem jlT_127 {a : Nat} (h : a < 127) : (nI a < (127 : Int32)) = True := iltT h (by decide)
theorem jlF_127 {a : Nat} (h : 127 ≤ a) (ha : a < 2147483648) : (nI a < (127 : Int32)) = False := iltF h ha
theorem jgT_127 {a : Nat} (h : 127 < a) (ha : a < 2147483648) : ((127 : Int32) < nI a) = True := iltT h ha
theorem jgF_127 {a : Nat} (h : a ≤ 127) : ((127 : Int32) < nI a) = False := iltF h (by decide)
theorem jeT_127 {a : Nat} (h : a = 127) : (nI a = (127 : Int32)) = True := ieqT h
theorem jeF_127 {a : Nat} (h : a ≠ 127) (ha : a < 2147483648) : (nI a = (127 : Int32)) = False := ieqF h ha (by decide)
theorem jv_127 {N : Nat} (h : 127 < N) (hN : N < 2147483648) : vp_in (127 : Int32) N = True := eq_true (vp_in_nI h hN)
theorem jc_127 : (127 : Int32).toNatClampNeg = 127 := nI_clamp (n := 127) (by decide)
theorem jm_127 (a : Nat) : nI a * (127 : Int32) = nI (a * 127) := nI_mul a 127
theorem jM_127 (a : Nat) : (127 : Int32) * nI a = nI (127 * a) := nI_mul 127 a
theorem ja_127 (a : Nat) : nI a + (127 : Int32) = nI (a + 127) := nI_add a 127
theorem jA_127 (a : Nat) : (127 : Int32) + nI a = nI (127 + a) := nI_add 127 a
theorem js_127 {a : Nat} (h : 127 ≤ a) : nI a - (127 : Int32) = nI (a - 127) := nI_sub h
theorem jlT_128 {a : Nat} (h : a < 128) : (nI a < (128 : Int32)) = True := iltT h (by decide)
theorem jlF_128 {a : Nat} (h : 128 ≤ a) (ha : a < 2147483648) : (nI a < (128 : Int32)) = False := iltF h ha
theorem jgT_128 {a : Nat} (h : 128 < a) (ha : a < 2147483648) : ((128 : Int32) < nI a) = True := iltT h ha
theorem jgF_128 {a : Nat} (h : a ≤ 128) : ((128 : Int32) < nI a) = False := iltF h (by decide)
theorem jeT_128 {a : Nat} (h : a = 128) : (nI a = (128 : Int32)) = True := ieqT h
theorem jeF_128 {a : Nat} (h : a ≠ 128) (ha : a < 2147483648) : (nI a = (128 : Int32)) = False := ieqF h ha (by decide)
theorem jv_128 {N : Nat} (h : 128 < N) (hN : N < 2147483648) : vp_in (128 : Int32) N = True := eq_true (vp_in_nI h hN)
theorem jc_128 : (128 : Int32).toNatClampNeg = 128 := nI_clamp (n := 128) (by decide)
theorem jm_128 (a : Nat) : nI a * (128 : Int32) = nI (a * 128) := nI_mul a 128
theorem jM_128 (a : Nat) : (128 : Int32) * nI a = nI (128 * a) := nI_mul 128 a
theorem ja_128 (a : Nat) : nI a + (128 : Int32) = nI (a + 128) := nI_add a 128
theorem jA_128 (a : Nat) : (128 : Int32) + nI a = nI (128 + a) := nI_add 128 a
theorem js_128 {a : Nat} (h : 128 ≤ a) : nI a - (128 : Int32) = nI (a - 128) := nI_sub h
theorem jlT_255 {a : Nat} (h : a < 255) : (nI a < (255 : Int32)) = True := iltT h (by decide)
theorem jlF_255 {a : Nat} (h : 255 ≤ a) (ha : a < 2147483648) : (nI a < (255 : Int32)) = False := iltF h ha
theorem jgT_255 {a : Nat} (h : 255 < a) (ha : a < 2147483648) : ((255 : Int32) < nI a) = True := iltT h ha
theorem jgF_255 {a : Nat} (h : a ≤ 255) : ((255 : Int32) < nI a) = False := iltF h (by decide)
theorem jeT_255 {a : Nat} (h : a = 255) : (nI a = (255 : Int32)) = True := ieqT h
theorem jeF_255 {a : Nat} (h : a ≠ 255) (ha : a < 2147483648) : (nI a = (255 : Int32)) = False := ieqF h ha (by decide)
theorem jv_255 {N : Nat} (h : 255 < N) (hN : N < 2147483648) : vp_in (255 : Int32) N = True := eq_true (vp_in_nI h hN)
theorem jc_255 : (255 : Int32).toNatClampNeg = 255 := nI_clamp (n := 255) (by decide)
theorem jm_255 (a : Nat) : nI a * (255 : Int32) = nI (a * 255) := nI_mul a 255
theorem jM_255 (a : Nat) : (255 : Int32) * nI a = nI (255 * a) := nI_mul 255 a
theorem ja_255 (a : Nat) : nI a + (255 : Int32) = nI (a + 255) := nI_add a 255
theorem jA_255 (a : Nat) : (255 : Int32) + nI a = nI (255 + a) := nI_add 255 a
theorem js_255 {a : Nat} (h : 255 ≤ a) : nI a - (255 : Int32) = nI (a - 255) := nI_sub h
theorem q_shT {o : Nat} (h : o < 31) : (1 : Int32) <<< (nI o &&& 31) = nI (2 ^ o) := q_shl o h
theorem ite01 {b : Bool} : ((if b = true then (1 : Int32) else 0) = 1) = (b = true) := by cases b <;> decide
theorem ite00 {b : Bool} : ((if b = true then (1 : Int32) else 0) = 0) = (b = false) := by cases b <;> decide
theorem p2_le : ∀ n, n < 8 → 2 ^ n ≤ 128 := by decide
theorem p3_le : ∀ n, n < 8 → 3 ^ n ≤ 2187 := by decide
theorem m1_lt : ((-1 : Int32) < 0) = True := by decide
/-! the arrays of ORDERS, each by its name -/
section ORDG
variable {h : Nat → zE} {o k len m n la : Nat} {A : Nat → Nat → Nat} {B : Nat → Nat → Int64} {C : Nat → Nat → Nat} {op : Nat → Int32} {sn : Int32} {tl : Bool}
theorem og0 (hk : ordOK o k) : ordSet h o k len m A B C op sn tl n la k = zI 0 len (fun x => nI (A 0 x)) := ord_A (i := 0) hk (by decide)
theorem og1 (hk : ordOK o k) : ordSet h o k len m A B C op sn tl n la (k + 1) = zI 0 len (fun x => nI (A 1 x)) := ord_A (i := 1) hk (by decide)
theorem og2 (hk : ordOK o k) : ordSet h o k len m A B C op sn tl n la (k + 2) = zI 0 len (fun x => nI (A 2 x)) := ord_A (i := 2) hk (by decide)
theorem og3 (hk : ordOK o k) : ordSet h o k len m A B C op sn tl n la (k + 3) = zJ len (B 0) := ord_B (i := 0) hk (by decide)
theorem og4 (hk : ordOK o k) : ordSet h o k len m A B C op sn tl n la (k + 4) = zJ len (B 1) := ord_B (i := 1) hk (by decide)
theorem og5 (hk : ordOK o k) : ordSet h o k len m A B C op sn tl n la (k + 5) = zJ len (B 2) := ord_B (i := 2) hk (by decide)
theorem og6 (hk : ordOK o k) : ordSet h o k len m A B C op sn tl n la (k + 6) = zJ m (B 3) := ord_D (i := 0) hk (by decide)
theorem og7 (hk : ordOK o k) : ordSet h o k len m A B C op sn tl n la (k + 7) = zJ m (B 4) := ord_D (i := 1) hk (by decide)
theorem ou3 (hk : ordOK o k) {f : Nat → Int64} : z_up (ordSet h o k len m A B C op sn tl n la) (k + 3) (zJ len f) = ordSet h o k len m A (z_up B 0 f) C op sn tl n la := ord_upB (i := 0) hk (by decide)
theorem ou5 (hk : ordOK o k) {f : Nat → Int64} : z_up (ordSet h o k len m A B C op sn tl n la) (k + 5) (zJ len f) = ordSet h o k len m A (z_up B 2 f) C op sn tl n la := ord_upB (i := 2) hk (by decide)
theorem ou6 (hk : ordOK o k) {f : Nat → Int64} : z_up (ordSet h o k len m A B C op sn tl n la) (k + 6) (zJ m f) = ordSet h o k len m A (z_up B 3 f) C op sn tl n la := ord_upD (i := 0) hk (by decide)
theorem ou7 (hk : ordOK o k) {f : Nat → Int64} : z_up (ordSet h o k len m A B C op sn tl n la) (k + 7) (zJ m f) = ordSet h o k len m A (z_up B 4 f) C op sn tl n la := ord_upD (i := 1) hk (by decide)
theorem ok0 (hk : ordOK o k) : o < 1000 ∧ o + 11 < 1000 ∧ k < 1000 ∧ k + 7 < 1000 := by
  obtain ⟨a, b, c⟩ := hk
  omega
end ORDG
/-- a loop from 0 on -/
def itr {α : Type} (f : Nat → α → α) (x : α) : Nat → α
  | 0 => x
  | i + 1 => f i (itr f x i)
theorem itr_s {α : Type} (f : Nat → α → α) (x : α) (i : Nat) : itr f x (i + 1) = f i (itr f x i) := rfl
theorem itr_0 {α : Type} (f : Nat → α → α) (x : α) : itr f x 0 = x := rfl
theorem itr_inv {α : Type} {f : Nat → α → α} {x : α} {N : Nat} (P : Nat → α → Prop) (h0 : P 0 x) (hs : ∀ i y, i < N → P i y → P (i + 1) (f i y)) : ∀ i, i ≤ N → P i (itr f x i) := by
  intro i
  induction i with
  | zero => intro _; exact h0
  | succ i ih => intro hi; exact hs i _ (by omega) (ih (by omega))
/-- the least i below N of which p holds, or N: a search -/
def srch (p : Nat → Bool) (i : Nat) : Nat → Nat
  | 0 => i
  | j + 1 => if p i = true then i else srch p (i + 1) j
theorem srch_0 (p : Nat → Bool) (i : Nat) : srch p i 0 = i := rfl
theorem srch_s (p : Nat → Bool) (i j : Nat) : srch p i (j + 1) = if p i = true then i else srch p (i + 1) j := rfl
/-- whether p holds of none from i on, j of them -/
def okF (p : Nat → Bool) (i : Nat) : Nat → Bool
  | 0 => true
  | j + 1 => if p i = true then false else okF p (i + 1) j
theorem okF_0 (p : Nat → Bool) (i : Nat) : okF p i 0 = true := rfl
theorem okF_s (p : Nat → Bool) (i j : Nat) : okF p i (j + 1) = if p i = true then false else okF p (i + 1) j := rfl
theorem okF_iff (p : Nat → Bool) : ∀ j i, okF p i j = true ↔ ∀ x, i ≤ x → x < i + j → p x = false := by
  intro j
  induction j with
  | zero => intro i; exact ⟨fun _ x h1 h2 => absurd h2 (by omega), fun _ => rfl⟩
  | succ j ih =>
    intro i
    rw [okF_s]
    by_cases c : p i = true
    · rw [if_pos c]
      exact ⟨fun e => absurd e (by decide), fun e => by rw [e i (Nat.le_refl _) (by omega)] at c; exact absurd c (by decide)⟩
    · rw [if_neg c, ih]
      have c : p i = false := by cases h : p i <;> simp_all
      constructor
      · intro e x h1 h2
        by_cases hx : x = i
        · rw [hx]; exact c
        · exact e x (by omega) (by omega)
      · intro e x h1 h2
        exact e x (by omega) (by omega)

