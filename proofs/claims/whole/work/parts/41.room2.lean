/-! ORDERS: new rows -/
section ROOM2
variable {h h' : Nat → zE} {o k K len m n la : Nat} {A : Nat → Nat → Nat} {B : Nat → Nat → Int64} {C : Nat → Nat → Nat} {op : Nat → Int32} {sn : Int32} {tl : Bool} {d kc ks : Nat} {u : zU} {Q : zR → Prop}
theorem ord_of (hk : ordOK o k) (h0 : h' o = zO 4 [.ref k, .ref (k + 1), .ref (k + 2), .ref (k + 3), .ref (k + 4), .ref (k + 5), .ref (k + 6), .ref (k + 7), .ref (o + 9), .ref (o + 10), .ref (o + 11), .int sn, .int (b01 tl), .int (nI n), .int (nI la)]) (hA : ∀ i, i < 3 → h' (k + i) = zI 0 len (fun x => nI (A i x))) (hB : ∀ i, i < 3 → h' (k + 3 + i) = zJ len (B i)) (hD : ∀ i, i < 2 → h' (k + 6 + i) = zJ m (B (3 + i))) (hC : ∀ i, i < 2 → h' (o + 9 + i) = zI 0 128 (fun x => nI (C i x))) (hO : h' (o + 11) = zI 0 49 op) (ho : ∀ j, j ≠ o → (j < k ∨ k + 7 < j) → (j < o + 9 ∨ o + 11 < j) → h' j = h j) : h' = ordSet h o k len m A B C op sn tl n la := by
  obtain ⟨k1, k2, k3⟩ := id hk
  funext j
  by_cases c : j = o
  · subst c; rw [h0, ord_0]
  · by_cases c1 : k ≤ j ∧ j < k + 3
    · have e := hA (j - k) (by omega)
      have e2 := ord_A (h := h) (len := len) (m := m) (A := A) (B := B) (C := C) (op := op) (sn := sn) (tl := tl) (n := n) (la := la) hk (show j - k < 3 by omega)
      rw [show k + (j - k) = j by omega] at e e2
      rw [e, e2]
    · by_cases c2 : k + 3 ≤ j ∧ j < k + 6
      · have e := hB (j - k - 3) (by omega)
        have e2 := ord_B (h := h) (len := len) (m := m) (A := A) (B := B) (C := C) (op := op) (sn := sn) (tl := tl) (n := n) (la := la) hk (show j - k - 3 < 3 by omega)
        rw [show k + 3 + (j - k - 3) = j by omega] at e e2
        rw [e, e2]
      · by_cases c3 : k + 6 ≤ j ∧ j < k + 8
        · have e := hD (j - k - 6) (by omega)
          have e2 := ord_D (h := h) (len := len) (m := m) (A := A) (B := B) (C := C) (op := op) (sn := sn) (tl := tl) (n := n) (la := la) hk (show j - k - 6 < 2 by omega)
          rw [show k + 6 + (j - k - 6) = j by omega] at e e2
          rw [e, e2]
        · by_cases c4 : o + 9 ≤ j ∧ j < o + 11
          · have e := hC (j - o - 9) (by omega)
            have e2 := ord_C (h := h) (len := len) (m := m) (A := A) (B := B) (C := C) (op := op) (sn := sn) (tl := tl) (n := n) (la := la) hk (show j - o - 9 < 2 by omega)
            rw [show o + 9 + (j - o - 9) = j by omega] at e e2
            rw [e, e2]
          · by_cases c5 : j = o + 11
            · subst c5; rw [hO, ord_op hk]
            · rw [ho j c (by omega) (by omega), ord_out c (by omega) (by omega)]
theorem ch16 {H : Nat → zE} {a0 a1 a2 a3 a4 a5 a6 a7 o0 o1 o2 o3 o4 o5 o6 o7 : zE} : z_up (z_up (z_up (z_up (z_up (z_up (z_up (z_up (z_up (z_up (z_up (z_up (z_up (z_up (z_up (z_up H K a0) o o0) (K + 1) a1) o o1) (K + 2) a2) o o2) (K + 3) a3) o o3) (K + 4) a4) o o4) (K + 5) a5) o o5) (K + 6) a6) o o6) (K + 7) a7) o o7 = fun j => if j = o then o7 else if j = K + 7 then a7 else if j = K + 6 then a6 else if j = K + 5 then a5 else if j = K + 4 then a4 else if j = K + 3 then a3 else if j = K + 2 then a2 else if j = K + 1 then a1 else if j = K then a0 else H j := by
  funext j
  by_cases c : j = o
  · simp only [z_up, if_pos c]
  · simp only [z_up, if_neg c]
theorem c_room_no (hk : ordOK o k) (hl : len < 10000) (hla : la < len) : zK (d + 1) 52 [.ref o] (ordSet h o k len m A B C op sn tl n la, u) Q = Q (none, (ordSet h o k len m A B C op sn tl n la, u)) := by
  obtain ⟨k1, k2, k3⟩ := id hk
  have ho0 : o < 1000 := by omega
  have hk0 : k < 1000 := by omega
  have g0 : ∀ A B C op sn tl n la, ordSet h o k len m A B C op sn tl n la k = zI 0 len (fun x => nI (A 0 x)) := fun A B C op sn tl n la => ord_A (i := 0) hk (by decide)
  have c1 : (nI la < nI len) = True := (nI_ult (by omega) (by omega)).trans (eq_true hla)
  refine zK_of (k := 1) (by omega) ?_
  refine zK_in (M := MX4_makeRoom) rfl (Nat.le_of_ble_eq_true rfl) ?_
  show zW 0 MX4_makeRoom 0 ([.ref o, .null, .null, .null, .null, .null, .null], [], (ordSet h o k len m A B C op sn tl n la, u)) _
  simp only [eX4_makeRoom_0, eX4_makeRoom_1, eX4_makeRoom_4, eX4_makeRoom_5, eX4_makeRoom_6, eX4_makeRoom_9, eX4_makeRoom_12, eX4_makeRoom_14, eX4_makeRoom_15, eX4_makeRoom_18, eX4_makeRoom_19, eX4_makeRoom_20, eX4_makeRoom_22, eX4_makeRoom_25, eX4_makeRoom_26, eX4_makeRoom_27, eX4_makeRoom_30, eX4_makeRoom_31, eX4_makeRoom_32, eX4_makeRoom_34, eX4_makeRoom_37, eX4_makeRoom_38, eX4_makeRoom_39, eX4_makeRoom_42, eX4_makeRoom_43, eX4_makeRoom_44, eX4_makeRoom_46, eX4_makeRoom_49, eX4_makeRoom_50, eX4_makeRoom_51, eX4_makeRoom_54, eX4_makeRoom_55, eX4_makeRoom_56, eX4_makeRoom_58, eX4_makeRoom_61, eX4_makeRoom_62, eX4_makeRoom_63, eX4_makeRoom_66, eX4_makeRoom_67, eX4_makeRoom_68, eX4_makeRoom_70, eX4_makeRoom_73, eX4_makeRoom_74, eX4_makeRoom_75, eX4_makeRoom_78, eX4_makeRoom_79, eX4_makeRoom_80, eX4_makeRoom_82, eX4_makeRoom_85, eX4_makeRoom_86, eX4_makeRoom_87, eX4_makeRoom_90, eX4_makeRoom_93, eX4_makeRoom_94, eX4_makeRoom_96, eX4_makeRoom_99, eX4_makeRoom_100, eX4_makeRoom_101, eX4_makeRoom_104, eX4_makeRoom_107, eX4_makeRoom_108, eX4_makeRoom_110, eX4_makeRoom_113, eX4_makeRoom_114, eX4_makeRoom_116, eX4_makeRoom_117, eX4_makeRoom_120, eX4_makeRoom_123, eX4_makeRoom_126, eX4_makeRoom_127, eX4_makeRoom_128, eX4_makeRoom_129, eX4_makeRoom_130, eX4_makeRoom_131, eX4_makeRoom_132, eX4_makeRoom_133, eX4_makeRoom_134, eX4_makeRoom_136, eX4_makeRoom_138, eX4_makeRoom_139, eX4_makeRoom_140, eX4_makeRoom_141, eX4_makeRoom_144, eX4_makeRoom_146, eX4_makeRoom_147, eX4_makeRoom_148, eX4_makeRoom_150, eX4_makeRoom_152, eX4_makeRoom_153, eX4_makeRoom_154, eX4_makeRoom_155, eX4_makeRoom_158, eX4_makeRoom_159, eX4_makeRoom_162, eX4_makeRoom_163, eX4_makeRoom_165, eX4_makeRoom_166, eX4_makeRoom_169, eX4_makeRoom_171, eX4_makeRoom_173, eX4_makeRoom_176, eX4_makeRoom_177, eX4_makeRoom_180, eX4_makeRoom_182, eX4_makeRoom_183, eX4_makeRoom_184, eX4_makeRoom_185, eX4_makeRoom_186, eX4_makeRoom_187, eX4_makeRoom_190, eX4_makeRoom_191, eX4_makeRoom_194, eX4_makeRoom_196, eX4_makeRoom_197, eX4_makeRoom_198, eX4_makeRoom_199, eX4_makeRoom_200, eX4_makeRoom_201, eX4_makeRoom_204, eX4_makeRoom_206, eX4_makeRoom_208, eX4_makeRoom_211, eX4_makeRoom_212, eX4_makeRoom_215, eX4_makeRoom_217, eX4_makeRoom_218, eX4_makeRoom_219, eX4_makeRoom_220, eX4_makeRoom_223, eX4_makeRoom_224, eX4_makeRoom_227, eX4_makeRoom_229, eX4_makeRoom_230, eX4_makeRoom_231, eX4_makeRoom_234, eX4_makeRoom_237, eX4_makeRoom_240, eX4_makeRoom_243, rX4_makeRoom, zg_aload, zg_arraylength, zg_getfield, zg_getstatic, zg_goto, zg_iadd, zg_iaload, zg_iand, zg_iastore, zg_icmp, zg_iconst, zg_if, zg_iinc, zg_iload, zg_imul, zg_ior, zg_ishl, zg_istore, zg_isub, zg_ixor, zg_newarray, zg_putfield, zg_return, zg_sipush, q10, q01, q00, ite_self, zLd_i, zLd_l, zLd_a, zInc_i, zGet_o, zGet2_s, zPut_o, zAld_i, zAll_j, zAst_i, zAsl_j, zLen_i, zLen_j, zRt_i, zRt_z, zRl2_l, zRv_n, List.getElem?_cons_zero, List.getElem?_cons_succ, List.length_cons, List.length_nil, z_set, z_set2, z_cut, List.set_cons_zero, List.set_cons_succ, Option.toList_some, Option.toList_none, List.cons_append, List.nil_append, zif, zW_ite, zfit_0, zfit_1, zfit_2, zfit_3, zisc_o, zRt_c, zRt_b, List.map_cons, List.map_nil, List.sum_cons, List.sum_nil, true_and, and_true, if_true, if_false, ite_true, ite_false, Nat.reduceLT, Nat.reduceLeDiff, Nat.reduceAdd, Nat.reduceEqDiff, eq_self, not_true_eq_false, not_false_eq_true, Nat.lt_irrefl, or_true, true_or, or_false, false_or, z_cell_lt, Value.category, ord_0, g0, ho0, hk0, c1]
theorem c_room (hk : ordOK o k) (hK : ordOK o K) (hKo : o + 12 ≤ K) (hn : n ≤ 7) (hl : len ≤ la) (h3 : la + 1 = 3 ^ n) (hl2 : la < 9000) : zK (d + 1) 52 [.ref o] (ordSet h o k len m A B C op sn tl n la, (K, kc, ks)) Q = Q (none, (ordSet (ordSet h o k len m A B C op sn tl n la) o K (la + 1) (128 * n) (a2 (mkO (fun _ => 0, fun _ => 0) n).1 (mkO (fun _ => 0, fun _ => 0) n).2 (fun _ _ => 0)) (fun _ _ => 0) C op sn tl n la, (K + 8, kc + 8, ks + (la + 1) + (la + 1) + (la + 1) + (la + 1) + (la + 1) + (la + 1) + 128 * n + 128 * n))) := by
  obtain ⟨k1, k2, k3⟩ := id hk
  obtain ⟨_, k4, _⟩ := id hK
  have ho0 : o < 1000 := by omega
  have hk0 : k < 1000 := by omega
  have K0 : K < 1000 := by omega
  have K1 : K + 1 < 1000 := by omega
  have K2 : K + 2 < 1000 := by omega
  have K3 : K + 3 < 1000 := by omega
  have K4 : K + 4 < 1000 := by omega
  have K5 : K + 5 < 1000 := by omega
  have K6 : K + 6 < 1000 := by omega
  have g0 : ∀ A B C op sn tl n la, ordSet h o k len m A B C op sn tl n la k = zI 0 len (fun x => nI (A 0 x)) := fun A B C op sn tl n la => ord_A (i := 0) hk (by decide)
  have c1 : (nI la < nI len) = False := (nI_ult (by omega) (by omega)).trans (eq_false (by omega))
  have n0 : ∀ (H : Nat → zE) e, z_up H K e o = H o := fun H e => z_up_n _ _ (by omega)
  have n1 : ∀ (H : Nat → zE) i e, z_up H (K + i) e o = H o := fun H i e => z_up_n _ _ (by omega)
  have p1 : (nI (la + 1) < 0) = False := by simp only [nI_pos (show la + 1 < 2 ^ 31 by omega)]
  have p2 : (nI (la + 1)).toNatClampNeg = la + 1 := nI_clamp (by omega)
  have p3 : la + 1 ≤ 100000 := by omega
  have r0 : nI n * 128 = nI (128 * n) := by rw [Int32.mul_comm]; exact pk_mul 128 n
  have r1 : (nI (128 * n) < 0) = False := by simp only [nI_pos (show 128 * n < 2 ^ 31 by omega)]
  have r2 : (nI (128 * n)).toNatClampNeg = 128 * n := nI_clamp (by omega)
  have r3 : 128 * n ≤ 100000 := by omega
  have ch : ∀ s, s = ordSet (ordSet h o k len m A B C op sn tl n la) o K (la + 1) (128 * n) (a2 (fun _ => 0) (fun _ => 0) (fun _ _ => 0)) (fun _ _ => 0) C op sn tl n la → zW 0 MX4_makeRoom 115 ([.ref o, .int (nI 0), .null, .null, .null, .null, .null], [], (s, (K + 8, kc + 8, ks + (la + 1) + (la + 1) + (la + 1) + (la + 1) + (la + 1) + (la + 1) + 128 * n + 128 * n))) (fun z => z = (none, (ordSet (ordSet h o k len m A B C op sn tl n la) o K (la + 1) (128 * n) (a2 (mkO (fun _ => 0, fun _ => 0) n).1 (mkO (fun _ => 0, fun _ => 0) n).2 (fun _ _ => 0)) (fun _ _ => 0) C op sn tl n la, (K + 8, kc + 8, ks + (la + 1) + (la + 1) + (la + 1) + (la + 1) + (la + 1) + (la + 1) + 128 * n + 128 * n)))) := by
    intro s hs
    subst hs
    exact (w_mkO (q := (fun _ => 0, fun _ => 0)) hK hn (by omega) (by omega) (fun _ => (by decide : 0 < 128)) (fun _ => (by decide : 0 < 128)) n 0 _ _ _ _ _ (by omega) (by omega)).mpr rfl
  refine zK_of (k := 1) (by omega) ?_
  refine zK_in (M := MX4_makeRoom) rfl (Nat.le_of_ble_eq_true rfl) ?_
  show zW 0 MX4_makeRoom 0 ([.ref o, .null, .null, .null, .null, .null, .null], [], (ordSet h o k len m A B C op sn tl n la, (K, kc, ks))) _
  simp only [eX4_makeRoom_0, eX4_makeRoom_1, eX4_makeRoom_4, eX4_makeRoom_5, eX4_makeRoom_6, eX4_makeRoom_9, eX4_makeRoom_12, eX4_makeRoom_13, eX4_makeRoom_14, eX4_makeRoom_15, eX4_makeRoom_18, eX4_makeRoom_19, eX4_makeRoom_20, eX4_makeRoom_22, eX4_makeRoom_25, eX4_makeRoom_26, eX4_makeRoom_27, eX4_makeRoom_30, eX4_makeRoom_31, eX4_makeRoom_32, eX4_makeRoom_34, eX4_makeRoom_37, eX4_makeRoom_38, eX4_makeRoom_39, eX4_makeRoom_42, eX4_makeRoom_43, eX4_makeRoom_44, eX4_makeRoom_46, eX4_makeRoom_49, eX4_makeRoom_50, eX4_makeRoom_51, eX4_makeRoom_54, eX4_makeRoom_55, eX4_makeRoom_56, eX4_makeRoom_58, eX4_makeRoom_61, eX4_makeRoom_62, eX4_makeRoom_63, eX4_makeRoom_66, eX4_makeRoom_67, eX4_makeRoom_68, eX4_makeRoom_70, eX4_makeRoom_73, eX4_makeRoom_74, eX4_makeRoom_75, eX4_makeRoom_78, eX4_makeRoom_79, eX4_makeRoom_80, eX4_makeRoom_82, eX4_makeRoom_85, eX4_makeRoom_86, eX4_makeRoom_87, eX4_makeRoom_90, eX4_makeRoom_93, eX4_makeRoom_94, eX4_makeRoom_96, eX4_makeRoom_99, eX4_makeRoom_100, eX4_makeRoom_101, eX4_makeRoom_104, eX4_makeRoom_107, eX4_makeRoom_108, eX4_makeRoom_110, eX4_makeRoom_113, eX4_makeRoom_114, eX4_makeRoom_116, eX4_makeRoom_117, eX4_makeRoom_120, eX4_makeRoom_123, eX4_makeRoom_126, eX4_makeRoom_127, eX4_makeRoom_128, eX4_makeRoom_129, eX4_makeRoom_130, eX4_makeRoom_131, eX4_makeRoom_132, eX4_makeRoom_133, eX4_makeRoom_134, eX4_makeRoom_136, eX4_makeRoom_138, eX4_makeRoom_139, eX4_makeRoom_140, eX4_makeRoom_141, eX4_makeRoom_144, eX4_makeRoom_146, eX4_makeRoom_147, eX4_makeRoom_148, eX4_makeRoom_150, eX4_makeRoom_152, eX4_makeRoom_153, eX4_makeRoom_154, eX4_makeRoom_155, eX4_makeRoom_158, eX4_makeRoom_159, eX4_makeRoom_162, eX4_makeRoom_163, eX4_makeRoom_165, eX4_makeRoom_166, eX4_makeRoom_169, eX4_makeRoom_171, eX4_makeRoom_173, eX4_makeRoom_176, eX4_makeRoom_177, eX4_makeRoom_180, eX4_makeRoom_182, eX4_makeRoom_183, eX4_makeRoom_184, eX4_makeRoom_185, eX4_makeRoom_186, eX4_makeRoom_187, eX4_makeRoom_190, eX4_makeRoom_191, eX4_makeRoom_194, eX4_makeRoom_196, eX4_makeRoom_197, eX4_makeRoom_198, eX4_makeRoom_199, eX4_makeRoom_200, eX4_makeRoom_201, eX4_makeRoom_204, eX4_makeRoom_206, eX4_makeRoom_208, eX4_makeRoom_211, eX4_makeRoom_212, eX4_makeRoom_215, eX4_makeRoom_217, eX4_makeRoom_218, eX4_makeRoom_219, eX4_makeRoom_220, eX4_makeRoom_223, eX4_makeRoom_224, eX4_makeRoom_227, eX4_makeRoom_229, eX4_makeRoom_230, eX4_makeRoom_231, eX4_makeRoom_234, eX4_makeRoom_237, eX4_makeRoom_240, eX4_makeRoom_243, rX4_makeRoom, zg_aload, zg_arraylength, zg_getfield, zg_getstatic, zg_goto, zg_iadd, zg_iaload, zg_iand, zg_iastore, zg_icmp, zg_iconst, zg_if, zg_iinc, zg_iload, zg_imul, zg_ior, zg_ishl, zg_istore, zg_isub, zg_ixor, zg_newarray, zg_putfield, zg_return, zg_sipush, q10, q01, q00, ite_self, zLd_i, zLd_l, zLd_a, zInc_i, zGet_o, zGet2_s, zPut_o, zAld_i, zAll_j, zAst_i, zAsl_j, zLen_i, zLen_j, zRt_i, zRt_z, zRl2_l, zRv_n, List.getElem?_cons_zero, List.getElem?_cons_succ, List.length_cons, List.length_nil, z_set, z_set2, z_cut, List.set_cons_zero, List.set_cons_succ, Option.toList_some, Option.toList_none, List.cons_append, List.nil_append, zif, zW_ite, zfit_0, zfit_1, zfit_2, zfit_3, zisc_o, zRt_c, zRt_b, List.map_cons, List.map_nil, List.sum_cons, List.sum_nil, true_and, and_true, if_true, if_false, ite_true, ite_false, Nat.reduceLT, Nat.reduceLeDiff, Nat.reduceAdd, Nat.reduceEqDiff, eq_self, not_true_eq_false, not_false_eq_true, Nat.lt_irrefl, or_true, true_or, or_false, false_or, z_cell_lt, Value.category, ord_0, g0, ho0, hk0, c1, nI_1, p1, p2, p3, r0, r1, r2, r3, n0, n1, z_up_s, K0, K1, K2, K3, K4, K5, K6, k4, show ∀ N, z_a0 0 N = zI 0 N (fun _ => 0) from fun _ => rfl, show ∀ N, z_a0 1 N = zJ N (fun _ => 0) from fun _ => rfl, show K + 1 + 1 = K + 2 from rfl, show K + 2 + 1 = K + 3 from rfl, show K + 3 + 1 = K + 4 from rfl, show K + 4 + 1 = K + 5 from rfl, show K + 5 + 1 = K + 6 from rfl, show K + 6 + 1 = K + 7 from rfl]
  refine ch _ ?_
  rw [ch16]
  apply ord_of hK
  · rw [if_pos rfl]
  · intro i hi
    rcases (show i = 0 ∨ i = 1 ∨ i = 2 by omega) with rfl | rfl | rfl
    · simp only [Nat.add_zero]
      rw [if_neg (by omega), if_neg (by omega), if_neg (by omega), if_neg (by omega), if_neg (by omega), if_neg (by omega), if_neg (by omega), if_neg (by omega), if_pos trivial]
      rfl
    · rw [if_neg (by omega), if_neg (by omega), if_neg (by omega), if_neg (by omega), if_neg (by omega), if_neg (by omega), if_neg (by omega), if_pos rfl]
      rfl
    · rw [if_neg (by omega), if_neg (by omega), if_neg (by omega), if_neg (by omega), if_neg (by omega), if_neg (by omega), if_pos rfl]
      rfl
  · intro i hi
    rcases (show i = 0 ∨ i = 1 ∨ i = 2 by omega) with rfl | rfl | rfl
    · rw [if_neg (by omega), if_neg (by omega), if_neg (by omega), if_neg (by omega), if_neg (by omega), if_pos rfl]
    · rw [if_neg (by omega), if_neg (by omega), if_neg (by omega), if_neg (by omega), if_pos rfl]
    · rw [if_neg (by omega), if_neg (by omega), if_neg (by omega), if_pos rfl]
  · intro i hi
    rcases (show i = 0 ∨ i = 1 by omega) with rfl | rfl
    · rw [if_neg (by omega), if_neg (by omega), if_pos rfl]
    · rw [if_neg (by omega), if_pos rfl]
  · intro i hi
    rw [if_neg (by omega), if_neg (by omega), if_neg (by omega), if_neg (by omega), if_neg (by omega), if_neg (by omega), if_neg (by omega), if_neg (by omega), if_neg (by omega), ord_C hk hi]
  · rw [if_neg (by omega), if_neg (by omega), if_neg (by omega), if_neg (by omega), if_neg (by omega), if_neg (by omega), if_neg (by omega), if_neg (by omega), if_neg (by omega), ord_op hk]
  · intro j q0 q1 q2
    rw [if_neg q0, if_neg (by omega), if_neg (by omega), if_neg (by omega), if_neg (by omega), if_neg (by omega), if_neg (by omega), if_neg (by omega), if_neg (by omega)]
end ROOM2

