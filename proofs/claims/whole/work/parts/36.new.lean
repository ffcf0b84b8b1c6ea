/-! what the other new objects are -/
section NEW
variable {h h' : Nat → zE} {b : Nat} {d kc ks : Nat} {Q : zR → Prop}
theorem z_out2 {H : Nat → zE} {j x1 x2 : Nat} {e1 e2 : zE} (h1 : j ≠ x1) (h2 : j ≠ x2) : z_up (z_up H x1 e1) x2 e2 j = H j := by
  rw [z_up_n _ _ h2, z_up_n _ _ h1]
theorem c_textNew (hb : b + 1 < 1000) (h0 : h b = zO 8 [.null, .int 0]) : zK (d + 1) 93 [.ref b] (h, (b + 1, kc, ks)) Q = Q (none, (textSet h b 0 (fun _ => 0), (b + 2, kc + 1, ks + 80))) := by
  have hb0 : b < 1000 := by omega
  have n1 : ∀ (H : Nat → zE) e, z_up H (b + 1) e b = H b := fun H e => z_up_n _ _ (by omega)
  refine zK_of (k := 1) (by omega) ?_
  refine zK_in (M := MX8_init) rfl (Nat.le_of_ble_eq_true rfl) ?_
  show zW 0 MX8_init 0 ([.ref b], [], (h, (b + 1, kc, ks))) _
  simp only [eX8_init_0, eX8_init_1, eX8_init_4, eX8_init_5, eX8_init_7, eX8_init_9, eX8_init_12, rX8_init, zg_aload, zg_bipush, zg_newarray, zg_obj, zg_putfield, zg_return, q10, q01, q00, ite_self, zLd_i, zLd_l, zLd_a, zInc_i, zGet_o, zGet2_s, zPut_o, zAld_i, zAll_j, zAst_i, zAsl_j, zLen_i, zLen_j, zRt_i, zRt_z, zRl2_l, zRv_n, List.getElem?_cons_zero, List.getElem?_cons_succ, List.length_cons, List.length_nil, z_set, z_set2, z_cut, List.set_cons_zero, List.set_cons_succ, Option.toList_some, Option.toList_none, List.cons_append, List.nil_append, zif, zW_ite, zfit_0, zfit_1, zfit_2, zfit_3, zisc_o, zRt_c, zRt_b, List.map_cons, List.map_nil, List.sum_cons, List.sum_nil, true_and, and_true, if_true, if_false, ite_true, ite_false, Nat.reduceLT, Nat.reduceLeDiff, Nat.reduceAdd, Nat.reduceEqDiff, eq_self, not_true_eq_false, not_false_eq_true, Nat.lt_irrefl, or_true, true_or, or_false, false_or, z_cell_lt, Value.category, h0, hb, hb0, n1, z_up_s, show (80 : Int32).toNatClampNeg = 80 from by decide, show ((80 : Int32) < 0) = False from by decide, show z_a0 3 80 = zI 3 80 (fun _ => 0) from rfl, show b + 1 + 1 = b + 2 from rfl]
  refine congr (congrArg Prod.mk rfl) (congr (congrArg Prod.mk ?_) rfl)
  apply textSet_of
  · intro j hj; exact z_out2 (by omega) (by omega)
  · rw [z_up_s]; rfl
  · simp [z_up]; rfl
theorem c_rowNew (hb : b + 1 < 1000) (h0 : h b = zO 6 [.null, .int 0]) : zK (d + 1) 77 [.ref b] (h, (b + 1, kc, ks)) Q = Q (none, (rowSet h b 0 (fun _ => 0), (b + 2, kc + 1, ks + 14))) := by
  have hb0 : b < 1000 := by omega
  have n1 : ∀ (H : Nat → zE) e, z_up H (b + 1) e b = H b := fun H e => z_up_n _ _ (by omega)
  refine zK_of (k := 1) (by omega) ?_
  refine zK_in (M := MX6_init) rfl (Nat.le_of_ble_eq_true rfl) ?_
  show zW 0 MX6_init 0 ([.ref b], [], (h, (b + 1, kc, ks))) _
  simp only [eX6_init_0, eX6_init_1, eX6_init_4, eX6_init_5, eX6_init_7, eX6_init_9, eX6_init_12, rX6_init, zg_aload, zg_bipush, zg_newarray, zg_obj, zg_putfield, zg_return, q10, q01, q00, ite_self, zLd_i, zLd_l, zLd_a, zInc_i, zGet_o, zGet2_s, zPut_o, zAld_i, zAll_j, zAst_i, zAsl_j, zLen_i, zLen_j, zRt_i, zRt_z, zRl2_l, zRv_n, List.getElem?_cons_zero, List.getElem?_cons_succ, List.length_cons, List.length_nil, z_set, z_set2, z_cut, List.set_cons_zero, List.set_cons_succ, Option.toList_some, Option.toList_none, List.cons_append, List.nil_append, zif, zW_ite, zfit_0, zfit_1, zfit_2, zfit_3, zisc_o, zRt_c, zRt_b, List.map_cons, List.map_nil, List.sum_cons, List.sum_nil, true_and, and_true, if_true, if_false, ite_true, ite_false, Nat.reduceLT, Nat.reduceLeDiff, Nat.reduceAdd, Nat.reduceEqDiff, eq_self, not_true_eq_false, not_false_eq_true, Nat.lt_irrefl, or_true, true_or, or_false, false_or, z_cell_lt, Value.category, h0, hb, hb0, n1, z_up_s, show (14 : Int32).toNatClampNeg = 14 from by decide, show ((14 : Int32) < 0) = False from by decide, show z_a0 1 14 = zJ 14 (fun _ => 0) from rfl, show b + 1 + 1 = b + 2 from rfl]
  refine congr (congrArg Prod.mk rfl) (congr (congrArg Prod.mk ?_) rfl)
  apply rowSet_of
  · intro j hj; exact z_out2 (by omega) (by omega)
  · rw [z_up_s]; rfl
  · simp [z_up]
theorem c_pastNew (hb : b + 3 < 1000) (h0 : h b = zO 5 [.null, .null, .null, .int 0, .int 0]) : zK (d + 1) 68 [.ref b] (h, (b + 1, kc, ks)) Q = Q (none, (pastSet h b (fun _ => 0) (fun _ => 0) (fun _ => 0) 0 0, (b + 4, kc + 3, ks + 57))) := by
  have hb0 : b < 1000 := by omega
  have hb1 : b + 1 < 1000 := by omega
  have hb2 : b + 2 < 1000 := by omega
  have n1 : ∀ (H : Nat → zE) e, z_up H (b + 1) e b = H b := fun H e => z_up_n _ _ (by omega)
  have n2 : ∀ (H : Nat → zE) e, z_up H (b + 2) e b = H b := fun H e => z_up_n _ _ (by omega)
  have n3 : ∀ (H : Nat → zE) e, z_up H (b + 3) e b = H b := fun H e => z_up_n _ _ (by omega)
  refine zK_of (k := 1) (by omega) ?_
  refine zK_in (M := MX5_init) rfl (Nat.le_of_ble_eq_true rfl) ?_
  show zW 0 MX5_init 0 ([.ref b], [], (h, (b + 1, kc, ks))) _
  simp only [eX5_init_0, eX5_init_1, eX5_init_4, eX5_init_5, eX5_init_7, eX5_init_9, eX5_init_12, eX5_init_13, eX5_init_14, eX5_init_16, eX5_init_19, eX5_init_20, eX5_init_22, eX5_init_24, eX5_init_27, rX5_init, zg_aload, zg_bipush, zg_iconst, zg_newarray, zg_obj, zg_putfield, zg_return, q10, q01, q00, ite_self, zLd_i, zLd_l, zLd_a, zInc_i, zGet_o, zGet2_s, zPut_o, zAld_i, zAll_j, zAst_i, zAsl_j, zLen_i, zLen_j, zRt_i, zRt_z, zRl2_l, zRv_n, List.getElem?_cons_zero, List.getElem?_cons_succ, List.length_cons, List.length_nil, z_set, z_set2, z_cut, List.set_cons_zero, List.set_cons_succ, Option.toList_some, Option.toList_none, List.cons_append, List.nil_append, zif, zW_ite, zfit_0, zfit_1, zfit_2, zfit_3, zisc_o, zRt_c, zRt_b, List.map_cons, List.map_nil, List.sum_cons, List.sum_nil, true_and, and_true, if_true, if_false, ite_true, ite_false, Nat.reduceLT, Nat.reduceLeDiff, Nat.reduceAdd, Nat.reduceEqDiff, eq_self, not_true_eq_false, not_false_eq_true, Nat.lt_irrefl, or_true, true_or, or_false, false_or, z_cell_lt, Value.category, h0, hb, hb0, hb1, hb2, n1, n2, n3, z_up_s, show (45 : Int32).toNatClampNeg = 45 from by decide, show ((45 : Int32) < 0) = False from by decide, show z_a0 1 45 = zJ 45 (fun _ => 0) from rfl, show (3 : Int32).toNatClampNeg = 3 from by decide, show ((3 : Int32) < 0) = False from by decide, show z_a0 1 3 = zJ 3 (fun _ => 0) from rfl, show (9 : Int32).toNatClampNeg = 9 from by decide, show ((9 : Int32) < 0) = False from by decide, show z_a0 1 9 = zJ 9 (fun _ => 0) from rfl, show b + 1 + 1 = b + 2 from rfl, show b + 2 + 1 = b + 3 from rfl, show b + 3 + 1 = b + 4 from rfl]
  refine congr (congrArg Prod.mk rfl) (congr (congrArg Prod.mk ?_) rfl)
  apply pastSet_of
  · intro j hj; exact z_out6 (by omega) (by omega) (by omega) (by omega) (by omega) (by omega)
  · rw [z_up_s]; rfl
  · simp [z_up]
  · simp [z_up]
  · simp [z_up]
theorem c_fitsNew (hb : b + 3 < 1000) (h0 : h b = zO 2 [.null, .null, .null]) : zK (d + 1) 35 [.ref b] (h, (b + 1, kc, ks)) Q = Q (none, (fitsSet h b (fun _ => 0) (fun _ => 0) (fun _ => false), (b + 4, kc + 3, ks + 142))) := by
  have hb0 : b < 1000 := by omega
  have hb1 : b + 1 < 1000 := by omega
  have hb2 : b + 2 < 1000 := by omega
  have n1 : ∀ (H : Nat → zE) e, z_up H (b + 1) e b = H b := fun H e => z_up_n _ _ (by omega)
  have n2 : ∀ (H : Nat → zE) e, z_up H (b + 2) e b = H b := fun H e => z_up_n _ _ (by omega)
  have n3 : ∀ (H : Nat → zE) e, z_up H (b + 3) e b = H b := fun H e => z_up_n _ _ (by omega)
  refine zK_of (k := 1) (by omega) ?_
  refine zK_in (M := MX2_init) rfl (Nat.le_of_ble_eq_true rfl) ?_
  show zW 0 MX2_init 0 ([.ref b], [], (h, (b + 1, kc, ks))) _
  simp only [eX2_init_0, eX2_init_1, eX2_init_4, eX2_init_5, eX2_init_7, eX2_init_9, eX2_init_12, eX2_init_13, eX2_init_15, eX2_init_17, eX2_init_20, eX2_init_21, eX2_init_24, eX2_init_26, eX2_init_29, rX2_init, zg_aload, zg_bipush, zg_newarray, zg_obj, zg_putfield, zg_return, zg_sipush, q10, q01, q00, ite_self, zLd_i, zLd_l, zLd_a, zInc_i, zGet_o, zGet2_s, zPut_o, zAld_i, zAll_j, zAst_i, zAsl_j, zLen_i, zLen_j, zRt_i, zRt_z, zRl2_l, zRv_n, List.getElem?_cons_zero, List.getElem?_cons_succ, List.length_cons, List.length_nil, z_set, z_set2, z_cut, List.set_cons_zero, List.set_cons_succ, Option.toList_some, Option.toList_none, List.cons_append, List.nil_append, zif, zW_ite, zfit_0, zfit_1, zfit_2, zfit_3, zisc_o, zRt_c, zRt_b, List.map_cons, List.map_nil, List.sum_cons, List.sum_nil, true_and, and_true, if_true, if_false, ite_true, ite_false, Nat.reduceLT, Nat.reduceLeDiff, Nat.reduceAdd, Nat.reduceEqDiff, eq_self, not_true_eq_false, not_false_eq_true, Nat.lt_irrefl, or_true, true_or, or_false, false_or, z_cell_lt, Value.category, h0, hb, hb0, hb1, hb2, n1, n2, n3, z_up_s, show (7 : Int32).toNatClampNeg = 7 from by decide, show ((7 : Int32) < 0) = False from by decide, show z_a0 0 7 = zI 0 7 (fun _ => 0) from rfl, show (128 : Int32).toNatClampNeg = 128 from by decide, show ((128 : Int32) < 0) = False from by decide, show z_a0 2 128 = zI 2 128 (fun _ => 0) from rfl, show b + 1 + 1 = b + 2 from rfl, show b + 2 + 1 = b + 3 from rfl, show b + 3 + 1 = b + 4 from rfl]
  refine congr (congrArg Prod.mk rfl) (congr (congrArg Prod.mk ?_) rfl)
  apply fitsSet_of
  · intro j hj; exact z_out6 (by omega) (by omega) (by omega) (by omega) (by omega) (by omega)
  · rw [z_up_s]
  · simp [z_up]; rfl
  · simp [z_up]; rfl
  · simp [z_up]; rfl
theorem c_ruleNew (hb : b + 3 < 1000) (h0 : h b = zO 7 [.null, .null, .null, .int 0, .int 0, .int 0]) : zK (d + 1) 82 [.ref b] (h, (b + 1, kc, ks)) Q = Q (none, (ruleSet h b (upd (fun _ => 0) 0 1003) (fun _ => 0) (fun _ => 0) 1 0 0, (b + 4, kc + 3, ks + 120))) := by
  have hb0 : b < 1000 := by omega
  have hb1 : b + 1 < 1000 := by omega
  have hb2 : b + 2 < 1000 := by omega
  have n1 : ∀ (H : Nat → zE) e, z_up H (b + 1) e b = H b := fun H e => z_up_n _ _ (by omega)
  have n2 : ∀ (H : Nat → zE) e, z_up H (b + 2) e b = H b := fun H e => z_up_n _ _ (by omega)
  have n3 : ∀ (H : Nat → zE) e, z_up H (b + 3) e b = H b := fun H e => z_up_n _ _ (by omega)
  have m1 : ∀ (H : Nat → zE) e, z_up H b e (b + 1) = H (b + 1) := fun H e => z_up_n _ _ (by omega)
  have m2 : ∀ (H : Nat → zE) e, z_up H (b + 2) e (b + 1) = H (b + 1) := fun H e => z_up_n _ _ (by omega)
  have m3 : ∀ (H : Nat → zE) e, z_up H (b + 3) e (b + 1) = H (b + 1) := fun H e => z_up_n _ _ (by omega)
  have i1 : vp_in (0 : Int32) 40 := vp_in_nI (n := 0) (by decide) (by decide)
  refine zK_of (k := 1) (by omega) ?_
  refine zK_in (M := MX7_init) rfl (Nat.le_of_ble_eq_true rfl) ?_
  show zW 0 MX7_init 0 ([.ref b], [], (h, (b + 1, kc, ks))) _
  simp only [eX7_init_0, eX7_init_1, eX7_init_4, eX7_init_5, eX7_init_7, eX7_init_9, eX7_init_12, eX7_init_13, eX7_init_15, eX7_init_17, eX7_init_20, eX7_init_21, eX7_init_23, eX7_init_25, eX7_init_28, eX7_init_29, eX7_init_32, eX7_init_33, eX7_init_36, eX7_init_37, eX7_init_38, eX7_init_39, eX7_init_42, rX7_init, zg_aload, zg_bipush, zg_getfield, zg_iastore, zg_iconst, zg_newarray, zg_obj, zg_putfield, zg_return, zg_sipush, q10, q01, q00, ite_self, zLd_i, zLd_l, zLd_a, zInc_i, zGet_o, zGet2_s, zPut_o, zAld_i, zAll_j, zAst_i, zAsl_j, zLen_i, zLen_j, zRt_i, zRt_z, zRl2_l, zRv_n, List.getElem?_cons_zero, List.getElem?_cons_succ, List.length_cons, List.length_nil, z_set, z_set2, z_cut, List.set_cons_zero, List.set_cons_succ, Option.toList_some, Option.toList_none, List.cons_append, List.nil_append, zif, zW_ite, zfit_0, zfit_1, zfit_2, zfit_3, zisc_o, zRt_c, zRt_b, List.map_cons, List.map_nil, List.sum_cons, List.sum_nil, true_and, and_true, if_true, if_false, ite_true, ite_false, Nat.reduceLT, Nat.reduceLeDiff, Nat.reduceAdd, Nat.reduceEqDiff, eq_self, not_true_eq_false, not_false_eq_true, Nat.lt_irrefl, or_true, true_or, or_false, false_or, z_cell_lt, Value.category, h0, hb, hb0, hb1, hb2, n1, n2, n3, m1, m2, m3, i1, z_up_s, show (0 : Int32).toNatClampNeg = 0 from by decide, show (40 : Int32).toNatClampNeg = 40 from by decide, show ((40 : Int32) < 0) = False from by decide, show z_a0 0 40 = zI 0 40 (fun _ => 0) from rfl, show b + 1 + 1 = b + 2 from rfl, show b + 2 + 1 = b + 3 from rfl, show b + 3 + 1 = b + 4 from rfl]
  refine congr (congrArg Prod.mk rfl) (congr (congrArg Prod.mk ?_) rfl)
  apply ruleSet_of
  · intro j hj
    rw [z_up_n _ _ (by omega), z_up_n _ _ (by omega)]
    exact z_out6 (by omega) (by omega) (by omega) (by omega) (by omega) (by omega)
  · rw [z_up_s]; rfl
  · simp [z_up]
  · simp [z_up]
  · simp [z_up]; rfl
end NEW

