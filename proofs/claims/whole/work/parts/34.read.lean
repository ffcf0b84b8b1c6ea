/-! a rule is read from the text -/
section READ
variable {h H : Nat → zE} {r t len sz sz' sp sp' p p' : Nat} {c sg sg' : Nat → Nat} {cd cd' st st' : Nat → Int32} {d : Nat} {u : zU} {D : Nat}
theorem rs_3 : ruleSet h r cd st sg sz sp p (r + 3) = zI 0 40 (fun i => nI (sg i)) := by simp [ruleSet]
theorem rs_up0 : z_up (ruleSet h r cd st sg sz sp p) r (zO 7 [.ref (r + 1), .ref (r + 2), .ref (r + 3), .int (nI sz'), .int (nI sp'), .int (nI p')]) = ruleSet h r cd st sg sz' sp' p' := by
  apply ruleSet_of
  · intro j hj; rw [z_up_n _ _ (by omega), ruleSet_out hj]
  · rw [z_up_s]
  · rw [z_up_n _ _ (by omega)]; simp [ruleSet]
  · rw [z_up_n _ _ (by omega)]; simp [ruleSet]
  · rw [z_up_n _ _ (by omega)]; simp [ruleSet]
theorem rs_up3 : z_up (ruleSet h r cd st sg sz sp p) (r + 3) (zI 0 40 (fun i => nI (sg' i))) = ruleSet h r cd st sg' sz sp p := by
  apply ruleSet_of
  · intro j hj; rw [z_up_n _ _ (by omega), ruleSet_out hj]
  · rw [z_up_n _ _ (by omega)]; simp [ruleSet]
  · rw [z_up_n _ _ (by omega)]; simp [ruleSet]
  · rw [z_up_n _ _ (by omega)]; simp [ruleSet]
  · rw [z_up_s]
theorem w_rd2 (hr : r + 3 < 1000) (hs : sp ≤ 40) (hd : t + 1 < r ∨ r + 3 < t) (hl : sp ≤ len) (hX : textAt h t len c) {Q : zR → Prop} : ∀ k o, sp - o = k → o ≤ sp → zW (D + 1) MX7_read 17 ([.ref r, .ref t, .int (nI len), .int (nI o)], [], (ruleSet h r cd st (pre c sg o) sz sp p, u)) Q = zW (D + 1) MX7_read 42 ([.ref r, .ref t, .int (nI len), .int (nI sp)], [], (ruleSet h r cd st (pre c sg sp) sz sp p, u)) Q := by
  obtain ⟨t1, t2, t3, t4, t5⟩ := id hX
  have hr0 : r < 1000 := by omega
  have hr3 : r + 3 < 1000 := by omega
  have ht0 : t < 1000 := by omega
  intro k
  induction k with
  | zero =>
    intro o ho hle
    have e : o = sp := by omega
    subst e
    rw [eX7_read_17]
    simp only [eX7_read_0, eX7_read_1, eX7_read_4, eX7_read_5, eX7_read_6, eX7_read_7, eX7_read_9, eX7_read_12, eX7_read_15, eX7_read_16, eX7_read_18, eX7_read_19, eX7_read_22, eX7_read_25, eX7_read_26, eX7_read_29, eX7_read_30, eX7_read_31, eX7_read_32, eX7_read_35, eX7_read_36, eX7_read_39, eX7_read_43, eX7_read_46, eX7_read_47, eX7_read_48, eX7_read_51, eX7_read_52, eX7_read_53, eX7_read_56, eX7_read_57, eX7_read_60, eX7_read_61, eX7_read_64, eX7_read_67, eX7_read_68, eX7_read_69, eX7_read_70, eX7_read_71, eX7_read_72, eX7_read_75, eX7_read_78, eX7_read_79, eX7_read_82, eX7_read_83, eX7_read_86, eX7_read_89, eX7_read_90, eX7_read_93, eX7_read_94, eX7_read_95, eX7_read_96, eX7_read_99, eX7_read_100, eX7_read_102, eX7_read_105, eX7_read_106, eX7_read_109, eX7_read_110, eX7_read_113, rX7_read, zg_aload, zg_bipush, zg_getfield, zg_goto, zg_iastore, zg_icmp, zg_iconst, zg_if, zg_iinc, zg_iload, zg_ireturn, zg_istore, zg_iv0, zg_iv1, zg_iv2, zg_mn, zg_putfield, zg_sipush, q10, q01, q00, ite_self, zLd_i, zLd_l, zLd_a, zInc_i, zGet_o, zGet2_s, zPut_o, zAld_i, zAll_j, zAst_i, zAsl_j, zLen_i, zLen_j, zRt_i, zRt_z, zRl2_l, zRv_n, List.getElem?_cons_zero, List.getElem?_cons_succ, List.length_cons, List.length_nil, z_set, z_set2, z_cut, List.set_cons_zero, List.set_cons_succ, Option.toList_some, Option.toList_none, List.cons_append, List.nil_append, zif, zW_ite, zfit_0, zfit_1, zfit_2, zfit_3, zisc_o, zRt_c, zRt_b, List.map_cons, List.map_nil, List.sum_cons, List.sum_nil, true_and, and_true, if_true, if_false, ite_true, ite_false, Nat.reduceLT, Nat.reduceLeDiff, Nat.reduceAdd, Nat.reduceEqDiff, eq_self, not_true_eq_false, not_false_eq_true, Nat.lt_irrefl, or_true, true_or, or_false, false_or, z_cell_lt, Value.category, rs_0, hr0, Int32.lt_irrefl]
  | succ k ih =>
    intro o ho hle
    have c1 : nI o < nI sp := nI_lt (show o < sp by omega) (by omega)
    have i1 : vp_in (nI o) 40 := vp_in_nI (show o < 40 by omega) (by decide)
    have i2 : (nI o).toNatClampNeg = o := nI_clamp (by omega)
    have e1 : atV len c o = nI (c o) := if_pos (by omega)
    have hX1 := textAt_rs (cd := cd) (st := st) (sg := pre c sg o) (sz := sz) (sp := sp) (p := p) hd hX
    have t6 := hX1.2.2.2.1
    have ih := ih (o + 1) (by omega) (by omega)
    rw [eX7_read_17]
    simp only [eX7_read_0, eX7_read_1, eX7_read_4, eX7_read_5, eX7_read_6, eX7_read_7, eX7_read_9, eX7_read_12, eX7_read_15, eX7_read_16, eX7_read_18, eX7_read_19, eX7_read_22, eX7_read_25, eX7_read_26, eX7_read_29, eX7_read_30, eX7_read_31, eX7_read_32, eX7_read_35, eX7_read_36, eX7_read_39, eX7_read_43, eX7_read_46, eX7_read_47, eX7_read_48, eX7_read_51, eX7_read_52, eX7_read_53, eX7_read_56, eX7_read_57, eX7_read_60, eX7_read_61, eX7_read_64, eX7_read_67, eX7_read_68, eX7_read_69, eX7_read_70, eX7_read_71, eX7_read_72, eX7_read_75, eX7_read_78, eX7_read_79, eX7_read_82, eX7_read_83, eX7_read_86, eX7_read_89, eX7_read_90, eX7_read_93, eX7_read_94, eX7_read_95, eX7_read_96, eX7_read_99, eX7_read_100, eX7_read_102, eX7_read_105, eX7_read_106, eX7_read_109, eX7_read_110, eX7_read_113, rX7_read, zg_aload, zg_bipush, zg_getfield, zg_goto, zg_iastore, zg_icmp, zg_iconst, zg_if, zg_iinc, zg_iload, zg_ireturn, zg_istore, zg_iv0, zg_iv1, zg_iv2, zg_mn, zg_putfield, zg_sipush, q10, q01, q00, ite_self, zLd_i, zLd_l, zLd_a, zInc_i, zGet_o, zGet2_s, zPut_o, zAld_i, zAll_j, zAst_i, zAsl_j, zLen_i, zLen_j, zRt_i, zRt_z, zRl2_l, zRv_n, List.getElem?_cons_zero, List.getElem?_cons_succ, List.length_cons, List.length_nil, z_set, z_set2, z_cut, List.set_cons_zero, List.set_cons_succ, Option.toList_some, Option.toList_none, List.cons_append, List.nil_append, zif, zW_ite, zfit_0, zfit_1, zfit_2, zfit_3, zisc_o, zRt_c, zRt_b, List.map_cons, List.map_nil, List.sum_cons, List.sum_nil, true_and, and_true, if_true, if_false, ite_true, ite_false, Nat.reduceLT, Nat.reduceLeDiff, Nat.reduceAdd, Nat.reduceEqDiff, eq_self, not_true_eq_false, not_false_eq_true, Nat.lt_irrefl, or_true, true_or, or_false, false_or, z_cell_lt, Value.category, rs_0, rs_3, t6, hr0, hr3, ht0, c1, i1, i2, c_at hX1 (show o < 1000 by omega), e1, q_upd, pre_up, rs_up3, nI_1]
    exact ih
theorem ts_rs (hd : t + 1 < r ∨ r + 3 < t) : textSet (ruleSet h r cd st sg sz sp p) t 0 c = ruleSet (textSet h t 0 c) r cd st sg sz sp p := by
  apply ruleSet_of
  · intro j hj
    by_cases q : j < t ∨ t + 1 < j
    · rw [textSet_out q, textSet_out q, ruleSet_out hj]
    · unfold textSet
      by_cases q1 : j = t
      · simp [q1]
      · have q2 : j = t + 1 := by omega
        simp [q2]
  · rw [textSet_out (by omega)]; simp [ruleSet]
  · rw [textSet_out (by omega)]; simp [ruleSet]
  · rw [textSet_out (by omega)]; simp [ruleSet]
  · rw [textSet_out (by omega)]; simp [ruleSet]
/-- what is read: whether it is a rule, where it stopped, the codes -/
def rdQ (len : Nat) (c sg : Nat → Nat) (cd : Nat → Int32) : Bool × pS := pTop (pre c sg (min len 40)) (min len 40) 4 (0, 0, cd)
def rdV (len : Nat) (c sg : Nat → Nat) (cd : Nat → Int32) : Int32 := if len = 0 then -1 else if (rdQ len c sg cd).1 = true ∧ (rdQ len c sg cd).2.1 = min len 40 ∧ len ≤ 40 then -1 else nI (rdQ len c sg cd).2.1
def rdS (len : Nat) (c sg : Nat → Nat) (cd : Nat → Int32) : pS := if len = 0 then (0, 1, upd cd 0 1003) else (rdQ len c sg cd).2
theorem c_read (hR : ruleAt h r cd st sg sz sp p) (hX : textAt h t len c) (hd : t + 1 < r ∨ r + 3 < t) {Q : zR → Prop} : zK (d + 51) 83 [.ref r, .ref t] (h, u) Q = Q (some (.int (rdV len c sg cd)), (ruleSet (textSet h t 0 c) r (rdS len c sg cd).2.2 st (pre c sg (min len 40)) (rdS len c sg cd).2.1 (min len 40) (rdS len c sg cd).1, u)) := by
  obtain ⟨hr, h0, h1, h2, h3, b1, b2, b3, b4⟩ := id hR
  obtain ⟨t1, t2, t3, t4, t5⟩ := id hX
  have hr0 : r < 1000 := by omega
  have ht0 : t < 1000 := by omega
  have e1 : (if (40 : Int32) < nI len then (40 : Int32) else nI len) = nI (min len 40) := q_min (m := 40) t2 (by decide)
  have k0 := rule_up0 hR (sz' := sz) (sp' := min len 40) (p' := p)
  have w := fun Q => w_rd2 (h := h) (cd := cd) (st := st) (sg := sg) (sz := sz) (p := p) (u := u) (D := 49) hr (show min len 40 ≤ 40 by omega) hd (show min len 40 ≤ len by omega) hX (Q := Q) (min len 40) 0 (by omega) (by omega)
  rw [pre_0] at w
  have hX1 := textAt_rs (cd := cd) (st := st) (sg := pre c sg (min len 40)) (sz := sz) (sp := min len 40) (p := p) hd hX
  have t6 := hX1.2.2.2.1
  have b5 : ∀ i, pre c sg (min len 40) i < 256 := by intro i; unfold pre; split; exact t3 i; exact b4 i
  have hR1 : ruleAt (ruleSet (textSet h t 0 c) r cd st (pre c sg (min len 40)) 0 (min len 40) 0) r cd st (pre c sg (min len 40)) 0 (min len 40) 0 := ruleSet_at hr (by omega) (by omega) (by omega) b5
  have c0 : (nI len = 0) = (len = 0) := nI_eqI (b := 0) (by omega) (by decide)
  have s0 : ∀ x y, zO 7 [.ref (r + 1), .ref (r + 2), .ref (r + 3), x, y, .int 0] = zO 7 [.ref (r + 1), .ref (r + 2), .ref (r + 3), x, y, .int (nI 0)] := fun _ _ => rfl
  have s1 : ∀ x y, zO 7 [.ref (r + 1), .ref (r + 2), .ref (r + 3), .int 0, x, y] = zO 7 [.ref (r + 1), .ref (r + 2), .ref (r + 3), .int (nI 0), x, y] := fun _ _ => rfl
  have k1 : z_up (ruleSet (textSet h t 0 c) r cd st (pre c sg (min len 40)) sz (min len 40) p) r (zO 7 [.ref (r + 1), .ref (r + 2), .ref (r + 3), .int (nI sz), .int (nI (min len 40)), .int 0]) = ruleSet (textSet h t 0 c) r cd st (pre c sg (min len 40)) sz (min len 40) 0 := rs_up0 (sz' := sz) (sp' := min len 40) (p' := 0)
  have k2 : z_up (ruleSet (textSet h t 0 c) r cd st (pre c sg (min len 40)) sz (min len 40) 0) r (zO 7 [.ref (r + 1), .ref (r + 2), .ref (r + 3), .int 0, .int (nI (min len 40)), .int (nI 0)]) = ruleSet (textSet h t 0 c) r cd st (pre c sg (min len 40)) 0 (min len 40) 0 := rs_up0 (sz' := 0) (sp' := min len 40) (p' := 0)
  obtain ⟨hg, hc⟩ := pTop_ok (r := r) (st := st) (sg := pre c sg (min len 40)) (sp := min len 40) (u := u) 4 (by decide)
  have hc := fun Q : zR → Prop => (show zK 50 86 [.ref r, .int 0, .int 0] (ruleSet (textSet h t 0 c) r cd st (pre c sg (min len 40)) 0 (min len 40) 0, u) Q = _ from pC_le (D' := 50) hc (by decide) _ (0, 0, cd) hR1 Q)
  have hg := hg (0, 0, cd) (by simp) (by simp)
  refine zK_of (k := 51) (by omega) ?_
  refine zK_in (M := MX7_read) rfl (Nat.le_of_ble_eq_true rfl) ?_
  show zW 50 MX7_read 0 ([.ref r, .ref t, .null, .null], [], (h, u)) _
  simp only [eX7_read_0, eX7_read_1, eX7_read_4, eX7_read_5, eX7_read_6, eX7_read_7, eX7_read_9, eX7_read_12, eX7_read_15, eX7_read_16, eX7_read_18, eX7_read_19, eX7_read_22, eX7_read_25, eX7_read_26, eX7_read_29, eX7_read_30, eX7_read_31, eX7_read_32, eX7_read_35, eX7_read_36, eX7_read_39, eX7_read_43, eX7_read_46, eX7_read_47, eX7_read_48, eX7_read_51, eX7_read_52, eX7_read_53, eX7_read_56, eX7_read_57, eX7_read_60, eX7_read_61, eX7_read_64, eX7_read_67, eX7_read_68, eX7_read_69, eX7_read_70, eX7_read_71, eX7_read_72, eX7_read_75, eX7_read_78, eX7_read_79, eX7_read_82, eX7_read_83, eX7_read_86, eX7_read_89, eX7_read_90, eX7_read_93, eX7_read_94, eX7_read_95, eX7_read_96, eX7_read_99, eX7_read_100, eX7_read_102, eX7_read_105, eX7_read_106, eX7_read_109, eX7_read_110, eX7_read_113, rX7_read, zg_aload, zg_bipush, zg_getfield, zg_goto, zg_iastore, zg_icmp, zg_iconst, zg_if, zg_iinc, zg_iload, zg_ireturn, zg_istore, zg_iv0, zg_iv1, zg_iv2, zg_mn, zg_putfield, zg_sipush, q10, q01, q00, ite_self, zLd_i, zLd_l, zLd_a, zInc_i, zGet_o, zGet2_s, zPut_o, zAld_i, zAll_j, zAst_i, zAsl_j, zLen_i, zLen_j, zRt_i, zRt_z, zRl2_l, zRv_n, List.getElem?_cons_zero, List.getElem?_cons_succ, List.length_cons, List.length_nil, z_set, z_set2, z_cut, List.set_cons_zero, List.set_cons_succ, Option.toList_some, Option.toList_none, List.cons_append, List.nil_append, zif, zW_ite, zfit_0, zfit_1, zfit_2, zfit_3, zisc_o, zRt_c, zRt_b, List.map_cons, List.map_nil, List.sum_cons, List.sum_nil, true_and, and_true, if_true, if_false, ite_true, ite_false, Nat.reduceLT, Nat.reduceLeDiff, Nat.reduceAdd, Nat.reduceEqDiff, eq_self, not_true_eq_false, not_false_eq_true, Nat.lt_irrefl, or_true, true_or, or_false, false_or, z_cell_lt, Value.category, h0, t4, hr0, ht0, zg_mn, e1, k0]
  refine (w _).mpr ?_
  unfold rdV rdS rdQ
  by_cases r1 : len = 0
  · rw [if_pos r1, if_pos r1]
    have c0 : (nI len = 0) = True := c0.trans (eq_true r1)
    simp only [eX7_read_0, eX7_read_1, eX7_read_4, eX7_read_5, eX7_read_6, eX7_read_7, eX7_read_9, eX7_read_12, eX7_read_15, eX7_read_16, eX7_read_18, eX7_read_19, eX7_read_22, eX7_read_25, eX7_read_26, eX7_read_29, eX7_read_30, eX7_read_31, eX7_read_32, eX7_read_35, eX7_read_36, eX7_read_39, eX7_read_42, eX7_read_43, eX7_read_46, eX7_read_47, eX7_read_48, eX7_read_51, eX7_read_52, eX7_read_53, eX7_read_56, eX7_read_57, eX7_read_60, eX7_read_61, eX7_read_64, eX7_read_67, eX7_read_68, eX7_read_69, eX7_read_70, eX7_read_71, eX7_read_72, eX7_read_75, eX7_read_78, eX7_read_79, eX7_read_82, eX7_read_83, eX7_read_86, eX7_read_89, eX7_read_90, eX7_read_93, eX7_read_94, eX7_read_95, eX7_read_96, eX7_read_99, eX7_read_100, eX7_read_102, eX7_read_105, eX7_read_106, eX7_read_109, eX7_read_110, eX7_read_113, rX7_read, zg_aload, zg_bipush, zg_getfield, zg_goto, zg_iastore, zg_icmp, zg_iconst, zg_if, zg_iinc, zg_iload, zg_ireturn, zg_istore, zg_iv0, zg_iv1, zg_iv2, zg_mn, zg_putfield, zg_sipush, q10, q01, q00, ite_self, zLd_i, zLd_l, zLd_a, zInc_i, zGet_o, zGet2_s, zPut_o, zAld_i, zAll_j, zAst_i, zAsl_j, zLen_i, zLen_j, zRt_i, zRt_z, zRl2_l, zRv_n, List.getElem?_cons_zero, List.getElem?_cons_succ, List.length_cons, List.length_nil, z_set, z_set2, z_cut, List.set_cons_zero, List.set_cons_succ, Option.toList_some, Option.toList_none, List.cons_append, List.nil_append, zif, zW_ite, zfit_0, zfit_1, zfit_2, zfit_3, zisc_o, zRt_c, zRt_b, List.map_cons, List.map_nil, List.sum_cons, List.sum_nil, true_and, and_true, if_true, if_false, ite_true, ite_false, Nat.reduceLT, Nat.reduceLeDiff, Nat.reduceAdd, Nat.reduceEqDiff, eq_self, not_true_eq_false, not_false_eq_true, Nat.lt_irrefl, or_true, true_or, or_false, false_or, z_cell_lt, Value.category, rs_0, hr0, ht0, t6, c_tclear hX1, ts_rs hd, k1, k2, c0, c_emit hR1, ruleSet_set]
    simp [emV]
  · rw [if_neg r1, if_neg r1]
    generalize pTop (pre c sg (min len 40)) (min len 40) 4 (0, 0, cd) = q at *
    obtain ⟨g, p1, sz1, cd1⟩ := q
    simp only [ruleSet_set] at hc hg ⊢
    have c2 : (nI p1 = nI (min len 40)) = (p1 = min len 40) := nI_eqI (by omega) (by omega)
    have c3 : ((40 : Int32) < nI len) = (40 < len) := nI_ult (a := 40) (by decide) (by omega)
    cases g
    · simp only [eX7_read_0, eX7_read_1, eX7_read_4, eX7_read_5, eX7_read_6, eX7_read_7, eX7_read_9, eX7_read_12, eX7_read_15, eX7_read_16, eX7_read_18, eX7_read_19, eX7_read_22, eX7_read_25, eX7_read_26, eX7_read_29, eX7_read_30, eX7_read_31, eX7_read_32, eX7_read_35, eX7_read_36, eX7_read_39, eX7_read_42, eX7_read_43, eX7_read_46, eX7_read_47, eX7_read_48, eX7_read_51, eX7_read_52, eX7_read_53, eX7_read_56, eX7_read_57, eX7_read_60, eX7_read_61, eX7_read_64, eX7_read_67, eX7_read_68, eX7_read_69, eX7_read_70, eX7_read_71, eX7_read_72, eX7_read_75, eX7_read_78, eX7_read_79, eX7_read_82, eX7_read_83, eX7_read_86, eX7_read_89, eX7_read_90, eX7_read_93, eX7_read_94, eX7_read_95, eX7_read_96, eX7_read_99, eX7_read_100, eX7_read_102, eX7_read_105, eX7_read_106, eX7_read_109, eX7_read_110, eX7_read_113, rX7_read, zg_aload, zg_bipush, zg_getfield, zg_goto, zg_iastore, zg_icmp, zg_iconst, zg_if, zg_iinc, zg_iload, zg_ireturn, zg_istore, zg_iv0, zg_iv1, zg_iv2, zg_mn, zg_putfield, zg_sipush, q10, q01, q00, ite_self, zLd_i, zLd_l, zLd_a, zInc_i, zGet_o, zGet2_s, zPut_o, zAld_i, zAll_j, zAst_i, zAsl_j, zLen_i, zLen_j, zRt_i, zRt_z, zRl2_l, zRv_n, List.getElem?_cons_zero, List.getElem?_cons_succ, List.length_cons, List.length_nil, z_set, z_set2, z_cut, List.set_cons_zero, List.set_cons_succ, Option.toList_some, Option.toList_none, List.cons_append, List.nil_append, zif, zW_ite, zfit_0, zfit_1, zfit_2, zfit_3, zisc_o, zRt_c, zRt_b, List.map_cons, List.map_nil, List.sum_cons, List.sum_nil, true_and, and_true, if_true, if_false, ite_true, ite_false, Nat.reduceLT, Nat.reduceLeDiff, Nat.reduceAdd, Nat.reduceEqDiff, eq_self, not_true_eq_false, not_false_eq_true, Nat.lt_irrefl, or_true, true_or, or_false, false_or, z_cell_lt, Value.category, rs_0, hr0, ht0, t6, c_tclear hX1, ts_rs hd, k1, k2, c0, r1, hc, b01_f, Bool.false_eq_true, false_and]
    · by_cases r2 : p1 = min len 40
      · by_cases r3 : 40 < len
        · simp only [eX7_read_0, eX7_read_1, eX7_read_4, eX7_read_5, eX7_read_6, eX7_read_7, eX7_read_9, eX7_read_12, eX7_read_15, eX7_read_16, eX7_read_18, eX7_read_19, eX7_read_22, eX7_read_25, eX7_read_26, eX7_read_29, eX7_read_30, eX7_read_31, eX7_read_32, eX7_read_35, eX7_read_36, eX7_read_39, eX7_read_42, eX7_read_43, eX7_read_46, eX7_read_47, eX7_read_48, eX7_read_51, eX7_read_52, eX7_read_53, eX7_read_56, eX7_read_57, eX7_read_60, eX7_read_61, eX7_read_64, eX7_read_67, eX7_read_68, eX7_read_69, eX7_read_70, eX7_read_71, eX7_read_72, eX7_read_75, eX7_read_78, eX7_read_79, eX7_read_82, eX7_read_83, eX7_read_86, eX7_read_89, eX7_read_90, eX7_read_93, eX7_read_94, eX7_read_95, eX7_read_96, eX7_read_99, eX7_read_100, eX7_read_102, eX7_read_105, eX7_read_106, eX7_read_109, eX7_read_110, eX7_read_113, rX7_read, zg_aload, zg_bipush, zg_getfield, zg_goto, zg_iastore, zg_icmp, zg_iconst, zg_if, zg_iinc, zg_iload, zg_ireturn, zg_istore, zg_iv0, zg_iv1, zg_iv2, zg_mn, zg_putfield, zg_sipush, q10, q01, q00, ite_self, zLd_i, zLd_l, zLd_a, zInc_i, zGet_o, zGet2_s, zPut_o, zAld_i, zAll_j, zAst_i, zAsl_j, zLen_i, zLen_j, zRt_i, zRt_z, zRl2_l, zRv_n, List.getElem?_cons_zero, List.getElem?_cons_succ, List.length_cons, List.length_nil, z_set, z_set2, z_cut, List.set_cons_zero, List.set_cons_succ, Option.toList_some, Option.toList_none, List.cons_append, List.nil_append, zif, zW_ite, zfit_0, zfit_1, zfit_2, zfit_3, zisc_o, zRt_c, zRt_b, List.map_cons, List.map_nil, List.sum_cons, List.sum_nil, true_and, and_true, if_true, if_false, ite_true, ite_false, Nat.reduceLT, Nat.reduceLeDiff, Nat.reduceAdd, Nat.reduceEqDiff, eq_self, not_true_eq_false, not_false_eq_true, Nat.lt_irrefl, or_true, true_or, or_false, false_or, z_cell_lt, Value.category, rs_0, hr0, ht0, t6, c_tclear hX1, ts_rs hd, k1, k2, c0, r1, hc, b01_t, c2, r2, c3, r3]
          simp [show ¬ len ≤ 40 by omega]
        · simp only [eX7_read_0, eX7_read_1, eX7_read_4, eX7_read_5, eX7_read_6, eX7_read_7, eX7_read_9, eX7_read_12, eX7_read_15, eX7_read_16, eX7_read_18, eX7_read_19, eX7_read_22, eX7_read_25, eX7_read_26, eX7_read_29, eX7_read_30, eX7_read_31, eX7_read_32, eX7_read_35, eX7_read_36, eX7_read_39, eX7_read_42, eX7_read_43, eX7_read_46, eX7_read_47, eX7_read_48, eX7_read_51, eX7_read_52, eX7_read_53, eX7_read_56, eX7_read_57, eX7_read_60, eX7_read_61, eX7_read_64, eX7_read_67, eX7_read_68, eX7_read_69, eX7_read_70, eX7_read_71, eX7_read_72, eX7_read_75, eX7_read_78, eX7_read_79, eX7_read_82, eX7_read_83, eX7_read_86, eX7_read_89, eX7_read_90, eX7_read_93, eX7_read_94, eX7_read_95, eX7_read_96, eX7_read_99, eX7_read_100, eX7_read_102, eX7_read_105, eX7_read_106, eX7_read_109, eX7_read_110, eX7_read_113, rX7_read, zg_aload, zg_bipush, zg_getfield, zg_goto, zg_iastore, zg_icmp, zg_iconst, zg_if, zg_iinc, zg_iload, zg_ireturn, zg_istore, zg_iv0, zg_iv1, zg_iv2, zg_mn, zg_putfield, zg_sipush, q10, q01, q00, ite_self, zLd_i, zLd_l, zLd_a, zInc_i, zGet_o, zGet2_s, zPut_o, zAld_i, zAll_j, zAst_i, zAsl_j, zLen_i, zLen_j, zRt_i, zRt_z, zRl2_l, zRv_n, List.getElem?_cons_zero, List.getElem?_cons_succ, List.length_cons, List.length_nil, z_set, z_set2, z_cut, List.set_cons_zero, List.set_cons_succ, Option.toList_some, Option.toList_none, List.cons_append, List.nil_append, zif, zW_ite, zfit_0, zfit_1, zfit_2, zfit_3, zisc_o, zRt_c, zRt_b, List.map_cons, List.map_nil, List.sum_cons, List.sum_nil, true_and, and_true, if_true, if_false, ite_true, ite_false, Nat.reduceLT, Nat.reduceLeDiff, Nat.reduceAdd, Nat.reduceEqDiff, eq_self, not_true_eq_false, not_false_eq_true, Nat.lt_irrefl, or_true, true_or, or_false, false_or, z_cell_lt, Value.category, rs_0, hr0, ht0, t6, c_tclear hX1, ts_rs hd, k1, k2, c0, r1, hc, b01_t, c2, r2, c3, r3]
          simp [show len ≤ 40 by omega]
      · simp only [eX7_read_0, eX7_read_1, eX7_read_4, eX7_read_5, eX7_read_6, eX7_read_7, eX7_read_9, eX7_read_12, eX7_read_15, eX7_read_16, eX7_read_18, eX7_read_19, eX7_read_22, eX7_read_25, eX7_read_26, eX7_read_29, eX7_read_30, eX7_read_31, eX7_read_32, eX7_read_35, eX7_read_36, eX7_read_39, eX7_read_42, eX7_read_43, eX7_read_46, eX7_read_47, eX7_read_48, eX7_read_51, eX7_read_52, eX7_read_53, eX7_read_56, eX7_read_57, eX7_read_60, eX7_read_61, eX7_read_64, eX7_read_67, eX7_read_68, eX7_read_69, eX7_read_70, eX7_read_71, eX7_read_72, eX7_read_75, eX7_read_78, eX7_read_79, eX7_read_82, eX7_read_83, eX7_read_86, eX7_read_89, eX7_read_90, eX7_read_93, eX7_read_94, eX7_read_95, eX7_read_96, eX7_read_99, eX7_read_100, eX7_read_102, eX7_read_105, eX7_read_106, eX7_read_109, eX7_read_110, eX7_read_113, rX7_read, zg_aload, zg_bipush, zg_getfield, zg_goto, zg_iastore, zg_icmp, zg_iconst, zg_if, zg_iinc, zg_iload, zg_ireturn, zg_istore, zg_iv0, zg_iv1, zg_iv2, zg_mn, zg_putfield, zg_sipush, q10, q01, q00, ite_self, zLd_i, zLd_l, zLd_a, zInc_i, zGet_o, zGet2_s, zPut_o, zAld_i, zAll_j, zAst_i, zAsl_j, zLen_i, zLen_j, zRt_i, zRt_z, zRl2_l, zRv_n, List.getElem?_cons_zero, List.getElem?_cons_succ, List.length_cons, List.length_nil, z_set, z_set2, z_cut, List.set_cons_zero, List.set_cons_succ, Option.toList_some, Option.toList_none, List.cons_append, List.nil_append, zif, zW_ite, zfit_0, zfit_1, zfit_2, zfit_3, zisc_o, zRt_c, zRt_b, List.map_cons, List.map_nil, List.sum_cons, List.sum_nil, true_and, and_true, if_true, if_false, ite_true, ite_false, Nat.reduceLT, Nat.reduceLeDiff, Nat.reduceAdd, Nat.reduceEqDiff, eq_self, not_true_eq_false, not_false_eq_true, Nat.lt_irrefl, or_true, true_or, or_false, false_or, z_cell_lt, Value.category, rs_0, hr0, ht0, t6, c_tclear hX1, ts_rs hd, k1, k2, c0, r1, hc, b01_t, c2, r2]
        simp
end READ

