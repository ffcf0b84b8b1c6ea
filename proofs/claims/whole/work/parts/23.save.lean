/-! saved, loaded; one guest more -/
def sv3 (F : Nat → Int64) (sl x y z : Nat) : Nat → Int64 := vp_updL (vp_updL (vp_updL F (3 * sl) (lN x)) (3 * sl + 1) (lN y)) (3 * sl + 2) (lN z)
theorem q_p2 (x : Nat) : nI x + 2 = nI (x + 2) := nI_add x 2
theorem q_sh1 (X : Nat) : lN X <<< ((1 : Int32).toInt64 &&& 63) = lN (X * 2) := wb_shl X (k := 1) (by decide)
theorem q_or1 (X : Nat) : lN (X * 2) ||| (1 : Int32).toInt64 = lN (2 * X + 1) := by
  rw [show (1 : Int32).toInt64 = lN 1 from rfl, Nat.mul_comm]
  exact fb_or_sumL (k := 1) X (by decide)
theorem q_or0 (X : Nat) : lN (X * 2) ||| (0 : Int32).toInt64 = lN (2 * X + 0) := by
  rw [show (0 : Int32).toInt64 = lN 0 from rfl, Nat.mul_comm]
  exact fb_or_sumL (k := 1) X (by decide)
section TOLD5
variable {h : Nat → zE} {a b n N : Nat} {rm mt nt rm' mt' nt' : Nat → Nat} {fm fm' : Bool} {vr : Int32} {d : Nat} {u : zU} {H : zH} {Q : zR → Prop} {F : Nat → Int64}
theorem c_save (hT : toldAt h b n rm mt nt fm vr) {sl : Nat} (hA : h a = zJ N F) (hsl : 3 * sl + 2 < N) (hN : N < 2 ^ 31) (ha : a < b ∨ b + 3 < a) (ha1 : a < 1000) : zK (d + 2) 127 [.ref b, .ref a, .int (nI sl)] (h, u) Q = Q (none, (z_up h a (zJ N (sv3 F sl (pk7 mt 7) (pk7 nt 7) (2 * pk7 rm 7 + fm.toNat))), u)) := by
  obtain ⟨hb, h0, h1, h2, h3, hn, hr, hm, ht⟩ := id hT
  have hb0 : b < 1000 := by omega
  have hb1 : b + 1 < 1000 := by omega
  have hb2 : b + 2 < 1000 := by omega
  have hb3 : b + 3 < 1000 := by omega
  have hr2 : ∀ i, rm i < 128 := fun i => by have := hr i; omega
  have n0 : ∀ e, z_up h a e b = h b := fun e => z_up_n h e (by omega)
  have n1 : ∀ e, z_up h a e (b + 1) = h (b + 1) := fun e => z_up_n h e (by omega)
  have n3 : ∀ e, z_up h a e (b + 3) = h (b + 3) := fun e => z_up_n h e (by omega)
  have p2 : ∀ (d : Nat) (u : zU) (Q : zR → Prop), zK (d + 1) 125 [.ref (b + 2)] (h, u) Q = Q (some (.long (lN (pk7 mt 7))), (h, u)) := fun d u Q => c_packed hb2 h2 hm
  have p3 : ∀ (e : zE) (d : Nat) (u : zU) (Q : zR → Prop), zK (d + 1) 125 [.ref (b + 3)] (z_up h a e, u) Q = Q (some (.long (lN (pk7 nt 7))), (z_up h a e, u)) := fun e d u Q => c_packed hb3 (by rw [n3]; exact h3) ht
  have p1 : ∀ (e : zE) (d : Nat) (u : zU) (Q : zR → Prop), zK (d + 1) 125 [.ref (b + 1)] (z_up h a e, u) Q = Q (some (.long (lN (pk7 rm 7))), (z_up h a e, u)) := fun e d u Q => c_packed hb1 (by rw [n1]; exact h1) hr2
  have i0 : vp_in (nI (3 * sl)) N := vp_in_nI (by omega) hN
  have i1 : vp_in (nI (3 * sl + 1)) N := vp_in_nI (by omega) hN
  have i2 : vp_in (nI (3 * sl + 2)) N := vp_in_nI (by omega) hN
  have j0 : (nI (3 * sl)).toNatClampNeg = 3 * sl := nI_clamp (by omega)
  have j1 : (nI (3 * sl + 1)).toNatClampNeg = 3 * sl + 1 := nI_clamp (by omega)
  have j2 : (nI (3 * sl + 2)).toNatClampNeg = 3 * sl + 2 := nI_clamp (by omega)
  refine zK_of (k := 2) (by omega) ?_
  refine zK_in (M := MX9_save) rfl (Nat.le_of_ble_eq_true rfl) ?_
  show zW 1 MX9_save 0 ([.ref b, .ref a, .int (nI sl)], [], (h, u)) _
  cases fm
  · simp only [Bool.false_eq_true, if_false] at h0
    simp only [eX9_save_0, eX9_save_1, eX9_save_2, eX9_save_3, eX9_save_4, eX9_save_5, eX9_save_8, eX9_save_11, eX9_save_12, eX9_save_13, eX9_save_14, eX9_save_15, eX9_save_16, eX9_save_17, eX9_save_18, eX9_save_19, eX9_save_22, eX9_save_25, eX9_save_26, eX9_save_27, eX9_save_28, eX9_save_29, eX9_save_30, eX9_save_31, eX9_save_32, eX9_save_33, eX9_save_36, eX9_save_39, eX9_save_40, eX9_save_41, eX9_save_42, eX9_save_45, eX9_save_48, eX9_save_49, eX9_save_52, eX9_save_53, eX9_save_54, eX9_save_55, eX9_save_56, rX9_save, zg_aload, zg_getfield, zg_goto, zg_i2l, zg_iadd, zg_iconst, zg_if, zg_iload, zg_imul, zg_is1, zg_lastore, zg_lor, zg_lshl, zg_return, q10, q01, q00, ite_self, zLd_i, zLd_l, zLd_a, zInc_i, zGet_o, zGet2_s, zPut_o, zAld_i, zAll_j, zAst_i, zAsl_j, zLen_i, zLen_j, zRt_i, zRt_z, zRl2_l, zRv_n, List.getElem?_cons_zero, List.getElem?_cons_succ, List.length_cons, List.length_nil, z_set, z_set2, z_cut, List.set_cons_zero, List.set_cons_succ, Option.toList_some, Option.toList_none, List.cons_append, List.nil_append, zif, zW_ite, zfit_0, zfit_1, zfit_2, zfit_3, zisc_o, zRt_c, zRt_b, List.map_cons, List.map_nil, List.sum_cons, List.sum_nil, true_and, and_true, if_true, if_false, ite_true, ite_false, Nat.reduceLT, Nat.reduceLeDiff, Nat.reduceAdd, Nat.reduceEqDiff, eq_self, not_true_eq_false, not_false_eq_true, Nat.lt_irrefl, or_true, true_or, or_false, false_or, z_cell_lt, Value.category, h0, hA, hb0, ha1, n0, p1, p2, p3, q_3k, nI_1, q_p2, i0, i1, i2, j0, j1, j2, z_up_s, z_up_up, q_sh1, q_or0]
    rfl
  · simp only [if_true] at h0
    simp only [eX9_save_0, eX9_save_1, eX9_save_2, eX9_save_3, eX9_save_4, eX9_save_5, eX9_save_8, eX9_save_11, eX9_save_12, eX9_save_13, eX9_save_14, eX9_save_15, eX9_save_16, eX9_save_17, eX9_save_18, eX9_save_19, eX9_save_22, eX9_save_25, eX9_save_26, eX9_save_27, eX9_save_28, eX9_save_29, eX9_save_30, eX9_save_31, eX9_save_32, eX9_save_33, eX9_save_36, eX9_save_39, eX9_save_40, eX9_save_41, eX9_save_42, eX9_save_45, eX9_save_48, eX9_save_49, eX9_save_52, eX9_save_53, eX9_save_54, eX9_save_55, eX9_save_56, rX9_save, zg_aload, zg_getfield, zg_goto, zg_i2l, zg_iadd, zg_iconst, zg_if, zg_iload, zg_imul, zg_is1, zg_lastore, zg_lor, zg_lshl, zg_return, q10, q01, q00, ite_self, zLd_i, zLd_l, zLd_a, zInc_i, zGet_o, zGet2_s, zPut_o, zAld_i, zAll_j, zAst_i, zAsl_j, zLen_i, zLen_j, zRt_i, zRt_z, zRl2_l, zRv_n, List.getElem?_cons_zero, List.getElem?_cons_succ, List.length_cons, List.length_nil, z_set, z_set2, z_cut, List.set_cons_zero, List.set_cons_succ, Option.toList_some, Option.toList_none, List.cons_append, List.nil_append, zif, zW_ite, zfit_0, zfit_1, zfit_2, zfit_3, zisc_o, zRt_c, zRt_b, List.map_cons, List.map_nil, List.sum_cons, List.sum_nil, true_and, and_true, if_true, if_false, ite_true, ite_false, Nat.reduceLT, Nat.reduceLeDiff, Nat.reduceAdd, Nat.reduceEqDiff, eq_self, not_true_eq_false, not_false_eq_true, Nat.lt_irrefl, or_true, true_or, or_false, false_or, z_cell_lt, Value.category, h0, hA, hb0, ha1, n0, p1, p2, p3, q_3k, nI_1, q_p2, i0, i1, i2, j0, j1, j2, z_up_s, z_up_up, q_sh1, q_or1]
    rfl
theorem unp_pk {f g : Nat → Nat} (hf : ∀ i, f i < 128) (hg : ∀ i, 7 ≤ i → g i = f i) : unp (pk7 f 7) g 7 = f := by
  funext i
  unfold unp
  split
  · rename_i c; exact pk7_at hf 7 i c
  · rename_i c; exact hg i (by omega)
theorem lg_cmp11 : lg_cmp (lN true.toNat) 1 = 0 := by decide +kernel
theorem lg_cmp01 : ¬ lg_cmp (lN false.toNat) 1 = 0 := by decide +kernel
theorem c_load (hT : toldAt h b n rm mt nt fm vr) {sl : Nat} (hA : h a = zJ N F) (hsl : 3 * sl + 2 < N) (hN : N < 2 ^ 31) (ha : a < b ∨ b + 3 < a) (ha1 : a < 1000) (hm' : ∀ i, mt' i < 128) (ht' : ∀ i, nt' i < 128) (hr' : ∀ i, rm' i ≤ 9) (om : ∀ i, 7 ≤ i → mt i = mt' i) (ot : ∀ i, 7 ≤ i → nt i = nt' i) (or_ : ∀ i, 7 ≤ i → rm i = rm' i) (f0 : F (3 * sl) = lN (pk7 mt' 7)) (f1 : F (3 * sl + 1) = lN (pk7 nt' 7)) (f2 : F (3 * sl + 2) = lN (2 * pk7 rm' 7 + fm'.toNat)) : zK (d + 2) 128 [.ref b, .ref a, .int (nI sl)] (h, u) Q = Q (none, (toldSet h b n rm' mt' nt' fm' (vr + 1), u)) := by
  obtain ⟨hb, h0, h1, h2, h3, hn, hr, hm, ht⟩ := id hT
  have hb0 : b < 1000 := by omega
  have hb1 : b + 1 < 1000 := by omega
  have hb2 : b + 2 < 1000 := by omega
  have hb3 : b + 3 < 1000 := by omega
  have hr2 : ∀ i, rm' i < 128 := fun i => by have := hr' i; omega
  have l1 := pk7_lt hm' 7
  have l2 := pk7_lt ht' 7
  have l3 := pk7_lt hr2 7
  have fb : fm'.toNat < 2 := Bool.toNat_lt fm'
  have i0 : vp_in (nI (3 * sl)) N := vp_in_nI (by omega) hN
  have i1 : vp_in (nI (3 * sl + 1)) N := vp_in_nI (by omega) hN
  have i2 : vp_in (nI (3 * sl + 2)) N := vp_in_nI (by omega) hN
  have j0 : (nI (3 * sl)).toNatClampNeg = 3 * sl := nI_clamp (by omega)
  have j1 : (nI (3 * sl + 1)).toNatClampNeg = 3 * sl + 1 := nI_clamp (by omega)
  have j2 : (nI (3 * sl + 2)).toNatClampNeg = 3 * sl + 2 := nI_clamp (by omega)
  -- the three steps
  have ga : toldSet h b n rm mt' nt fm vr a = zJ N F := by rw [toldSet_out ha]; exact hA
  have gb : toldSet h b n rm mt' nt' fm vr a = zJ N F := by rw [toldSet_out ha]; exact hA
  have gc : toldSet h b n rm' mt' nt' fm vr a = zJ N F := by rw [toldSet_out ha]; exact hA
  have s1 : z_up h (b + 2) (zI 0 7 (fun i => nI (mt' i))) = toldSet h b n rm mt' nt fm vr := by
    apply toldSet_of
    · intro k hk; rw [z_up_n _ _ (by omega)]
    · rw [z_up_n _ _ (by omega)]; exact h0
    · rw [z_up_n _ _ (by omega)]; exact h1
    · rw [z_up_s]
    · rw [z_up_n _ _ (by omega)]; exact h3
  have s2 : z_up (toldSet h b n rm mt' nt fm vr) (b + 3) (zI 0 7 (fun i => nI (nt' i))) = toldSet h b n rm mt' nt' fm vr := by
    apply toldSet_of
    · intro k hk; rw [z_up_n _ _ (by omega), toldSet_out hk]
    · rw [z_up_n _ _ (by omega)]; simp [toldSet]
    · rw [z_up_n _ _ (by omega)]; simp [toldSet]
    · rw [z_up_n _ _ (by omega)]; simp [toldSet]
    · rw [z_up_s]
  have s3 : z_up (toldSet h b n rm mt' nt' fm vr) (b + 1) (zI 0 7 (fun i => nI (rm' i))) = toldSet h b n rm' mt' nt' fm vr := by
    apply toldSet_of
    · intro k hk; rw [z_up_n _ _ (by omega), toldSet_out hk]
    · rw [z_up_n _ _ (by omega)]; simp [toldSet]
    · rw [z_up_s]
    · rw [z_up_n _ _ (by omega)]; simp [toldSet]
    · rw [z_up_n _ _ (by omega)]; simp [toldSet]
  have p1 : ∀ (d : Nat) (u : zU) (Q : zR → Prop), zK (d + 1) 126 [.long (lN (pk7 mt' 7)), .ref (b + 2)] (h, u) Q = Q (none, (toldSet h b n rm mt' nt fm vr, u)) := fun d u Q => by
    rw [c_unpack hb2 (by omega) h2, unp_pk hm' om, s1]
  have p2 : ∀ (d : Nat) (u : zU) (Q : zR → Prop), zK (d + 1) 126 [.long (lN (pk7 nt' 7)), .ref (b + 3)] (toldSet h b n rm mt' nt fm vr, u) Q = Q (none, (toldSet h b n rm mt' nt' fm vr, u)) := fun d u Q => by
    rw [c_unpack (f := nt) hb3 (by omega) (by simp [toldSet]), unp_pk ht' ot, s2]
  have p3 : ∀ (d : Nat) (u : zU) (Q : zR → Prop), zK (d + 1) 126 [.long (lN (pk7 rm' 7)), .ref (b + 1)] (toldSet h b n rm mt' nt' fm vr, u) Q = Q (none, (toldSet h b n rm' mt' nt' fm vr, u)) := fun d u Q => by
    rw [c_unpack (f := rm) hb1 (by omega) (by simp [toldSet]), unp_pk hr2 or_, s3]
  have e1 : ((lN (2 * pk7 rm' 7 + fm'.toNat)).toUInt64 >>> ((1 : Int32).toInt64.toUInt64 &&& Int64.toUInt64 63)).toInt64 = lN (pk7 rm' 7) := by
    have := wb_shr (n := 2 * pk7 rm' 7 + fm'.toNat) (k := 1) (by omega) (by decide)
    rw [show (2 * pk7 rm' 7 + fm'.toNat) / 2 ^ 1 = pk7 rm' 7 by omega] at this
    exact this
  have e2 : lN (2 * pk7 rm' 7 + fm'.toNat) &&& 1 = lN fm'.toNat := by
    rw [wb_a1 (by omega), show (2 * pk7 rm' 7 + fm'.toNat) % 2 = fm'.toNat by omega]
  have g2 : toldSet h b n rm mt' nt fm vr b = zO 9 [.ref (b + 1), .ref (b + 2), .ref (b + 3), .int (nI n), .int (if fm then 1 else 0), .int vr] := toldSet_b
  have g3 : toldSet h b n rm mt' nt' fm vr b = zO 9 [.ref (b + 1), .ref (b + 2), .ref (b + 3), .int (nI n), .int (if fm then 1 else 0), .int vr] := toldSet_b
  have g4 : toldSet h b n rm' mt' nt' fm vr b = zO 9 [.ref (b + 1), .ref (b + 2), .ref (b + 3), .int (nI n), .int (if fm then 1 else 0), .int vr] := toldSet_b
  have k1 := toldUp_b (h := h) (b := b) (n := n) (rm := rm') (mt := mt') (nt := nt') (fm := fm) (vr := vr) (f := true) (v := vr + 1)
  have k0 := toldUp_b (h := h) (b := b) (n := n) (rm := rm') (mt := mt') (nt := nt') (fm := fm) (vr := vr) (f := false) (v := vr + 1)
  simp only [if_true, Bool.false_eq_true, if_false] at k0 k1
  refine zK_of (k := 2) (by omega) ?_
  refine zK_in (M := MX9_load) rfl (Nat.le_of_ble_eq_true rfl) ?_
  show zW 1 MX9_load 0 ([.ref b, .ref a, .int (nI sl)], [], (h, u)) _
  cases fm'
  · simp only [eX9_load_0, eX9_load_1, eX9_load_2, eX9_load_3, eX9_load_4, eX9_load_5, eX9_load_6, eX9_load_9, eX9_load_12, eX9_load_13, eX9_load_14, eX9_load_15, eX9_load_16, eX9_load_17, eX9_load_18, eX9_load_19, eX9_load_20, eX9_load_23, eX9_load_26, eX9_load_27, eX9_load_28, eX9_load_29, eX9_load_30, eX9_load_31, eX9_load_32, eX9_load_33, eX9_load_34, eX9_load_35, eX9_load_36, eX9_load_39, eX9_load_42, eX9_load_43, eX9_load_44, eX9_load_45, eX9_load_46, eX9_load_47, eX9_load_48, eX9_load_49, eX9_load_50, eX9_load_51, eX9_load_52, eX9_load_53, eX9_load_54, eX9_load_57, eX9_load_58, eX9_load_61, eX9_load_62, eX9_load_65, eX9_load_66, eX9_load_67, eX9_load_70, eX9_load_71, eX9_load_72, eX9_load_75, rX9_load, zg_aload, zg_dup, zg_getfield, zg_goto, zg_iadd, zg_iconst, zg_if, zg_iload, zg_imul, zg_is2, zg_laload, zg_land, zg_lcmp, zg_lconst, zg_lushr, zg_putfield, zg_return, q10, q01, q00, ite_self, zLd_i, zLd_l, zLd_a, zInc_i, zGet_o, zGet2_s, zPut_o, zAld_i, zAll_j, zAst_i, zAsl_j, zLen_i, zLen_j, zRt_i, zRt_z, zRl2_l, zRv_n, List.getElem?_cons_zero, List.getElem?_cons_succ, List.length_cons, List.length_nil, z_set, z_set2, z_cut, List.set_cons_zero, List.set_cons_succ, Option.toList_some, Option.toList_none, List.cons_append, List.nil_append, zif, zW_ite, zfit_0, zfit_1, zfit_2, zfit_3, zisc_o, zRt_c, zRt_b, List.map_cons, List.map_nil, List.sum_cons, List.sum_nil, true_and, and_true, if_true, if_false, ite_true, ite_false, Nat.reduceLT, Nat.reduceLeDiff, Nat.reduceAdd, Nat.reduceEqDiff, eq_self, not_true_eq_false, not_false_eq_true, Nat.lt_irrefl, or_true, true_or, or_false, false_or, z_cell_lt, Value.category, h0, hA, ga, gb, gc, g2, g3, g4, hb0, ha1, p1, p2, p3, q_3k, nI_1, q_p2, i0, i1, i2, j0, j1, j2, f0, f1, f2, e1, e2, z_up_s, z_up_up, lg_cmp01, k0]
  · simp only [eX9_load_0, eX9_load_1, eX9_load_2, eX9_load_3, eX9_load_4, eX9_load_5, eX9_load_6, eX9_load_9, eX9_load_12, eX9_load_13, eX9_load_14, eX9_load_15, eX9_load_16, eX9_load_17, eX9_load_18, eX9_load_19, eX9_load_20, eX9_load_23, eX9_load_26, eX9_load_27, eX9_load_28, eX9_load_29, eX9_load_30, eX9_load_31, eX9_load_32, eX9_load_33, eX9_load_34, eX9_load_35, eX9_load_36, eX9_load_39, eX9_load_42, eX9_load_43, eX9_load_44, eX9_load_45, eX9_load_46, eX9_load_47, eX9_load_48, eX9_load_49, eX9_load_50, eX9_load_51, eX9_load_52, eX9_load_53, eX9_load_54, eX9_load_57, eX9_load_58, eX9_load_61, eX9_load_62, eX9_load_65, eX9_load_66, eX9_load_67, eX9_load_70, eX9_load_71, eX9_load_72, eX9_load_75, rX9_load, zg_aload, zg_dup, zg_getfield, zg_goto, zg_iadd, zg_iconst, zg_if, zg_iload, zg_imul, zg_is2, zg_laload, zg_land, zg_lcmp, zg_lconst, zg_lushr, zg_putfield, zg_return, q10, q01, q00, ite_self, zLd_i, zLd_l, zLd_a, zInc_i, zGet_o, zGet2_s, zPut_o, zAld_i, zAll_j, zAst_i, zAsl_j, zLen_i, zLen_j, zRt_i, zRt_z, zRl2_l, zRv_n, List.getElem?_cons_zero, List.getElem?_cons_succ, List.length_cons, List.length_nil, z_set, z_set2, z_cut, List.set_cons_zero, List.set_cons_succ, Option.toList_some, Option.toList_none, List.cons_append, List.nil_append, zif, zW_ite, zfit_0, zfit_1, zfit_2, zfit_3, zisc_o, zRt_c, zRt_b, List.map_cons, List.map_nil, List.sum_cons, List.sum_nil, true_and, and_true, if_true, if_false, ite_true, ite_false, Nat.reduceLT, Nat.reduceLeDiff, Nat.reduceAdd, Nat.reduceEqDiff, eq_self, not_true_eq_false, not_false_eq_true, Nat.lt_irrefl, or_true, true_or, or_false, false_or, z_cell_lt, Value.category, h0, hA, ga, gb, gc, g2, g3, g4, hb0, ha1, p1, p2, p3, q_3k, nI_1, q_p2, i0, i1, i2, j0, j1, j2, f0, f1, f2, e1, e2, z_up_s, z_up_up, lg_cmp11, k1]
end TOLD5

