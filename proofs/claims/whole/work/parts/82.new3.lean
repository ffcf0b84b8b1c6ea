/-! a new InnRegister -/
section NEW3
variable {h : Nat → zE} {d kc ks : Nat} {Q : zR → Prop}
theorem textSet_j {b len j : Nat} {c : Nat → Nat} : textSet h b len c j = if j = b then zO 8 [.ref (b + 1), .int (nI len)] else if j = b + 1 then zI 3 80 (fun i => nI (c i)) else h j := rfl
theorem toldSet_j {b n j : Nat} {rm mt nt : Nat → Nat} {fm : Bool} {vr : Int32} : toldSet h b n rm mt nt fm vr j = if j = b then zO 9 [.ref (b + 1), .ref (b + 2), .ref (b + 3), .int (nI n), .int (if fm then 1 else 0), .int vr] else if j = b + 1 then zI 0 7 (fun i => nI (rm i)) else if j = b + 2 then zI 0 7 (fun i => nI (mt i)) else if j = b + 3 then zI 0 7 (fun i => nI (nt i)) else h j := rfl
theorem pastSet_n1 {p : Nat} {F S K : Nat → Int64} {ko k : Nat} (hp : 1 < p) : pastSet h p F S K ko k 1 = h 1 := pastSet_out (Or.inl hp)
theorem rowSet_n1 {c k : Nat} {f : Nat → Int64} (hp : 1 < c) : rowSet h c k f 1 = h 1 := rowSet_out (Or.inl hp)
theorem textSet_n1 {b len : Nat} {c : Nat → Nat} (hp : 1 < b) : textSet h b len c 1 = h 1 := by
  rw [textSet_j, if_neg (by omega), if_neg (by omega)]
theorem toldSet_n1 {b n : Nat} {rm mt nt : Nat → Nat} {fm : Bool} {vr : Int32} (hp : 1 < b) : toldSet h b n rm mt nt fm vr 1 = h 1 := toldSet_out (Or.inl hp)
theorem fitsSet_n1 {f : Nat} {nd br : Nat → Nat} {rc : Nat → Bool} (hp : 1 < f) : fitsSet h f nd br rc 1 = h 1 := by
  unfold fitsSet
  rw [if_neg (by omega), if_neg (by omega), if_neg (by omega), if_neg (by omega)]
theorem ruleSet_n1 {r : Nat} {cd st : Nat → Int32} {sg : Nat → Nat} {sz sp p : Nat} (hp : 1 < r) : ruleSet h r cd st sg sz sp p 1 = h 1 := by
  unfold ruleSet
  rw [if_neg (by omega), if_neg (by omega), if_neg (by omega), if_neg (by omega)]
theorem ordSet_n1 {k len m n la : Nat} {A : Nat → Nat → Nat} {B : Nat → Nat → Int64} {C : Nat → Nat → Nat} {op : Nat → Int32} {sn : Int32} {tl : Bool} (hp : 1 < k) : ordSet h 22 k len m A B C op sn tl n la 1 = h 1 := ord_out (by decide) (Or.inl hp) (by decide)
theorem cstS_n1 {c : cCst} (hp : 1 < c.1) : cstS h 34 c 1 = h 1 := by
  unfold cstS
  rw [if_neg (by omega), if_neg (by omega), if_neg (by omega), if_neg (by omega), if_neg (by omega), if_neg (by omega), if_neg (by omega)]
theorem cirS_n1 {c : cCir} : cirS h 41 c 1 = h 1 := rfl
theorem gamS_n1 {c : cGam} : gamS h 44 c 1 = h 1 := rfl
/-- the new one's parts -/
def nwR : cRule := (upd (fun _ => 0) 0 1003, (fun _ => 0), (fun _ => 0), 1, 0, 0)
def nwT : cTold := (0, (fun _ => 0), (fun _ => 0), (fun _ => 0), false, 0)
def nwO : cOrd := (23, 1, 1, (fun _ _ => 0), (fun _ _ => 0), (fun _ _ => 0), (fun _ => 0), -1, false, 0, 0)
def nwC : cCst := (35, 1, (fun _ => 0), (fun _ => 0), (fun _ => 0), (fun _ => 0), (fun _ => 0), (fun _ => 0), false)
def nwW (h : Nat → zE) : Nat → zE := wld h (0, (fun _ => 0)) nwT nwT ((fun _ => 0), (fun _ => 0), (fun _ => 0), 0, 0) (0, (fun _ => 0)) ((fun _ => 0), (fun _ => 0), (fun _ => false)) nwO nwC ((fun _ => 0), (fun _ => 0)) ((fun _ => 0), 0) nwR nwR false
theorem n_tx (H : Nat → zE) (kc ks : Nat) (Q : zR → Prop) : zK (d + 1) 93 [.ref 2] (z_up H 2 (zO 8 (z_nf 8)), (3, kc, ks)) Q = Q (none, (textSet (z_up H 2 (zO 8 (z_nf 8))) 2 0 (fun _ => 0), (4, kc + 1, ks + 80))) := c_textNew (by decide) (z_up_s _ _ _)
theorem n_t1 (H : Nat → zE) (kc ks : Nat) (Q : zR → Prop) : zK (d + 1) 106 [.ref 4] (z_up H 4 (zO 9 (z_nf 9)), (5, kc, ks)) Q = Q (none, (toldSet (z_up H 4 (zO 9 (z_nf 9))) 4 0 (fun _ => 0) (fun _ => 0) (fun _ => 0) false 0, (8, kc + 3, ks + 21))) := c_toldNew (by decide) (z_up_s _ _ _)
theorem n_t2 (H : Nat → zE) (kc ks : Nat) (Q : zR → Prop) : zK (d + 1) 106 [.ref 8] (z_up H 8 (zO 9 (z_nf 9)), (9, kc, ks)) Q = Q (none, (toldSet (z_up H 8 (zO 9 (z_nf 9))) 8 0 (fun _ => 0) (fun _ => 0) (fun _ => 0) false 0, (12, kc + 3, ks + 21))) := c_toldNew (by decide) (z_up_s _ _ _)
theorem n_ps (H : Nat → zE) (kc ks : Nat) (Q : zR → Prop) : zK (d + 1) 68 [.ref 12] (z_up H 12 (zO 5 (z_nf 5)), (13, kc, ks)) Q = Q (none, (pastSet (z_up H 12 (zO 5 (z_nf 5))) 12 (fun _ => 0) (fun _ => 0) (fun _ => 0) 0 0, (16, kc + 3, ks + 57))) := c_pastNew (by decide) (z_up_s _ _ _)
theorem n_rw (H : Nat → zE) (kc ks : Nat) (Q : zR → Prop) : zK (d + 1) 77 [.ref 16] (z_up H 16 (zO 6 (z_nf 6)), (17, kc, ks)) Q = Q (none, (rowSet (z_up H 16 (zO 6 (z_nf 6))) 16 0 (fun _ => 0), (18, kc + 1, ks + 14))) := c_rowNew (by decide) (z_up_s _ _ _)
theorem n_ft (H : Nat → zE) (kc ks : Nat) (Q : zR → Prop) : zK (d + 1) 35 [.ref 18] (z_up H 18 (zO 2 (z_nf 2)), (19, kc, ks)) Q = Q (none, (fitsSet (z_up H 18 (zO 2 (z_nf 2))) 18 (fun _ => 0) (fun _ => 0) (fun _ => false), (22, kc + 3, ks + 142))) := c_fitsNew (by decide) (z_up_s _ _ _)
theorem n_od (H : Nat → zE) (kc ks : Nat) (Q : zR → Prop) : zK (d + 1) 50 [.ref 22] (z_up H 22 (zO 4 (z_nf 4)), (23, kc, ks)) Q = Q (none, (ordSet (z_up H 22 (zO 4 (z_nf 4))) 22 23 1 1 (fun _ _ => 0) (fun _ _ => 0) (fun _ _ => 0) (fun _ => 0) (-1) false 0 0, (34, kc + 1 + 1 + 1 + 1 + 1 + 1 + 1 + 1 + 1 + 1 + 1, ks + 1 + 1 + 1 + 1 + 1 + 1 + 1 + 1 + 128 + 128 + 49))) := c_ordNew (z_up_s _ _ _)
theorem n_cs (H : Nat → zE) (kc ks : Nat) (Q : zR → Prop) : zK (d + 1) 17 [.ref 34] (z_up H 34 (zO 1 (z_nf 1)), (35, kc, ks)) Q = Q (none, (cstS (z_up H 34 (zO 1 (z_nf 1))) 34 (35, 1, (fun _ => 0), (fun _ => 0), (fun _ => 0), (fun _ => 0), (fun _ => 0), (fun _ => 0), false), (41, kc + 1 + 1 + 1 + 1 + 1 + 1, ks + 1 + 896 + 7 + 7 + 7 + 7))) := c_cstNew (z_up_s _ _ _)
theorem n_ci (H : Nat → zE) (kc ks : Nat) (Q : zR → Prop) : zK (d + 1) 0 [.ref 41] (z_up H 41 (zO 0 (z_nf 0)), (42, kc, ks)) Q = Q (none, (cirS (z_up H 41 (zO 0 (z_nf 0))) 41 ((fun _ => 0), (fun _ => 0)), (44, kc + 1 + 1, ks + 7 + 7))) := c_cirNew (z_up_s _ _ _)
theorem n_ga (H : Nat → zE) (kc ks : Nat) (Q : zR → Prop) : zK (d + 1) 41 [.ref 44] (z_up H 44 (zO 3 (z_nf 3)), (45, kc, ks)) Q = Q (none, (gamS (z_up H 44 (zO 3 (z_nf 3))) 44 ((fun _ => 0), 0), (46, kc + 1, ks + 61))) := c_gamNew (z_up_s _ _ _)
theorem n_q1 (H : Nat → zE) (kc ks : Nat) (Q : zR → Prop) : zK (d + 1) 82 [.ref 46] (z_up H 46 (zO 7 (z_nf 7)), (47, kc, ks)) Q = Q (none, (ruleSet (z_up H 46 (zO 7 (z_nf 7))) 46 (upd (fun _ => 0) 0 1003) (fun _ => 0) (fun _ => 0) 1 0 0, (50, kc + 3, ks + 120))) := c_ruleNew (by decide) (z_up_s _ _ _)
theorem n_q2 (H : Nat → zE) (kc ks : Nat) (Q : zR → Prop) : zK (d + 1) 82 [.ref 50] (z_up H 50 (zO 7 (z_nf 7)), (51, kc, ks)) Q = Q (none, (ruleSet (z_up H 50 (zO 7 (z_nf 7))) 50 (upd (fun _ => 0) 0 1003) (fun _ => 0) (fun _ => 0) 1 0 0, (54, kc + 3, ks + 120))) := c_ruleNew (by decide) (z_up_s _ _ _)
theorem nf_len : (z_nf 0).length = 2 ∧ (z_nf 1).length = 7 ∧ (z_nf 2).length = 3 ∧ (z_nf 3).length = 2 ∧ (z_nf 4).length = 15 ∧ (z_nf 5).length = 5 ∧ (z_nf 6).length = 2 ∧ (z_nf 7).length = 6 ∧ (z_nf 8).length = 2 ∧ (z_nf 9).length = 6 := ⟨rfl, rfl, rfl, rfl, rfl, rfl, rfl, rfl, rfl, rfl⟩
theorem p_new (h0 : h 1 = zO 10 (z_nf 10)) : zK (d + 2) 129 [.ref 1] (h, (2, kc, ks)) Q = Q (none, (nwW h, (54, kc + 1 + 1 + 1 + 3 + 1 + 3 + 1 + 3 + 1 + 1 + 1 + 3 + 1 + 1 + 1 + 1 + 1 + 1 + 1 + 1 + 1 + 1 + 1 + 1 + 1 + 1 + 1 + 1 + 1 + 1 + 1 + 1 + 1 + 1 + 1 + 1 + 1 + 3 + 1 + 3, ks + 2 + 80 + 6 + 21 + 6 + 21 + 5 + 57 + 2 + 14 + 3 + 142 + 15 + 1 + 1 + 1 + 1 + 1 + 1 + 1 + 1 + 128 + 128 + 49 + 7 + 1 + 896 + 7 + 7 + 7 + 7 + 2 + 7 + 7 + 2 + 61 + 6 + 120 + 6 + 120))) := by
  refine zK_of (k := 2) (by omega) ?_
  refine zK_in (M := MX10_init) rfl (Nat.le_of_ble_eq_true rfl) ?_
  show zW 1 MX10_init 0 ([.ref 1], [], (h, (2, kc, ks))) _
  have nn : ∀ (H : Nat → zE) (a : Nat) e, a ≠ 1 → z_up H a e 1 = H 1 := fun H a e ha => z_up_n _ _ (Ne.symm ha)
  obtain ⟨l0, l1, l2, l3, l4, l5, l6, l7, l8, l9⟩ := nf_len
  have h0' : h 1 = zO 10 [.null, .null, .null, .null, .null, .null, .null, .null, .null, .null, .null, .null] := h0
  simp (disch := first | assumption | omega | decide) only [eX10_init_0, eX10_init_1, eX10_init_4, eX10_init_5, eX10_init_8, eX10_init_9, eX10_init_12, eX10_init_15, eX10_init_16, eX10_init_19, eX10_init_20, eX10_init_23, eX10_init_26, eX10_init_27, eX10_init_30, eX10_init_31, eX10_init_34, eX10_init_37, eX10_init_38, eX10_init_41, eX10_init_42, eX10_init_45, eX10_init_48, eX10_init_49, eX10_init_52, eX10_init_53, eX10_init_56, eX10_init_59, eX10_init_60, eX10_init_63, eX10_init_64, eX10_init_67, eX10_init_70, eX10_init_71, eX10_init_74, eX10_init_75, eX10_init_78, eX10_init_81, eX10_init_82, eX10_init_85, eX10_init_86, eX10_init_89, eX10_init_92, eX10_init_93, eX10_init_96, eX10_init_97, eX10_init_100, eX10_init_103, eX10_init_104, eX10_init_107, eX10_init_108, eX10_init_111, eX10_init_114, eX10_init_115, eX10_init_118, eX10_init_119, eX10_init_122, eX10_init_125, eX10_init_126, eX10_init_129, eX10_init_130, eX10_init_133, eX10_init_136, rX10_init, zg_aload, zg_dup, zg_ip0, zg_newo, zg_obj, zg_putfield, zg_return, q10, q01, q00, ite_self, zLd_i, zLd_l, zLd_a, zInc_i, zGet_o, zGet2_s, zPut_o, zAld_i, zAll_j, zAst_i, zAsl_j, zLen_i, zLen_j, zRt_i, zRt_z, zRl2_l, zRv_n, List.getElem?_cons_zero, List.getElem?_cons_succ, List.length_cons, List.length_nil, z_set, z_set2, z_cut, List.set_cons_zero, List.set_cons_succ, Option.toList_some, Option.toList_none, List.cons_append, List.nil_append, zif, zW_ite, zfit_0, zfit_1, zfit_2, zfit_3, zisc_o, zRt_c, zRt_b, List.map_cons, List.map_nil, List.sum_cons, List.sum_nil, true_and, and_true, if_true, if_false, ite_true, ite_false, Nat.reduceLT, Nat.reduceLeDiff, Nat.reduceAdd, Nat.reduceEqDiff, eq_self, not_true_eq_false, not_false_eq_true, Nat.lt_irrefl, or_true, true_or, or_false, false_or, z_cell_lt, Value.category, ltT, ltF, leT, leF, natT, natF, iltT, iltF, ieqT, ieqF, vpT, cl_nI, q_bit, pow_cell, z_pw_eq, nI_add, nI_mul, nI_m1, nI_dn, nI_dn0, m1_lt, lg_pos, i32_irr, q_shT, ite01, ite00, updL_z, q_upd, Bool.false_eq_true, nI_l2i, jlT_0, jlF_0, jgT_0, jgF_0, jeT_0, jeF_0, jv_0, jc_0, jm_0, jM_0, ja_0, jA_0, jlT_1, jlF_1, jgT_1, jgF_1, jeT_1, jeF_1, jv_1, jc_1, jm_1, jM_1, ja_1, jA_1, zg_newo, zg_dup, h0', nn, z_up_s, l0, l1, l2, l3, l4, l5, l6, l7, l8, l9, textSet_n1, toldSet_n1, pastSet_n1, rowSet_n1, fitsSet_n1, ordSet_n1, cstS_n1, cirS_n1, gamS_n1, ruleSet_n1, n_tx, n_t1, n_t2, n_ps, n_rw, n_ft, n_od, n_cs, n_ci, n_ga, n_q1, n_q2]
  refine congr (congrArg Prod.mk rfl) (congr (congrArg Prod.mk ?_) rfl)
  funext j
  by_cases c1 : j = 1
  · subst c1; rfl
  by_cases c2 : j = 2
  · subst c2; rfl
  by_cases c3 : j = 3
  · subst c3; rfl
  by_cases c4 : j = 4
  · subst c4; rfl
  by_cases c5 : j = 5
  · subst c5; rfl
  by_cases c6 : j = 6
  · subst c6; rfl
  by_cases c7 : j = 7
  · subst c7; rfl
  by_cases c8 : j = 8
  · subst c8; rfl
  by_cases c9 : j = 9
  · subst c9; rfl
  by_cases c10 : j = 10
  · subst c10; rfl
  by_cases c11 : j = 11
  · subst c11; rfl
  by_cases c12 : j = 12
  · subst c12; rfl
  by_cases c13 : j = 13
  · subst c13; rfl
  by_cases c14 : j = 14
  · subst c14; rfl
  by_cases c15 : j = 15
  · subst c15; rfl
  by_cases c16 : j = 16
  · subst c16; rfl
  by_cases c17 : j = 17
  · subst c17; rfl
  by_cases c18 : j = 18
  · subst c18; rfl
  by_cases c19 : j = 19
  · subst c19; rfl
  by_cases c20 : j = 20
  · subst c20; rfl
  by_cases c21 : j = 21
  · subst c21; rfl
  by_cases c22 : j = 22
  · subst c22; rfl
  by_cases c23 : j = 23
  · subst c23; rfl
  by_cases c24 : j = 24
  · subst c24; rfl
  by_cases c25 : j = 25
  · subst c25; rfl
  by_cases c26 : j = 26
  · subst c26; rfl
  by_cases c27 : j = 27
  · subst c27; rfl
  by_cases c28 : j = 28
  · subst c28; rfl
  by_cases c29 : j = 29
  · subst c29; rfl
  by_cases c30 : j = 30
  · subst c30; rfl
  by_cases c31 : j = 31
  · subst c31; rfl
  by_cases c32 : j = 32
  · subst c32; rfl
  by_cases c33 : j = 33
  · subst c33; rfl
  by_cases c34 : j = 34
  · subst c34; rfl
  by_cases c35 : j = 35
  · subst c35; rfl
  by_cases c36 : j = 36
  · subst c36; rfl
  by_cases c37 : j = 37
  · subst c37; rfl
  by_cases c38 : j = 38
  · subst c38; rfl
  by_cases c39 : j = 39
  · subst c39; rfl
  by_cases c40 : j = 40
  · subst c40; rfl
  by_cases c41 : j = 41
  · subst c41; rfl
  by_cases c42 : j = 42
  · subst c42; rfl
  by_cases c43 : j = 43
  · subst c43; rfl
  by_cases c44 : j = 44
  · subst c44; rfl
  by_cases c45 : j = 45
  · subst c45; rfl
  by_cases c46 : j = 46
  · subst c46; rfl
  by_cases c47 : j = 47
  · subst c47; rfl
  by_cases c48 : j = 48
  · subst c48; rfl
  by_cases c49 : j = 49
  · subst c49; rfl
  by_cases c50 : j = 50
  · subst c50; rfl
  by_cases c51 : j = 51
  · subst c51; rfl
  by_cases c52 : j = 52
  · subst c52; rfl
  by_cases c53 : j = 53
  · subst c53; rfl
  have ho : ∀ (H : Nat → zE), ordSet H 22 23 1 1 (fun _ _ => 0) (fun _ _ => 0) (fun _ _ => 0) (fun _ => 0) (-1) false 0 0 j = H j := fun H => ord_out (by omega) (by omega) (by omega)
  simp only [nwW, nwT, nwR, nwO, nwC, wld, textS, toldS, pastS, rowS, fitsS, ruleS, ordS, cirS, gamS, cstS, textSet, toldSet, pastSet, rowSet, fitsSet, ruleSet, z_up, ho, Nat.reduceAdd, c1, c2, c3, c4, c5, c6, c7, c8, c9, c10, c11, c12, c13, c14, c15, c16, c17, c18, c19, c20, c21, c22, c23, c24, c25, c26, c27, c28, c29, c30, c31, c32, c33, c34, c35, c36, c37, c38, c39, c40, c41, c42, c43, c44, c45, c46, c47, c48, c49, c50, c51, c52, c53, if_false]
end NEW3

