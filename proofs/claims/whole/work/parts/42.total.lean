/-! the least of a set; how many ORDERS when nothing was told since -/
theorem eX10_leastOf_0 {d : Nat} {S : zS} {Q : zR → Prop} : zW d MX10_leastOf 0 S Q = zGo d MX10_leastOf (.iload 0) z0 1 S Q := zW_step (I := .iload_n 0) rfl S Q
theorem eX10_leastOf_1 {d : Nat} {S : zS} {Q : zR → Prop} : zW d MX10_leastOf 1 S Q = zGo d MX10_leastOf (.iload 0) z0 2 S Q := zW_step (I := .iload_n 0) rfl S Q
theorem eX10_leastOf_2 {d : Nat} {S : zS} {Q : zR → Prop} : zW d MX10_leastOf 2 S Q = zGo d MX10_leastOf (.ineg) z0 3 S Q := zW_step (I := .ineg) rfl S Q
theorem eX10_leastOf_3 {d : Nat} {S : zS} {Q : zR → Prop} : zW d MX10_leastOf 3 S Q = zGo d MX10_leastOf (.iand) z0 4 S Q := zW_step (I := .iand) rfl S Q
theorem eX10_leastOf_4 {d : Nat} {S : zS} {Q : zR → Prop} : zW d MX10_leastOf 4 S Q = zGo d MX10_leastOf (.iconst 1) (zv (.int 1)) 5 S Q := zW_step (I := .iconst 1) rfl S Q
theorem eX10_leastOf_5 {d : Nat} {S : zS} {Q : zR → Prop} : zW d MX10_leastOf 5 S Q = zGo d MX10_leastOf (.isub) z0 6 S Q := zW_step (I := .isub) rfl S Q
theorem eX10_leastOf_6 {d : Nat} {S : zS} {Q : zR → Prop} : zW d MX10_leastOf 6 S Q = zGo d MX10_leastOf (.invokestatic 243) (zc 292 1 0) 9 S Q := zW_step (I := .invokestatic 243) rfl S Q
theorem eX10_leastOf_9 {d : Nat} {S : zS} {Q : zR → Prop} : zW d MX10_leastOf 9 S Q = zGo d MX10_leastOf (.ireturn) z0 10 S Q := zW_step (I := .ireturn) rfl S Q
theorem rX10_leastOf : MX10_leastOf.2.2.2.2.1 = some .int := rfl
theorem eX4_total_0 {d : Nat} {S : zS} {Q : zR → Prop} : zW d MX4_total 0 S Q = zGo d MX4_total (.aload 0) z0 1 S Q := zW_step (I := .aload_n 0) rfl S Q
theorem eX4_total_1 {d : Nat} {S : zS} {Q : zR → Prop} : zW d MX4_total 1 S Q = zGo d MX4_total (.getfield 46) (zf 0 4 11) 4 S Q := zW_step (I := .getfield 46) rfl S Q
theorem eX4_total_4 {d : Nat} {S : zS} {Q : zR → Prop} : zW d MX4_total 4 S Q = zGo d MX4_total (.aload 1) z0 5 S Q := zW_step (I := .aload_n 1) rfl S Q
theorem eX4_total_5 {d : Nat} {S : zS} {Q : zR → Prop} : zW d MX4_total 5 S Q = zGo d MX4_total (.getfield 50) (zf 0 9 5) 8 S Q := zW_step (I := .getfield 50) rfl S Q
theorem eX4_total_8 {d : Nat} {S : zS} {Q : zR → Prop} : zW d MX4_total 8 S Q = zGo d MX4_total (.if_icmp .eq 51) (zt 59) 11 S Q := zW_step (I := .if_icmp .eq 51) rfl S Q
theorem eX4_total_11 {d : Nat} {S : zS} {Q : zR → Prop} : zW d MX4_total 11 S Q = zGo d MX4_total (.aload 0) z0 12 S Q := zW_step (I := .aload_n 0) rfl S Q
theorem eX4_total_12 {d : Nat} {S : zS} {Q : zR → Prop} : zW d MX4_total 12 S Q = zGo d MX4_total (.aload 1) z0 13 S Q := zW_step (I := .aload_n 1) rfl S Q
theorem eX4_total_13 {d : Nat} {S : zS} {Q : zR → Prop} : zW d MX4_total 13 S Q = zGo d MX4_total (.getfield 50) (zf 0 9 5) 16 S Q := zW_step (I := .getfield 50) rfl S Q
theorem eX4_total_16 {d : Nat} {S : zS} {Q : zR → Prop} : zW d MX4_total 16 S Q = zGo d MX4_total (.putfield 46) (zf 0 4 11) 19 S Q := zW_step (I := .putfield 46) rfl S Q
theorem eX4_total_19 {d : Nat} {S : zS} {Q : zR → Prop} : zW d MX4_total 19 S Q = zGo d MX4_total (.aload 0) z0 20 S Q := zW_step (I := .aload_n 0) rfl S Q
theorem eX4_total_20 {d : Nat} {S : zS} {Q : zR → Prop} : zW d MX4_total 20 S Q = zGo d MX4_total (.aload 1) z0 21 S Q := zW_step (I := .aload_n 1) rfl S Q
theorem eX4_total_21 {d : Nat} {S : zS} {Q : zR → Prop} : zW d MX4_total 21 S Q = zGo d MX4_total (.getfield 55) (zf 0 9 3) 24 S Q := zW_step (I := .getfield 55) rfl S Q
theorem eX4_total_24 {d : Nat} {S : zS} {Q : zR → Prop} : zW d MX4_total 24 S Q = zGo d MX4_total (.putfield 58) (zf 0 4 13) 27 S Q := zW_step (I := .putfield 58) rfl S Q
theorem eX4_total_27 {d : Nat} {S : zS} {Q : zR → Prop} : zW d MX4_total 27 S Q = zGo d MX4_total (.aload 0) z0 28 S Q := zW_step (I := .aload_n 0) rfl S Q
theorem eX4_total_28 {d : Nat} {S : zS} {Q : zR → Prop} : zW d MX4_total 28 S Q = zGo d MX4_total (.getstatic 59) (zv (.ref 1000)) 31 S Q := zW_step (I := .getstatic 59) rfl S Q
theorem eX4_total_31 {d : Nat} {S : zS} {Q : zR → Prop} : zW d MX4_total 31 S Q = zGo d MX4_total (.aload 0) z0 32 S Q := zW_step (I := .aload_n 0) rfl S Q
theorem eX4_total_32 {d : Nat} {S : zS} {Q : zR → Prop} : zW d MX4_total 32 S Q = zGo d MX4_total (.getfield 58) (zf 0 4 13) 35 S Q := zW_step (I := .getfield 58) rfl S Q
theorem eX4_total_35 {d : Nat} {S : zS} {Q : zR → Prop} : zW d MX4_total 35 S Q = zGo d MX4_total (.iaload) z0 36 S Q := zW_step (I := .iaload) rfl S Q
theorem eX4_total_36 {d : Nat} {S : zS} {Q : zR → Prop} : zW d MX4_total 36 S Q = zGo d MX4_total (.iconst 1) (zv (.int 1)) 37 S Q := zW_step (I := .iconst 1) rfl S Q
theorem eX4_total_37 {d : Nat} {S : zS} {Q : zR → Prop} : zW d MX4_total 37 S Q = zGo d MX4_total (.isub) z0 38 S Q := zW_step (I := .isub) rfl S Q
theorem eX4_total_38 {d : Nat} {S : zS} {Q : zR → Prop} : zW d MX4_total 38 S Q = zGo d MX4_total (.putfield 62) (zf 0 4 14) 41 S Q := zW_step (I := .putfield 62) rfl S Q
theorem eX4_total_41 {d : Nat} {S : zS} {Q : zR → Prop} : zW d MX4_total 41 S Q = zGo d MX4_total (.aload 0) z0 42 S Q := zW_step (I := .aload_n 0) rfl S Q
theorem eX4_total_42 {d : Nat} {S : zS} {Q : zR → Prop} : zW d MX4_total 42 S Q = zGo d MX4_total (.iconst 0) (zv (.int 0)) 43 S Q := zW_step (I := .iconst 0) rfl S Q
theorem eX4_total_43 {d : Nat} {S : zS} {Q : zR → Prop} : zW d MX4_total 43 S Q = zGo d MX4_total (.putfield 65) (zf 2 4 12) 46 S Q := zW_step (I := .putfield 65) rfl S Q
theorem eX4_total_46 {d : Nat} {S : zS} {Q : zR → Prop} : zW d MX4_total 46 S Q = zGo d MX4_total (.aload 0) z0 47 S Q := zW_step (I := .aload_n 0) rfl S Q
theorem eX4_total_47 {d : Nat} {S : zS} {Q : zR → Prop} : zW d MX4_total 47 S Q = zGo d MX4_total (.invokevirtual 69) (zc 52 1 4) 50 S Q := zW_step (I := .invokevirtual 69) rfl S Q
theorem eX4_total_50 {d : Nat} {S : zS} {Q : zR → Prop} : zW d MX4_total 50 S Q = zGo d MX4_total (.aload 0) z0 51 S Q := zW_step (I := .aload_n 0) rfl S Q
theorem eX4_total_51 {d : Nat} {S : zS} {Q : zR → Prop} : zW d MX4_total 51 S Q = zGo d MX4_total (.aload 1) z0 52 S Q := zW_step (I := .aload_n 1) rfl S Q
theorem eX4_total_52 {d : Nat} {S : zS} {Q : zR → Prop} : zW d MX4_total 52 S Q = zGo d MX4_total (.invokevirtual 72) (zc 53 2 4) 55 S Q := zW_step (I := .invokevirtual 72) rfl S Q
theorem eX4_total_55 {d : Nat} {S : zS} {Q : zR → Prop} : zW d MX4_total 55 S Q = zGo d MX4_total (.aload 0) z0 56 S Q := zW_step (I := .aload_n 0) rfl S Q
theorem eX4_total_56 {d : Nat} {S : zS} {Q : zR → Prop} : zW d MX4_total 56 S Q = zGo d MX4_total (.invokevirtual 76) (zc 54 1 4) 59 S Q := zW_step (I := .invokevirtual 76) rfl S Q
theorem eX4_total_59 {d : Nat} {S : zS} {Q : zR → Prop} : zW d MX4_total 59 S Q = zGo d MX4_total (.aload 0) z0 60 S Q := zW_step (I := .aload_n 0) rfl S Q
theorem eX4_total_60 {d : Nat} {S : zS} {Q : zR → Prop} : zW d MX4_total 60 S Q = zGo d MX4_total (.getfield 25) (zf 3 4 4) 63 S Q := zW_step (I := .getfield 25) rfl S Q
theorem eX4_total_63 {d : Nat} {S : zS} {Q : zR → Prop} : zW d MX4_total 63 S Q = zGo d MX4_total (.iconst 0) (zv (.int 0)) 64 S Q := zW_step (I := .iconst 0) rfl S Q
theorem eX4_total_64 {d : Nat} {S : zS} {Q : zR → Prop} : zW d MX4_total 64 S Q = zGo d MX4_total (.laload) z0 65 S Q := zW_step (I := .laload) rfl S Q
theorem eX4_total_65 {d : Nat} {S : zS} {Q : zR → Prop} : zW d MX4_total 65 S Q = zGo d MX4_total (.lreturn) z0 66 S Q := zW_step (I := .lreturn) rfl S Q
theorem rX4_total : MX4_total.2.2.2.2.1 = some .long := rfl
def lowB (x : Nat) : Nat := ((List.range 7).find? (fun i => x.testBit i)).getD 32
theorem q_low : ∀ x, x < 128 → x ≠ 0 → (nI x &&& -(nI x)) - 1 = nI (2 ^ lowB x - 1) ∧ pop (2 ^ lowB x - 1) = lowB x ∧ lowB x < 7 := by decide +kernel
section TOTAL
variable {h : Nat → zE} {o k len m n la b n' : Nat} {A : Nat → Nat → Nat} {B : Nat → Nat → Int64} {C : Nat → Nat → Nat} {op : Nat → Int32} {sn : Int32} {tl : Bool} {rm mt nt : Nat → Nat} {fm : Bool} {vr : Int32} {d : Nat} {u : zU} {Q : zR → Prop}
theorem c_least {x : Nat} (hx : x < 128) : zK (d + 2) 177 [.int (nI x)] (h, u) Q = Q (some (.int (nI (lowB x))), (h, u)) := by
  refine zK_of (k := 2) (by omega) ?_
  refine zK_in (M := MX10_leastOf) rfl (Nat.le_of_ble_eq_true rfl) ?_
  show zW 1 MX10_leastOf 0 ([.int (nI x)], [], (h, u)) _
  by_cases c : x = 0
  · subst c
    simp only [eX10_leastOf_0, eX10_leastOf_1, eX10_leastOf_2, eX10_leastOf_3, eX10_leastOf_4, eX10_leastOf_5, eX10_leastOf_6, eX10_leastOf_9, rX10_leastOf, zg_iand, zg_iconst, zg_iload, zg_ineg, zg_ireturn, zg_is1, zg_isub, q10, q01, q00, ite_self, zLd_i, zLd_l, zLd_a, zInc_i, zGet_o, zGet2_s, zPut_o, zAld_i, zAll_j, zAst_i, zAsl_j, zLen_i, zLen_j, zRt_i, zRt_z, zRl2_l, zRv_n, List.getElem?_cons_zero, List.getElem?_cons_succ, List.length_cons, List.length_nil, z_set, z_set2, z_cut, List.set_cons_zero, List.set_cons_succ, Option.toList_some, Option.toList_none, List.cons_append, List.nil_append, zif, zW_ite, zfit_0, zfit_1, zfit_2, zfit_3, zisc_o, zRt_c, zRt_b, List.map_cons, List.map_nil, List.sum_cons, List.sum_nil, true_and, and_true, if_true, if_false, ite_true, ite_false, Nat.reduceLT, Nat.reduceLeDiff, Nat.reduceAdd, Nat.reduceEqDiff, eq_self, not_true_eq_false, not_false_eq_true, Nat.lt_irrefl, or_true, true_or, or_false, false_or, z_cell_lt, Value.category, show (nI 0 &&& -(nI 0)) - 1 = (-1 : Int32) from by decide, c_bc1]
    rfl
  · obtain ⟨e1, e2, e3⟩ := q_low x hx c
    have hm : 2 ^ lowB x - 1 < 128 := by have := q_pow_lt e3; omega
    simp only [eX10_leastOf_0, eX10_leastOf_1, eX10_leastOf_2, eX10_leastOf_3, eX10_leastOf_4, eX10_leastOf_5, eX10_leastOf_6, eX10_leastOf_9, rX10_leastOf, zg_iand, zg_iconst, zg_iload, zg_ineg, zg_ireturn, zg_is1, zg_isub, q10, q01, q00, ite_self, zLd_i, zLd_l, zLd_a, zInc_i, zGet_o, zGet2_s, zPut_o, zAld_i, zAll_j, zAst_i, zAsl_j, zLen_i, zLen_j, zRt_i, zRt_z, zRl2_l, zRv_n, List.getElem?_cons_zero, List.getElem?_cons_succ, List.length_cons, List.length_nil, z_set, z_set2, z_cut, List.set_cons_zero, List.set_cons_succ, Option.toList_some, Option.toList_none, List.cons_append, List.nil_append, zif, zW_ite, zfit_0, zfit_1, zfit_2, zfit_3, zisc_o, zRt_c, zRt_b, List.map_cons, List.map_nil, List.sum_cons, List.sum_nil, true_and, and_true, if_true, if_false, ite_true, ite_false, Nat.reduceLT, Nat.reduceLeDiff, Nat.reduceAdd, Nat.reduceEqDiff, eq_self, not_true_eq_false, not_false_eq_true, Nat.lt_irrefl, or_true, true_or, or_false, false_or, z_cell_lt, Value.category, e1, c_bc hm, e2]
theorem c_total_same (hk : ordOK o k) (hT : toldAt h b n' rm mt nt fm vr) (hd : ordApart o k b (b + 3)) (hs : sn = vr) (hl : 0 < len) (hl2 : len < 10000) : zK (d + 1) 51 [.ref o, .ref b] (ordSet h o k len m A B C op sn tl n la, u) Q = Q (some (.long (B 1 0)), (ordSet h o k len m A B C op sn tl n la, u)) := by
  obtain ⟨k1, k2, k3⟩ := id hk
  have ho0 : o < 1000 := by omega
  have hk4 : k + 4 < 1000 := by omega
  have hb0 : b < 1000 := by have := hT.1; omega
  have g4 : ∀ A B C op sn tl n la, ordSet h o k len m A B C op sn tl n la (k + 4) = zJ len (B 1) := fun A B C op sn tl n la => ord_B (i := 1) hk (by decide)
  have hTT : toldAt (ordSet h o k len m A B C op sn tl n la) b n' rm mt nt fm vr := toldAt_ord hd hT
  have s0 := hTT.2.1
  subst hs
  have i1 : vp_in (0 : Int32) len := vp_in_nI (n := 0) hl (by omega)
  refine zK_of (k := 1) (by omega) ?_
  refine zK_in (M := MX4_total) rfl (Nat.le_of_ble_eq_true rfl) ?_
  show zW 0 MX4_total 0 ([.ref o, .ref b], [], (ordSet h o k len m A B C op sn tl n la, u)) _
  simp only [eX4_total_0, eX4_total_1, eX4_total_4, eX4_total_5, eX4_total_8, eX4_total_11, eX4_total_12, eX4_total_13, eX4_total_16, eX4_total_19, eX4_total_20, eX4_total_21, eX4_total_24, eX4_total_27, eX4_total_28, eX4_total_31, eX4_total_32, eX4_total_35, eX4_total_36, eX4_total_37, eX4_total_38, eX4_total_41, eX4_total_42, eX4_total_43, eX4_total_46, eX4_total_47, eX4_total_50, eX4_total_51, eX4_total_52, eX4_total_55, eX4_total_56, eX4_total_59, eX4_total_60, eX4_total_63, eX4_total_64, eX4_total_65, rX4_total, zg_aload, zg_getfield, zg_getstatic, zg_iaload, zg_icmp, zg_iconst, zg_isub, zg_iv0, zg_iv1, zg_laload, zg_lreturn, zg_putfield, q10, q01, q00, ite_self, zLd_i, zLd_l, zLd_a, zInc_i, zGet_o, zGet2_s, zPut_o, zAld_i, zAll_j, zAst_i, zAsl_j, zLen_i, zLen_j, zRt_i, zRt_z, zRl2_l, zRv_n, List.getElem?_cons_zero, List.getElem?_cons_succ, List.length_cons, List.length_nil, z_set, z_set2, z_cut, List.set_cons_zero, List.set_cons_succ, Option.toList_some, Option.toList_none, List.cons_append, List.nil_append, zif, zW_ite, zfit_0, zfit_1, zfit_2, zfit_3, zisc_o, zRt_c, zRt_b, List.map_cons, List.map_nil, List.sum_cons, List.sum_nil, true_and, and_true, if_true, if_false, ite_true, ite_false, Nat.reduceLT, Nat.reduceLeDiff, Nat.reduceAdd, Nat.reduceEqDiff, eq_self, not_true_eq_false, not_false_eq_true, Nat.lt_irrefl, or_true, true_or, or_false, false_or, z_cell_lt, Value.category, ord_0, g4, ho0, hb0, hk4, s0, i1, show (0 : Int32).toNatClampNeg = 0 from by decide]
end TOTAL

