/-! ORDERS: the tally -/
theorem eX4_tally_0 {d : Nat} {S : zS} {Q : zR → Prop} : zW d MX4_tally 0 S Q = zGo d MX4_tally (.aload 0) z0 1 S Q := zW_step (I := .aload_n 0) rfl S Q
theorem eX4_tally_1 {d : Nat} {S : zS} {Q : zR → Prop} : zW d MX4_tally 1 S Q = zGo d MX4_tally (.getfield 65) (zf 2 4 12) 4 S Q := zW_step (I := .getfield 65) rfl S Q
theorem eX4_tally_4 {d : Nat} {S : zS} {Q : zR → Prop} : zW d MX4_tally 4 S Q = zGo d MX4_tally (.ifCond .eq 4) (zt 8) 7 S Q := zW_step (I := .ifCond .eq 4) rfl S Q
theorem eX4_tally_7 {d : Nat} {S : zS} {Q : zR → Prop} : zW d MX4_tally 7 S Q = zGo d MX4_tally (.return_) z0 8 S Q := zW_step (I := .return_) rfl S Q
theorem eX4_tally_8 {d : Nat} {S : zS} {Q : zR → Prop} : zW d MX4_tally 8 S Q = zGo d MX4_tally (.aload 0) z0 9 S Q := zW_step (I := .aload_n 0) rfl S Q
theorem eX4_tally_9 {d : Nat} {S : zS} {Q : zR → Prop} : zW d MX4_tally 9 S Q = zGo d MX4_tally (.iconst 1) (zv (.int 1)) 10 S Q := zW_step (I := .iconst 1) rfl S Q
theorem eX4_tally_10 {d : Nat} {S : zS} {Q : zR → Prop} : zW d MX4_tally 10 S Q = zGo d MX4_tally (.putfield 65) (zf 2 4 12) 13 S Q := zW_step (I := .putfield 65) rfl S Q
theorem eX4_tally_13 {d : Nat} {S : zS} {Q : zR → Prop} : zW d MX4_tally 13 S Q = zGo d MX4_tally (.aload 0) z0 14 S Q := zW_step (I := .aload_n 0) rfl S Q
theorem eX4_tally_14 {d : Nat} {S : zS} {Q : zR → Prop} : zW d MX4_tally 14 S Q = zGo d MX4_tally (.getfield 21) (zf 3 4 3) 17 S Q := zW_step (I := .getfield 21) rfl S Q
theorem eX4_tally_17 {d : Nat} {S : zS} {Q : zR → Prop} : zW d MX4_tally 17 S Q = zGo d MX4_tally (.lconst 0) (zv (.long 0)) 18 S Q := zW_step (I := .lconst 0) rfl S Q
theorem eX4_tally_18 {d : Nat} {S : zS} {Q : zR → Prop} : zW d MX4_tally 18 S Q = zGo d MX4_tally (.invokestatic 93) (zc 304 2 0) 21 S Q := zW_step (I := .invokestatic 93) rfl S Q
theorem eX4_tally_21 {d : Nat} {S : zS} {Q : zR → Prop} : zW d MX4_tally 21 S Q = zGo d MX4_tally (.aload 0) z0 22 S Q := zW_step (I := .aload_n 0) rfl S Q
theorem eX4_tally_22 {d : Nat} {S : zS} {Q : zR → Prop} : zW d MX4_tally 22 S Q = zGo d MX4_tally (.getfield 31) (zf 3 4 6) 25 S Q := zW_step (I := .getfield 31) rfl S Q
theorem eX4_tally_25 {d : Nat} {S : zS} {Q : zR → Prop} : zW d MX4_tally 25 S Q = zGo d MX4_tally (.lconst 0) (zv (.long 0)) 26 S Q := zW_step (I := .lconst 0) rfl S Q
theorem eX4_tally_26 {d : Nat} {S : zS} {Q : zR → Prop} : zW d MX4_tally 26 S Q = zGo d MX4_tally (.invokestatic 93) (zc 304 2 0) 29 S Q := zW_step (I := .invokestatic 93) rfl S Q
theorem eX4_tally_29 {d : Nat} {S : zS} {Q : zR → Prop} : zW d MX4_tally 29 S Q = zGo d MX4_tally (.aload 0) z0 30 S Q := zW_step (I := .aload_n 0) rfl S Q
theorem eX4_tally_30 {d : Nat} {S : zS} {Q : zR → Prop} : zW d MX4_tally 30 S Q = zGo d MX4_tally (.getfield 34) (zf 3 4 7) 33 S Q := zW_step (I := .getfield 34) rfl S Q
theorem eX4_tally_33 {d : Nat} {S : zS} {Q : zR → Prop} : zW d MX4_tally 33 S Q = zGo d MX4_tally (.lconst 0) (zv (.long 0)) 34 S Q := zW_step (I := .lconst 0) rfl S Q
theorem eX4_tally_34 {d : Nat} {S : zS} {Q : zR → Prop} : zW d MX4_tally 34 S Q = zGo d MX4_tally (.invokestatic 93) (zc 304 2 0) 37 S Q := zW_step (I := .invokestatic 93) rfl S Q
theorem eX4_tally_37 {d : Nat} {S : zS} {Q : zR → Prop} : zW d MX4_tally 37 S Q = zGo d MX4_tally (.aload 0) z0 38 S Q := zW_step (I := .aload_n 0) rfl S Q
theorem eX4_tally_38 {d : Nat} {S : zS} {Q : zR → Prop} : zW d MX4_tally 38 S Q = zGo d MX4_tally (.getfield 21) (zf 3 4 3) 41 S Q := zW_step (I := .getfield 21) rfl S Q
theorem eX4_tally_41 {d : Nat} {S : zS} {Q : zR → Prop} : zW d MX4_tally 41 S Q = zGo d MX4_tally (.iconst 0) (zv (.int 0)) 42 S Q := zW_step (I := .iconst 0) rfl S Q
theorem eX4_tally_42 {d : Nat} {S : zS} {Q : zR → Prop} : zW d MX4_tally 42 S Q = zGo d MX4_tally (.aload 0) z0 43 S Q := zW_step (I := .aload_n 0) rfl S Q
theorem eX4_tally_43 {d : Nat} {S : zS} {Q : zR → Prop} : zW d MX4_tally 43 S Q = zGo d MX4_tally (.getfield 25) (zf 3 4 4) 46 S Q := zW_step (I := .getfield 25) rfl S Q
theorem eX4_tally_46 {d : Nat} {S : zS} {Q : zR → Prop} : zW d MX4_tally 46 S Q = zGo d MX4_tally (.iconst 0) (zv (.int 0)) 47 S Q := zW_step (I := .iconst 0) rfl S Q
theorem eX4_tally_47 {d : Nat} {S : zS} {Q : zR → Prop} : zW d MX4_tally 47 S Q = zGo d MX4_tally (.laload) z0 48 S Q := zW_step (I := .laload) rfl S Q
theorem eX4_tally_48 {d : Nat} {S : zS} {Q : zR → Prop} : zW d MX4_tally 48 S Q = zGo d MX4_tally (.lconst 0) (zv (.long 0)) 49 S Q := zW_step (I := .lconst 0) rfl S Q
theorem eX4_tally_49 {d : Nat} {S : zS} {Q : zR → Prop} : zW d MX4_tally 49 S Q = zGo d MX4_tally (.lcmp) z0 50 S Q := zW_step (I := .lcmp) rfl S Q
theorem eX4_tally_50 {d : Nat} {S : zS} {Q : zR → Prop} : zW d MX4_tally 50 S Q = zGo d MX4_tally (.ifCond .le 7) (zt 57) 53 S Q := zW_step (I := .ifCond .le 7) rfl S Q
theorem eX4_tally_53 {d : Nat} {S : zS} {Q : zR → Prop} : zW d MX4_tally 53 S Q = zGo d MX4_tally (.lconst 1) (zv (.long 1)) 54 S Q := zW_step (I := .lconst 1) rfl S Q
theorem eX4_tally_54 {d : Nat} {S : zS} {Q : zR → Prop} : zW d MX4_tally 54 S Q = zGo d MX4_tally (.goto 4) (zt 58) 57 S Q := zW_step (I := .goto 4) rfl S Q
theorem eX4_tally_57 {d : Nat} {S : zS} {Q : zR → Prop} : zW d MX4_tally 57 S Q = zGo d MX4_tally (.lconst 0) (zv (.long 0)) 58 S Q := zW_step (I := .lconst 0) rfl S Q
theorem eX4_tally_58 {d : Nat} {S : zS} {Q : zR → Prop} : zW d MX4_tally 58 S Q = zGo d MX4_tally (.lastore) z0 59 S Q := zW_step (I := .lastore) rfl S Q
theorem eX4_tally_59 {d : Nat} {S : zS} {Q : zR → Prop} : zW d MX4_tally 59 S Q = zGo d MX4_tally (.iconst 0) (zv (.int 0)) 60 S Q := zW_step (I := .iconst 0) rfl S Q
theorem eX4_tally_60 {d : Nat} {S : zS} {Q : zR → Prop} : zW d MX4_tally 60 S Q = zGo d MX4_tally (.istore 1) z0 61 S Q := zW_step (I := .istore_n 1) rfl S Q
theorem eX4_tally_61 {d : Nat} {S : zS} {Q : zR → Prop} : zW d MX4_tally 61 S Q = zGo d MX4_tally (.iload 1) z0 62 S Q := zW_step (I := .iload_n 1) rfl S Q
theorem eX4_tally_62 {d : Nat} {S : zS} {Q : zR → Prop} : zW d MX4_tally 62 S Q = zGo d MX4_tally (.aload 0) z0 63 S Q := zW_step (I := .aload_n 0) rfl S Q
theorem eX4_tally_63 {d : Nat} {S : zS} {Q : zR → Prop} : zW d MX4_tally 63 S Q = zGo d MX4_tally (.getfield 62) (zf 0 4 14) 66 S Q := zW_step (I := .getfield 62) rfl S Q
theorem eX4_tally_66 {d : Nat} {S : zS} {Q : zR → Prop} : zW d MX4_tally 66 S Q = zGo d MX4_tally (.if_icmp .ge 25) (zt 91) 69 S Q := zW_step (I := .if_icmp .ge 25) rfl S Q
theorem eX4_tally_69 {d : Nat} {S : zS} {Q : zR → Prop} : zW d MX4_tally 69 S Q = zGo d MX4_tally (.aload 0) z0 70 S Q := zW_step (I := .aload_n 0) rfl S Q
theorem eX4_tally_70 {d : Nat} {S : zS} {Q : zR → Prop} : zW d MX4_tally 70 S Q = zGo d MX4_tally (.getfield 21) (zf 3 4 3) 73 S Q := zW_step (I := .getfield 21) rfl S Q
theorem eX4_tally_73 {d : Nat} {S : zS} {Q : zR → Prop} : zW d MX4_tally 73 S Q = zGo d MX4_tally (.iload 1) z0 74 S Q := zW_step (I := .iload_n 1) rfl S Q
theorem eX4_tally_74 {d : Nat} {S : zS} {Q : zR → Prop} : zW d MX4_tally 74 S Q = zGo d MX4_tally (.laload) z0 75 S Q := zW_step (I := .laload) rfl S Q
theorem eX4_tally_75 {d : Nat} {S : zS} {Q : zR → Prop} : zW d MX4_tally 75 S Q = zGo d MX4_tally (.lconst 0) (zv (.long 0)) 76 S Q := zW_step (I := .lconst 0) rfl S Q
theorem eX4_tally_76 {d : Nat} {S : zS} {Q : zR → Prop} : zW d MX4_tally 76 S Q = zGo d MX4_tally (.lcmp) z0 77 S Q := zW_step (I := .lcmp) rfl S Q
theorem eX4_tally_77 {d : Nat} {S : zS} {Q : zR → Prop} : zW d MX4_tally 77 S Q = zGo d MX4_tally (.ifCond .le 8) (zt 85) 80 S Q := zW_step (I := .ifCond .le 8) rfl S Q
theorem eX4_tally_80 {d : Nat} {S : zS} {Q : zR → Prop} : zW d MX4_tally 80 S Q = zGo d MX4_tally (.aload 0) z0 81 S Q := zW_step (I := .aload_n 0) rfl S Q
theorem eX4_tally_81 {d : Nat} {S : zS} {Q : zR → Prop} : zW d MX4_tally 81 S Q = zGo d MX4_tally (.iload 1) z0 82 S Q := zW_step (I := .iload_n 1) rfl S Q
theorem eX4_tally_82 {d : Nat} {S : zS} {Q : zR → Prop} : zW d MX4_tally 82 S Q = zGo d MX4_tally (.invokevirtual 99) (zc 56 2 4) 85 S Q := zW_step (I := .invokevirtual 99) rfl S Q
theorem eX4_tally_85 {d : Nat} {S : zS} {Q : zR → Prop} : zW d MX4_tally 85 S Q = zGo d MX4_tally (.iinc 1 1) (zv (.int 1)) 88 S Q := zW_step (I := .iinc 1 1) rfl S Q
theorem eX4_tally_88 {d : Nat} {S : zS} {Q : zR → Prop} : zW d MX4_tally 88 S Q = zGo d MX4_tally (.goto (-27)) (zt 61) 91 S Q := zW_step (I := .goto (-27)) rfl S Q
theorem eX4_tally_91 {d : Nat} {S : zS} {Q : zR → Prop} : zW d MX4_tally 91 S Q = zGo d MX4_tally (.return_) z0 92 S Q := zW_step (I := .return_) rfl S Q
theorem rX4_tally : MX4_tally.2.2.2.2.1 = none := rfl
def tlL (A : Nat → Nat → Nat) (bh : Nat → Int64) (n : Nat) (q : tT) : Nat → tT
  | 0 => q
  | s + 1 => if 0 < (tlL A bh n q s).1 s then tsS bh s (A 0 s) (A 0 s ||| A 1 s) (A 2 s) ((tlL A bh n q s).1 s) (tlL A bh n q s) n else tlL A bh n q s
section TALLY2
variable {h h' : Nat → zE} {o k len m n la : Nat} {A : Nat → Nat → Nat} {B : Nat → Nat → Int64} {C : Nat → Nat → Nat} {op : Nat → Int32} {sn : Int32} {tl : Bool} {d : Nat} {u : zU} {Q : zR → Prop}
theorem w_tl (hk : ordOK o k) (hn : n ≤ 7) (hlen : len < 10000) (hla : la < len) (hm : 128 * n ≤ m) (hm2 : m < 10000) {q : tT} (hi0 : ∀ s, A 0 s < 128) (hi1 : ∀ s, A 1 s < 128) (hus : ∀ s, s < la → A 2 s < 128) (hb : ∀ s, s < la → ∀ i, i < n → (A 2 s).testBit i = true → s + 3 ^ i < len) : ∀ j t, la - t = j → t ≤ la → zW (d + 1) MX4_tally 61 ([.ref o, .int (nI t)], [], (ordSet h o k len m A (b3 (tlL A (B 1) n q t).1 (tlL A (B 1) n q t).2.1 (tlL A (B 1) n q t).2.2 B) C op sn tl n la, u)) (fun z => z = (none, (ordSet h o k len m A (b3 (tlL A (B 1) n q la).1 (tlL A (B 1) n q la).2.1 (tlL A (B 1) n q la).2.2 B) C op sn tl n la, u))) := by
  obtain ⟨k1, k2, k3⟩ := id hk
  have ho0 : o < 1000 := by omega
  have hk3 : k + 3 < 1000 := by omega
  have g3 : ∀ x y z, ordSet h o k len m A (b3 x y z B) C op sn tl n la (k + 3) = zJ len x := fun x y z => ord_B (B := b3 x y z B) (i := 0) hk (by decide)
  intro j
  induction j with
  | zero =>
    intro t ht hle
    have e : t = la := by omega
    subst e
    rw [eX4_tally_61]
    simp only [eX4_tally_0, eX4_tally_1, eX4_tally_4, eX4_tally_7, eX4_tally_8, eX4_tally_9, eX4_tally_10, eX4_tally_13, eX4_tally_14, eX4_tally_17, eX4_tally_18, eX4_tally_21, eX4_tally_22, eX4_tally_25, eX4_tally_26, eX4_tally_29, eX4_tally_30, eX4_tally_33, eX4_tally_34, eX4_tally_37, eX4_tally_38, eX4_tally_41, eX4_tally_42, eX4_tally_43, eX4_tally_46, eX4_tally_47, eX4_tally_48, eX4_tally_49, eX4_tally_50, eX4_tally_53, eX4_tally_54, eX4_tally_57, eX4_tally_58, eX4_tally_59, eX4_tally_60, eX4_tally_62, eX4_tally_63, eX4_tally_66, eX4_tally_69, eX4_tally_70, eX4_tally_73, eX4_tally_74, eX4_tally_75, eX4_tally_76, eX4_tally_77, eX4_tally_80, eX4_tally_81, eX4_tally_82, eX4_tally_85, eX4_tally_88, eX4_tally_91, rX4_tally, zg_aload, zg_getfield, zg_goto, zg_icmp, zg_iconst, zg_if, zg_iinc, zg_iload, zg_is2, zg_istore, zg_iv1, zg_laload, zg_lastore, zg_lcmp, zg_lconst, zg_putfield, zg_return, q10, q01, q00, ite_self, zLd_i, zLd_l, zLd_a, zInc_i, zGet_o, zGet2_s, zPut_o, zAld_i, zAll_j, zAst_i, zAsl_j, zLen_i, zLen_j, zRt_i, zRt_z, zRl2_l, zRv_n, List.getElem?_cons_zero, List.getElem?_cons_succ, List.length_cons, List.length_nil, z_set, z_set2, z_cut, List.set_cons_zero, List.set_cons_succ, Option.toList_some, Option.toList_none, List.cons_append, List.nil_append, zif, zW_ite, zfit_0, zfit_1, zfit_2, zfit_3, zisc_o, zRt_c, zRt_b, List.map_cons, List.map_nil, List.sum_cons, List.sum_nil, true_and, and_true, if_true, if_false, ite_true, ite_false, Nat.reduceLT, Nat.reduceLeDiff, Nat.reduceAdd, Nat.reduceEqDiff, eq_self, not_true_eq_false, not_false_eq_true, Nat.lt_irrefl, or_true, true_or, or_false, false_or, z_cell_lt, Value.category, ord_0, ho0, Int32.lt_irrefl]
  | succ j ih =>
    intro t ht hle
    have ih := ih (t + 1) (by omega) (by omega)
    have c1 : nI t < nI la := nI_lt (show t < la by omega) (by omega)
    have i1 : vp_in (nI t) len := vp_in_nI (by omega) (by omega)
    have i2 : (nI t).toNatClampNeg = t := nI_clamp (by omega)
    rw [show tlL A (B 1) n q (t + 1) = if 0 < (tlL A (B 1) n q t).1 t then tsS (B 1) t (A 0 t) (A 0 t ||| A 1 t) (A 2 t) ((tlL A (B 1) n q t).1 t) (tlL A (B 1) n q t) n else tlL A (B 1) n q t from rfl] at ih
    rw [eX4_tally_61]
    by_cases c2 : 0 < (tlL A (B 1) n q t).1 t
    · rw [if_pos c2] at ih
      simp only [eX4_tally_0, eX4_tally_1, eX4_tally_4, eX4_tally_7, eX4_tally_8, eX4_tally_9, eX4_tally_10, eX4_tally_13, eX4_tally_14, eX4_tally_17, eX4_tally_18, eX4_tally_21, eX4_tally_22, eX4_tally_25, eX4_tally_26, eX4_tally_29, eX4_tally_30, eX4_tally_33, eX4_tally_34, eX4_tally_37, eX4_tally_38, eX4_tally_41, eX4_tally_42, eX4_tally_43, eX4_tally_46, eX4_tally_47, eX4_tally_48, eX4_tally_49, eX4_tally_50, eX4_tally_53, eX4_tally_54, eX4_tally_57, eX4_tally_58, eX4_tally_59, eX4_tally_60, eX4_tally_62, eX4_tally_63, eX4_tally_66, eX4_tally_69, eX4_tally_70, eX4_tally_73, eX4_tally_74, eX4_tally_75, eX4_tally_76, eX4_tally_77, eX4_tally_80, eX4_tally_81, eX4_tally_82, eX4_tally_85, eX4_tally_88, eX4_tally_91, rX4_tally, zg_aload, zg_getfield, zg_goto, zg_icmp, zg_iconst, zg_if, zg_iinc, zg_iload, zg_is2, zg_istore, zg_iv1, zg_laload, zg_lastore, zg_lcmp, zg_lconst, zg_putfield, zg_return, q10, q01, q00, ite_self, zLd_i, zLd_l, zLd_a, zInc_i, zGet_o, zGet2_s, zPut_o, zAld_i, zAll_j, zAst_i, zAsl_j, zLen_i, zLen_j, zRt_i, zRt_z, zRl2_l, zRv_n, List.getElem?_cons_zero, List.getElem?_cons_succ, List.length_cons, List.length_nil, z_set, z_set2, z_cut, List.set_cons_zero, List.set_cons_succ, Option.toList_some, Option.toList_none, List.cons_append, List.nil_append, zif, zW_ite, zfit_0, zfit_1, zfit_2, zfit_3, zisc_o, zRt_c, zRt_b, List.map_cons, List.map_nil, List.sum_cons, List.sum_nil, true_and, and_true, if_true, if_false, ite_true, ite_false, Nat.reduceLT, Nat.reduceLeDiff, Nat.reduceAdd, Nat.reduceEqDiff, eq_self, not_true_eq_false, not_false_eq_true, Nat.lt_irrefl, or_true, true_or, or_false, false_or, z_cell_lt, Value.category, ord_0, g3, ho0, hk3, c1, i1, i2, lg_pos, c2, c_ts hk hn hlen hm hm2 (show t < len by omega) (hi0 t) (hi1 t) (hus t (by omega)) (hb t (by omega)), nI_1]
      exact ih
    · rw [if_neg c2] at ih
      simp only [eX4_tally_0, eX4_tally_1, eX4_tally_4, eX4_tally_7, eX4_tally_8, eX4_tally_9, eX4_tally_10, eX4_tally_13, eX4_tally_14, eX4_tally_17, eX4_tally_18, eX4_tally_21, eX4_tally_22, eX4_tally_25, eX4_tally_26, eX4_tally_29, eX4_tally_30, eX4_tally_33, eX4_tally_34, eX4_tally_37, eX4_tally_38, eX4_tally_41, eX4_tally_42, eX4_tally_43, eX4_tally_46, eX4_tally_47, eX4_tally_48, eX4_tally_49, eX4_tally_50, eX4_tally_53, eX4_tally_54, eX4_tally_57, eX4_tally_58, eX4_tally_59, eX4_tally_60, eX4_tally_62, eX4_tally_63, eX4_tally_66, eX4_tally_69, eX4_tally_70, eX4_tally_73, eX4_tally_74, eX4_tally_75, eX4_tally_76, eX4_tally_77, eX4_tally_80, eX4_tally_81, eX4_tally_82, eX4_tally_85, eX4_tally_88, eX4_tally_91, rX4_tally, zg_aload, zg_getfield, zg_goto, zg_icmp, zg_iconst, zg_if, zg_iinc, zg_iload, zg_is2, zg_istore, zg_iv1, zg_laload, zg_lastore, zg_lcmp, zg_lconst, zg_putfield, zg_return, q10, q01, q00, ite_self, zLd_i, zLd_l, zLd_a, zInc_i, zGet_o, zGet2_s, zPut_o, zAld_i, zAll_j, zAst_i, zAsl_j, zLen_i, zLen_j, zRt_i, zRt_z, zRl2_l, zRv_n, List.getElem?_cons_zero, List.getElem?_cons_succ, List.length_cons, List.length_nil, z_set, z_set2, z_cut, List.set_cons_zero, List.set_cons_succ, Option.toList_some, Option.toList_none, List.cons_append, List.nil_append, zif, zW_ite, zfit_0, zfit_1, zfit_2, zfit_3, zisc_o, zRt_c, zRt_b, List.map_cons, List.map_nil, List.sum_cons, List.sum_nil, true_and, and_true, if_true, if_false, ite_true, ite_false, Nat.reduceLT, Nat.reduceLeDiff, Nat.reduceAdd, Nat.reduceEqDiff, eq_self, not_true_eq_false, not_false_eq_true, Nat.lt_irrefl, or_true, true_or, or_false, false_or, z_cell_lt, Value.category, ord_0, g3, ho0, hk3, c1, i1, i2, lg_pos, c2, nI_1]
      exact ih
theorem c_tally_no (hk : ordOK o k) : zK (d + 1) 55 [.ref o] (ordSet h o k len m A B C op sn true n la, u) Q = Q (none, (ordSet h o k len m A B C op sn true n la, u)) := by
  have ho0 : o < 1000 := by have := hk.1; omega
  refine zK_of (k := 1) (by omega) ?_
  refine zK_in (M := MX4_tally) rfl (Nat.le_of_ble_eq_true rfl) ?_
  show zW 0 MX4_tally 0 ([.ref o, .null], [], (ordSet h o k len m A B C op sn true n la, u)) _
  simp only [eX4_tally_0, eX4_tally_1, eX4_tally_4, eX4_tally_7, eX4_tally_9, eX4_tally_10, eX4_tally_13, eX4_tally_14, eX4_tally_17, eX4_tally_18, eX4_tally_21, eX4_tally_22, eX4_tally_25, eX4_tally_26, eX4_tally_29, eX4_tally_30, eX4_tally_33, eX4_tally_34, eX4_tally_37, eX4_tally_38, eX4_tally_41, eX4_tally_42, eX4_tally_43, eX4_tally_46, eX4_tally_47, eX4_tally_48, eX4_tally_49, eX4_tally_50, eX4_tally_53, eX4_tally_54, eX4_tally_57, eX4_tally_58, eX4_tally_59, eX4_tally_60, eX4_tally_62, eX4_tally_63, eX4_tally_66, eX4_tally_69, eX4_tally_70, eX4_tally_73, eX4_tally_74, eX4_tally_75, eX4_tally_76, eX4_tally_77, eX4_tally_80, eX4_tally_81, eX4_tally_82, eX4_tally_85, eX4_tally_88, eX4_tally_91, rX4_tally, zg_aload, zg_getfield, zg_goto, zg_icmp, zg_iconst, zg_if, zg_iinc, zg_iload, zg_is2, zg_istore, zg_iv1, zg_laload, zg_lastore, zg_lcmp, zg_lconst, zg_putfield, zg_return, q10, q01, q00, ite_self, zLd_i, zLd_l, zLd_a, zInc_i, zGet_o, zGet2_s, zPut_o, zAld_i, zAll_j, zAst_i, zAsl_j, zLen_i, zLen_j, zRt_i, zRt_z, zRl2_l, zRv_n, List.getElem?_cons_zero, List.getElem?_cons_succ, List.length_cons, List.length_nil, z_set, z_set2, z_cut, List.set_cons_zero, List.set_cons_succ, Option.toList_some, Option.toList_none, List.cons_append, List.nil_append, zif, zW_ite, zfit_0, zfit_1, zfit_2, zfit_3, zisc_o, zRt_c, zRt_b, List.map_cons, List.map_nil, List.sum_cons, List.sum_nil, true_and, and_true, if_true, if_false, ite_true, ite_false, Nat.reduceLT, Nat.reduceLeDiff, Nat.reduceAdd, Nat.reduceEqDiff, eq_self, not_true_eq_false, not_false_eq_true, Nat.lt_irrefl, or_true, true_or, or_false, false_or, z_cell_lt, Value.category, ord_0, ho0, b01_t]
end TALLY2

