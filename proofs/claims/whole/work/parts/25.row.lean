/-! the ROW -/
theorem eX6_clear_0 {d : Nat} {S : zS} {Q : zR → Prop} : zW d MX6_clear 0 S Q = zGo d MX6_clear (.aload 0) z0 1 S Q := zW_step (I := .aload_n 0) rfl S Q
theorem eX6_clear_1 {d : Nat} {S : zS} {Q : zR → Prop} : zW d MX6_clear 1 S Q = zGo d MX6_clear (.iconst 0) (zv (.int 0)) 2 S Q := zW_step (I := .iconst 0) rfl S Q
theorem eX6_clear_2 {d : Nat} {S : zS} {Q : zR → Prop} : zW d MX6_clear 2 S Q = zGo d MX6_clear (.putfield 15) (zf 0 6 1) 5 S Q := zW_step (I := .putfield 15) rfl S Q
theorem eX6_clear_5 {d : Nat} {S : zS} {Q : zR → Prop} : zW d MX6_clear 5 S Q = zGo d MX6_clear (.return_) z0 6 S Q := zW_step (I := .return_) rfl S Q
theorem rX6_clear : MX6_clear.2.2.2.2.1 = none := rfl
theorem eX6_add_0 {d : Nat} {S : zS} {Q : zR → Prop} : zW d MX6_add 0 S Q = zGo d MX6_add (.aload 0) z0 1 S Q := zW_step (I := .aload_n 0) rfl S Q
theorem eX6_add_1 {d : Nat} {S : zS} {Q : zR → Prop} : zW d MX6_add 1 S Q = zGo d MX6_add (.getfield 15) (zf 0 6 1) 4 S Q := zW_step (I := .getfield 15) rfl S Q
theorem eX6_add_4 {d : Nat} {S : zS} {Q : zR → Prop} : zW d MX6_add 4 S Q = zGo d MX6_add (.aload 0) z0 5 S Q := zW_step (I := .aload_n 0) rfl S Q
theorem eX6_add_5 {d : Nat} {S : zS} {Q : zR → Prop} : zW d MX6_add 5 S Q = zGo d MX6_add (.getfield 9) (zf 3 6 0) 8 S Q := zW_step (I := .getfield 9) rfl S Q
theorem eX6_add_8 {d : Nat} {S : zS} {Q : zR → Prop} : zW d MX6_add 8 S Q = zGo d MX6_add (.arraylength) z0 9 S Q := zW_step (I := .arraylength) rfl S Q
theorem eX6_add_9 {d : Nat} {S : zS} {Q : zR → Prop} : zW d MX6_add 9 S Q = zGo d MX6_add (.if_icmp .ge 23) (zt 32) 12 S Q := zW_step (I := .if_icmp .ge 23) rfl S Q
theorem eX6_add_12 {d : Nat} {S : zS} {Q : zR → Prop} : zW d MX6_add 12 S Q = zGo d MX6_add (.aload 0) z0 13 S Q := zW_step (I := .aload_n 0) rfl S Q
theorem eX6_add_13 {d : Nat} {S : zS} {Q : zR → Prop} : zW d MX6_add 13 S Q = zGo d MX6_add (.getfield 9) (zf 3 6 0) 16 S Q := zW_step (I := .getfield 9) rfl S Q
theorem eX6_add_16 {d : Nat} {S : zS} {Q : zR → Prop} : zW d MX6_add 16 S Q = zGo d MX6_add (.aload 0) z0 17 S Q := zW_step (I := .aload_n 0) rfl S Q
theorem eX6_add_17 {d : Nat} {S : zS} {Q : zR → Prop} : zW d MX6_add 17 S Q = zGo d MX6_add (.getfield 15) (zf 0 6 1) 20 S Q := zW_step (I := .getfield 15) rfl S Q
theorem eX6_add_20 {d : Nat} {S : zS} {Q : zR → Prop} : zW d MX6_add 20 S Q = zGo d MX6_add (.lload 1) z0 21 S Q := zW_step (I := .lload_n 1) rfl S Q
theorem eX6_add_21 {d : Nat} {S : zS} {Q : zR → Prop} : zW d MX6_add 21 S Q = zGo d MX6_add (.lastore) z0 22 S Q := zW_step (I := .lastore) rfl S Q
theorem eX6_add_22 {d : Nat} {S : zS} {Q : zR → Prop} : zW d MX6_add 22 S Q = zGo d MX6_add (.aload 0) z0 23 S Q := zW_step (I := .aload_n 0) rfl S Q
theorem eX6_add_23 {d : Nat} {S : zS} {Q : zR → Prop} : zW d MX6_add 23 S Q = zGo d MX6_add (.dup) z0 24 S Q := zW_step (I := .dup) rfl S Q
theorem eX6_add_24 {d : Nat} {S : zS} {Q : zR → Prop} : zW d MX6_add 24 S Q = zGo d MX6_add (.getfield 15) (zf 0 6 1) 27 S Q := zW_step (I := .getfield 15) rfl S Q
theorem eX6_add_27 {d : Nat} {S : zS} {Q : zR → Prop} : zW d MX6_add 27 S Q = zGo d MX6_add (.iconst 1) (zv (.int 1)) 28 S Q := zW_step (I := .iconst 1) rfl S Q
theorem eX6_add_28 {d : Nat} {S : zS} {Q : zR → Prop} : zW d MX6_add 28 S Q = zGo d MX6_add (.iadd) z0 29 S Q := zW_step (I := .iadd) rfl S Q
theorem eX6_add_29 {d : Nat} {S : zS} {Q : zR → Prop} : zW d MX6_add 29 S Q = zGo d MX6_add (.putfield 15) (zf 0 6 1) 32 S Q := zW_step (I := .putfield 15) rfl S Q
theorem eX6_add_32 {d : Nat} {S : zS} {Q : zR → Prop} : zW d MX6_add 32 S Q = zGo d MX6_add (.return_) z0 33 S Q := zW_step (I := .return_) rfl S Q
theorem rX6_add : MX6_add.2.2.2.2.1 = none := rfl
theorem eX6_addFraction_0 {d : Nat} {S : zS} {Q : zR → Prop} : zW d MX6_addFraction 0 S Q = zGo d MX6_addFraction (.lload 1) z0 1 S Q := zW_step (I := .lload_n 1) rfl S Q
theorem eX6_addFraction_1 {d : Nat} {S : zS} {Q : zR → Prop} : zW d MX6_addFraction 1 S Q = zGo d MX6_addFraction (.lload 3) z0 2 S Q := zW_step (I := .lload_n 3) rfl S Q
theorem eX6_addFraction_2 {d : Nat} {S : zS} {Q : zR → Prop} : zW d MX6_addFraction 2 S Q = zGo d MX6_addFraction (.invokestatic 19) (zc 81 2 0) 5 S Q := zW_step (I := .invokestatic 19) rfl S Q
theorem eX6_addFraction_5 {d : Nat} {S : zS} {Q : zR → Prop} : zW d MX6_addFraction 5 S Q = zGo d MX6_addFraction (.lstore 5) z0 7 S Q := zW_step (I := .lstore 5) rfl S Q
theorem eX6_addFraction_7 {d : Nat} {S : zS} {Q : zR → Prop} : zW d MX6_addFraction 7 S Q = zGo d MX6_addFraction (.lload 5) z0 9 S Q := zW_step (I := .lload 5) rfl S Q
theorem eX6_addFraction_9 {d : Nat} {S : zS} {Q : zR → Prop} : zW d MX6_addFraction 9 S Q = zGo d MX6_addFraction (.lconst 0) (zv (.long 0)) 10 S Q := zW_step (I := .lconst 0) rfl S Q
theorem eX6_addFraction_10 {d : Nat} {S : zS} {Q : zR → Prop} : zW d MX6_addFraction 10 S Q = zGo d MX6_addFraction (.lcmp) z0 11 S Q := zW_step (I := .lcmp) rfl S Q
theorem eX6_addFraction_11 {d : Nat} {S : zS} {Q : zR → Prop} : zW d MX6_addFraction 11 S Q = zGo d MX6_addFraction (.ifCond .le 19) (zt 30) 14 S Q := zW_step (I := .ifCond .le 19) rfl S Q
theorem eX6_addFraction_14 {d : Nat} {S : zS} {Q : zR → Prop} : zW d MX6_addFraction 14 S Q = zGo d MX6_addFraction (.aload 0) z0 15 S Q := zW_step (I := .aload_n 0) rfl S Q
theorem eX6_addFraction_15 {d : Nat} {S : zS} {Q : zR → Prop} : zW d MX6_addFraction 15 S Q = zGo d MX6_addFraction (.lload 1) z0 16 S Q := zW_step (I := .lload_n 1) rfl S Q
theorem eX6_addFraction_16 {d : Nat} {S : zS} {Q : zR → Prop} : zW d MX6_addFraction 16 S Q = zGo d MX6_addFraction (.lload 5) z0 18 S Q := zW_step (I := .lload 5) rfl S Q
theorem eX6_addFraction_18 {d : Nat} {S : zS} {Q : zR → Prop} : zW d MX6_addFraction 18 S Q = zGo d MX6_addFraction (.ldiv) z0 19 S Q := zW_step (I := .ldiv) rfl S Q
theorem eX6_addFraction_19 {d : Nat} {S : zS} {Q : zR → Prop} : zW d MX6_addFraction 19 S Q = zGo d MX6_addFraction (.invokevirtual 23) (zc 79 2 6) 22 S Q := zW_step (I := .invokevirtual 23) rfl S Q
theorem eX6_addFraction_22 {d : Nat} {S : zS} {Q : zR → Prop} : zW d MX6_addFraction 22 S Q = zGo d MX6_addFraction (.aload 0) z0 23 S Q := zW_step (I := .aload_n 0) rfl S Q
theorem eX6_addFraction_23 {d : Nat} {S : zS} {Q : zR → Prop} : zW d MX6_addFraction 23 S Q = zGo d MX6_addFraction (.lload 3) z0 24 S Q := zW_step (I := .lload_n 3) rfl S Q
theorem eX6_addFraction_24 {d : Nat} {S : zS} {Q : zR → Prop} : zW d MX6_addFraction 24 S Q = zGo d MX6_addFraction (.lload 5) z0 26 S Q := zW_step (I := .lload 5) rfl S Q
theorem eX6_addFraction_26 {d : Nat} {S : zS} {Q : zR → Prop} : zW d MX6_addFraction 26 S Q = zGo d MX6_addFraction (.ldiv) z0 27 S Q := zW_step (I := .ldiv) rfl S Q
theorem eX6_addFraction_27 {d : Nat} {S : zS} {Q : zR → Prop} : zW d MX6_addFraction 27 S Q = zGo d MX6_addFraction (.invokevirtual 23) (zc 79 2 6) 30 S Q := zW_step (I := .invokevirtual 23) rfl S Q
theorem eX6_addFraction_30 {d : Nat} {S : zS} {Q : zR → Prop} : zW d MX6_addFraction 30 S Q = zGo d MX6_addFraction (.return_) z0 31 S Q := zW_step (I := .return_) rfl S Q
theorem rX6_addFraction : MX6_addFraction.2.2.2.2.1 = none := rfl
theorem eX6_commonDivisor_0 {d : Nat} {S : zS} {Q : zR → Prop} : zW d MX6_commonDivisor 0 S Q = zGo d MX6_commonDivisor (.lload 2) z0 1 S Q := zW_step (I := .lload_n 2) rfl S Q
theorem eX6_commonDivisor_1 {d : Nat} {S : zS} {Q : zR → Prop} : zW d MX6_commonDivisor 1 S Q = zGo d MX6_commonDivisor (.lstore 4) z0 3 S Q := zW_step (I := .lstore 4) rfl S Q
theorem eX6_commonDivisor_3 {d : Nat} {S : zS} {Q : zR → Prop} : zW d MX6_commonDivisor 3 S Q = zGo d MX6_commonDivisor (.lload 0) z0 4 S Q := zW_step (I := .lload_n 0) rfl S Q
theorem eX6_commonDivisor_4 {d : Nat} {S : zS} {Q : zR → Prop} : zW d MX6_commonDivisor 4 S Q = zGo d MX6_commonDivisor (.lstore 6) z0 6 S Q := zW_step (I := .lstore 6) rfl S Q
theorem eX6_commonDivisor_6 {d : Nat} {S : zS} {Q : zR → Prop} : zW d MX6_commonDivisor 6 S Q = zGo d MX6_commonDivisor (.iconst 0) (zv (.int 0)) 7 S Q := zW_step (I := .iconst 0) rfl S Q
theorem eX6_commonDivisor_7 {d : Nat} {S : zS} {Q : zR → Prop} : zW d MX6_commonDivisor 7 S Q = zGo d MX6_commonDivisor (.istore 8) z0 9 S Q := zW_step (I := .istore 8) rfl S Q
theorem eX6_commonDivisor_9 {d : Nat} {S : zS} {Q : zR → Prop} : zW d MX6_commonDivisor 9 S Q = zGo d MX6_commonDivisor (.iload 8) z0 11 S Q := zW_step (I := .iload 8) rfl S Q
theorem eX6_commonDivisor_11 {d : Nat} {S : zS} {Q : zR → Prop} : zW d MX6_commonDivisor 11 S Q = zGo d MX6_commonDivisor (.bipush 100) (zv (.int 100)) 13 S Q := zW_step (I := .bipush 100) rfl S Q
theorem eX6_commonDivisor_13 {d : Nat} {S : zS} {Q : zR → Prop} : zW d MX6_commonDivisor 13 S Q = zGo d MX6_commonDivisor (.if_icmp .ge 31) (zt 44) 16 S Q := zW_step (I := .if_icmp .ge 31) rfl S Q
theorem eX6_commonDivisor_16 {d : Nat} {S : zS} {Q : zR → Prop} : zW d MX6_commonDivisor 16 S Q = zGo d MX6_commonDivisor (.lload 6) z0 18 S Q := zW_step (I := .lload 6) rfl S Q
theorem eX6_commonDivisor_18 {d : Nat} {S : zS} {Q : zR → Prop} : zW d MX6_commonDivisor 18 S Q = zGo d MX6_commonDivisor (.lconst 0) (zv (.long 0)) 19 S Q := zW_step (I := .lconst 0) rfl S Q
theorem eX6_commonDivisor_19 {d : Nat} {S : zS} {Q : zR → Prop} : zW d MX6_commonDivisor 19 S Q = zGo d MX6_commonDivisor (.lcmp) z0 20 S Q := zW_step (I := .lcmp) rfl S Q
theorem eX6_commonDivisor_20 {d : Nat} {S : zS} {Q : zR → Prop} : zW d MX6_commonDivisor 20 S Q = zGo d MX6_commonDivisor (.ifCond .eq 24) (zt 44) 23 S Q := zW_step (I := .ifCond .eq 24) rfl S Q
theorem eX6_commonDivisor_23 {d : Nat} {S : zS} {Q : zR → Prop} : zW d MX6_commonDivisor 23 S Q = zGo d MX6_commonDivisor (.lload 4) z0 25 S Q := zW_step (I := .lload 4) rfl S Q
theorem eX6_commonDivisor_25 {d : Nat} {S : zS} {Q : zR → Prop} : zW d MX6_commonDivisor 25 S Q = zGo d MX6_commonDivisor (.lload 6) z0 27 S Q := zW_step (I := .lload 6) rfl S Q
theorem eX6_commonDivisor_27 {d : Nat} {S : zS} {Q : zR → Prop} : zW d MX6_commonDivisor 27 S Q = zGo d MX6_commonDivisor (.lrem) z0 28 S Q := zW_step (I := .lrem) rfl S Q
theorem eX6_commonDivisor_28 {d : Nat} {S : zS} {Q : zR → Prop} : zW d MX6_commonDivisor 28 S Q = zGo d MX6_commonDivisor (.lstore 9) z0 30 S Q := zW_step (I := .lstore 9) rfl S Q
theorem eX6_commonDivisor_30 {d : Nat} {S : zS} {Q : zR → Prop} : zW d MX6_commonDivisor 30 S Q = zGo d MX6_commonDivisor (.lload 6) z0 32 S Q := zW_step (I := .lload 6) rfl S Q
theorem eX6_commonDivisor_32 {d : Nat} {S : zS} {Q : zR → Prop} : zW d MX6_commonDivisor 32 S Q = zGo d MX6_commonDivisor (.lstore 4) z0 34 S Q := zW_step (I := .lstore 4) rfl S Q
theorem eX6_commonDivisor_34 {d : Nat} {S : zS} {Q : zR → Prop} : zW d MX6_commonDivisor 34 S Q = zGo d MX6_commonDivisor (.lload 9) z0 36 S Q := zW_step (I := .lload 9) rfl S Q
theorem eX6_commonDivisor_36 {d : Nat} {S : zS} {Q : zR → Prop} : zW d MX6_commonDivisor 36 S Q = zGo d MX6_commonDivisor (.lstore 6) z0 38 S Q := zW_step (I := .lstore 6) rfl S Q
theorem eX6_commonDivisor_38 {d : Nat} {S : zS} {Q : zR → Prop} : zW d MX6_commonDivisor 38 S Q = zGo d MX6_commonDivisor (.iinc 8 1) (zv (.int 1)) 41 S Q := zW_step (I := .iinc 8 1) rfl S Q
theorem eX6_commonDivisor_41 {d : Nat} {S : zS} {Q : zR → Prop} : zW d MX6_commonDivisor 41 S Q = zGo d MX6_commonDivisor (.goto (-32)) (zt 9) 44 S Q := zW_step (I := .goto (-32)) rfl S Q
theorem eX6_commonDivisor_44 {d : Nat} {S : zS} {Q : zR → Prop} : zW d MX6_commonDivisor 44 S Q = zGo d MX6_commonDivisor (.lload 4) z0 46 S Q := zW_step (I := .lload 4) rfl S Q
theorem eX6_commonDivisor_46 {d : Nat} {S : zS} {Q : zR → Prop} : zW d MX6_commonDivisor 46 S Q = zGo d MX6_commonDivisor (.lreturn) z0 47 S Q := zW_step (I := .lreturn) rfl S Q
theorem rX6_commonDivisor : MX6_commonDivisor.2.2.2.2.1 = some .long := rfl
def rowAt (h : Nat → zE) (c k : Nat) (f : Nat → Int64) : Prop := c + 1 < 1000 ∧ k ≤ 14 ∧ h c = zO 6 [.ref (c + 1), .int (nI k)] ∧ h (c + 1) = zJ 14 f
def rowSet (h : Nat → zE) (c k : Nat) (f : Nat → Int64) : Nat → zE := fun j => if j = c then zO 6 [.ref (c + 1), .int (nI k)] else if j = c + 1 then zJ 14 f else h j
section ROW
variable {h h' : Nat → zE} {c k k' : Nat} {f f' : Nat → Int64} {d : Nat} {u : zU} {H : zH} {Q : zR → Prop}
theorem rowSet_at (hc : c + 1 < 1000) (hk : k ≤ 14) : rowAt (rowSet h c k f) c k f := by
  refine ⟨hc, hk, ?_, ?_⟩ <;> simp [rowSet]
theorem rowSet_out {j : Nat} (hj : j < c ∨ c + 1 < j) : rowSet h c k f j = h j := by
  unfold rowSet
  rw [if_neg (by omega), if_neg (by omega)]
theorem rowSet_of (ho : ∀ j, j < c ∨ c + 1 < j → h' j = h j) (h0 : h' c = zO 6 [.ref (c + 1), .int (nI k)]) (h1 : h' (c + 1) = zJ 14 f) : h' = rowSet h c k f := by
  funext j
  unfold rowSet
  by_cases c0 : j = c
  · rw [if_pos c0, c0, h0]
  · rw [if_neg c0]
    by_cases c1 : j = c + 1
    · rw [if_pos c1, c1, h1]
    · rw [if_neg c1]
      exact ho j (by omega)
theorem rowSet_self (hR : rowAt h c k f) : rowSet h c k f = h := (rowSet_of (fun _ _ => rfl) hR.2.2.1 hR.2.2.2).symm
theorem rowSet_set : rowSet (rowSet h c k f) c k' f' = rowSet h c k' f' := by
  funext j
  unfold rowSet
  by_cases c0 : j = c
  · simp [c0]
  · by_cases c1 : j = c + 1
    · simp [c1]
    · simp [c0, c1]
theorem c_rclear (hR : rowAt h c k f) : zK (d + 1) 78 [.ref c] (h, u) Q = Q (none, (rowSet h c 0 f, u)) := by
  obtain ⟨hc, hk, h0, h1⟩ := id hR
  have hc0 : c < 1000 := by omega
  have key : z_up h c (zO 6 [.ref (c + 1), .int 0]) = rowSet h c 0 f := by
    apply rowSet_of
    · intro j hj; rw [z_up_n _ _ (by omega)]
    · rw [z_up_s]; rfl
    · rw [z_up_n _ _ (by omega)]; exact h1
  refine zK_of (k := 1) (by omega) ?_
  refine zK_in (M := MX6_clear) rfl (Nat.le_of_ble_eq_true rfl) ?_
  show zW 0 MX6_clear 0 ([.ref c], [], (h, u)) _
  simp only [eX6_clear_0, eX6_clear_1, eX6_clear_2, eX6_clear_5, rX6_clear, zg_aload, zg_iconst, zg_putfield, zg_return, q10, q01, q00, ite_self, zLd_i, zLd_l, zLd_a, zInc_i, zGet_o, zGet2_s, zPut_o, zAld_i, zAll_j, zAst_i, zAsl_j, zLen_i, zLen_j, zRt_i, zRt_z, zRl2_l, zRv_n, List.getElem?_cons_zero, List.getElem?_cons_succ, List.length_cons, List.length_nil, z_set, z_set2, z_cut, List.set_cons_zero, List.set_cons_succ, Option.toList_some, Option.toList_none, List.cons_append, List.nil_append, zif, zW_ite, zfit_0, zfit_1, zfit_2, zfit_3, zisc_o, zRt_c, zRt_b, List.map_cons, List.map_nil, List.sum_cons, List.sum_nil, true_and, and_true, if_true, if_false, ite_true, ite_false, Nat.reduceLT, Nat.reduceLeDiff, Nat.reduceAdd, Nat.reduceEqDiff, eq_self, not_true_eq_false, not_false_eq_true, Nat.lt_irrefl, or_true, true_or, or_false, false_or, z_cell_lt, Value.category, h0, hc0, key]
theorem c_radd (hR : rowAt h c k f) (hk14 : k < 14) {x : Int64} : zK (d + 1) 79 [.ref c, .long x] (h, u) Q = Q (none, (rowSet h c (k + 1) (vp_updL f k x), u)) := by
  obtain ⟨hc, hk, h0, h1⟩ := id hR
  have hc0 : c < 1000 := by omega
  have c1 : nI k < nI 14 := nI_lt hk14 (by decide)
  have i0 : vp_in (nI k) 14 := vp_in_nI hk14 (by decide)
  have j0 : (nI k).toNatClampNeg = k := nI_clamp (by omega)
  have n0 : ∀ e, z_up h (c + 1) e c = h c := fun e => z_up_n h e (by omega)
  have key : z_up (z_up h (c + 1) (zJ 14 (vp_updL f k x))) c (zO 6 [.ref (c + 1), .int (nI (k + 1))]) = rowSet h c (k + 1) (vp_updL f k x) := by
    apply rowSet_of
    · intro j hj; rw [z_up_n _ _ (by omega), z_up_n _ _ (by omega)]
    · rw [z_up_s]
    · rw [z_up_n _ _ (by omega), z_up_s]
  refine zK_of (k := 1) (by omega) ?_
  refine zK_in (M := MX6_add) rfl (Nat.le_of_ble_eq_true rfl) ?_
  show zW 0 MX6_add 0 ([.ref c, .long x, .null], [], (h, u)) _
  simp only [eX6_add_0, eX6_add_1, eX6_add_4, eX6_add_5, eX6_add_8, eX6_add_9, eX6_add_12, eX6_add_13, eX6_add_16, eX6_add_17, eX6_add_20, eX6_add_21, eX6_add_22, eX6_add_23, eX6_add_24, eX6_add_27, eX6_add_28, eX6_add_29, eX6_add_32, rX6_add, zg_aload, zg_arraylength, zg_dup, zg_getfield, zg_iadd, zg_icmp, zg_iconst, zg_lastore, zg_lload, zg_putfield, zg_return, q10, q01, q00, ite_self, zLd_i, zLd_l, zLd_a, zInc_i, zGet_o, zGet2_s, zPut_o, zAld_i, zAll_j, zAst_i, zAsl_j, zLen_i, zLen_j, zRt_i, zRt_z, zRl2_l, zRv_n, List.getElem?_cons_zero, List.getElem?_cons_succ, List.length_cons, List.length_nil, z_set, z_set2, z_cut, List.set_cons_zero, List.set_cons_succ, Option.toList_some, Option.toList_none, List.cons_append, List.nil_append, zif, zW_ite, zfit_0, zfit_1, zfit_2, zfit_3, zisc_o, zRt_c, zRt_b, List.map_cons, List.map_nil, List.sum_cons, List.sum_nil, true_and, and_true, if_true, if_false, ite_true, ite_false, Nat.reduceLT, Nat.reduceLeDiff, Nat.reduceAdd, Nat.reduceEqDiff, eq_self, not_true_eq_false, not_false_eq_true, Nat.lt_irrefl, or_true, true_or, or_false, false_or, z_cell_lt, Value.category, h0, h1, hc0, hc, c1, i0, j0, n0, nI_1, key, show (1 ≤ 4) = True from by decide]
theorem euc_half {b r : Nat} (hr : 0 < r) (h : r < b) : 2 * (b % r) < b := by
  have h1 := Nat.mod_lt b hr
  have h2 : r ≤ b := by omega
  have h3 : b % r ≤ b - r := by
    rw [Nat.mod_eq_sub_mod h2]
    exact Nat.mod_le _ _
  omega
theorem lN_z {b : Nat} (h : b < 2 ^ 31) : (lN b = 0) = (b = 0) := propext (pk_lEQ (b := 0) (by omega) (by decide))
theorem q_100 {o : Nat} (h : o < 100) : nI o < 100 := nI_lt (b := 100) h (by decide)
theorem w_gcd {A B : Int64} : ∀ (m o a b : Nat) (x9 x10 : Value), a < 2 ^ 31 → b < 2 ^ m → m ≤ 31 → o + 2 * m < 100 → zW d MX6_commonDivisor 9 ([.long A, .null, .long B, .null, .long (lN a), .null, .long (lN b), .null, .int (nI o), x9, .null], [], H) (fun q => q = (some (.long (lN (Nat.gcd b a))), H)) := by
  obtain ⟨h, u⟩ := H
  intro m
  induction m with
  | zero =>
    intro o a b x9 x10 ha hb hm ho
    have e : b = 0 := by omega
    subst e
    rw [eX6_commonDivisor_9]
    simp only [eX6_commonDivisor_0, eX6_commonDivisor_1, eX6_commonDivisor_3, eX6_commonDivisor_4, eX6_commonDivisor_6, eX6_commonDivisor_7, eX6_commonDivisor_11, eX6_commonDivisor_13, eX6_commonDivisor_16, eX6_commonDivisor_18, eX6_commonDivisor_19, eX6_commonDivisor_20, eX6_commonDivisor_23, eX6_commonDivisor_25, eX6_commonDivisor_27, eX6_commonDivisor_28, eX6_commonDivisor_30, eX6_commonDivisor_32, eX6_commonDivisor_34, eX6_commonDivisor_36, eX6_commonDivisor_38, eX6_commonDivisor_41, eX6_commonDivisor_44, eX6_commonDivisor_46, rX6_commonDivisor, zg_bipush, zg_goto, zg_icmp, zg_iconst, zg_if, zg_iinc, zg_iload, zg_istore, zg_lcmp, zg_lconst, zg_lload, zg_lrem, zg_lreturn, zg_lstore, q10, q01, q00, ite_self, zLd_i, zLd_l, zLd_a, zInc_i, zGet_o, zGet2_s, zPut_o, zAld_i, zAll_j, zAst_i, zAsl_j, zLen_i, zLen_j, zRt_i, zRt_z, zRl2_l, zRv_n, List.getElem?_cons_zero, List.getElem?_cons_succ, List.length_cons, List.length_nil, z_set, z_set2, z_cut, List.set_cons_zero, List.set_cons_succ, Option.toList_some, Option.toList_none, List.cons_append, List.nil_append, zif, zW_ite, zfit_0, zfit_1, zfit_2, zfit_3, zisc_o, zRt_c, zRt_b, List.map_cons, List.map_nil, List.sum_cons, List.sum_nil, true_and, and_true, if_true, if_false, ite_true, ite_false, Nat.reduceLT, Nat.reduceLeDiff, Nat.reduceAdd, Nat.reduceEqDiff, eq_self, not_true_eq_false, not_false_eq_true, Nat.lt_irrefl, or_true, true_or, or_false, false_or, z_cell_lt, Value.category, q_100 (show o < 100 by omega), lg_cmp_eq, show (lN 0 = 0) = True from by decide]
    rw [Nat.gcd_zero_left]
  | succ m ih =>
    intro o a b x9 x10 ha hb hm ho
    have hb31 : b < 2 ^ 31 := Nat.lt_of_lt_of_le hb (Nat.pow_le_pow_right (by decide) hm)
    rw [eX6_commonDivisor_9]
    by_cases c : b = 0
    · subst c
      simp only [eX6_commonDivisor_0, eX6_commonDivisor_1, eX6_commonDivisor_3, eX6_commonDivisor_4, eX6_commonDivisor_6, eX6_commonDivisor_7, eX6_commonDivisor_11, eX6_commonDivisor_13, eX6_commonDivisor_16, eX6_commonDivisor_18, eX6_commonDivisor_19, eX6_commonDivisor_20, eX6_commonDivisor_23, eX6_commonDivisor_25, eX6_commonDivisor_27, eX6_commonDivisor_28, eX6_commonDivisor_30, eX6_commonDivisor_32, eX6_commonDivisor_34, eX6_commonDivisor_36, eX6_commonDivisor_38, eX6_commonDivisor_41, eX6_commonDivisor_44, eX6_commonDivisor_46, rX6_commonDivisor, zg_bipush, zg_goto, zg_icmp, zg_iconst, zg_if, zg_iinc, zg_iload, zg_istore, zg_lcmp, zg_lconst, zg_lload, zg_lrem, zg_lreturn, zg_lstore, q10, q01, q00, ite_self, zLd_i, zLd_l, zLd_a, zInc_i, zGet_o, zGet2_s, zPut_o, zAld_i, zAll_j, zAst_i, zAsl_j, zLen_i, zLen_j, zRt_i, zRt_z, zRl2_l, zRv_n, List.getElem?_cons_zero, List.getElem?_cons_succ, List.length_cons, List.length_nil, z_set, z_set2, z_cut, List.set_cons_zero, List.set_cons_succ, Option.toList_some, Option.toList_none, List.cons_append, List.nil_append, zif, zW_ite, zfit_0, zfit_1, zfit_2, zfit_3, zisc_o, zRt_c, zRt_b, List.map_cons, List.map_nil, List.sum_cons, List.sum_nil, true_and, and_true, if_true, if_false, ite_true, ite_false, Nat.reduceLT, Nat.reduceLeDiff, Nat.reduceAdd, Nat.reduceEqDiff, eq_self, not_true_eq_false, not_false_eq_true, Nat.lt_irrefl, or_true, true_or, or_false, false_or, z_cell_lt, Value.category, q_100 (show o < 100 by omega), lg_cmp_eq, show (lN 0 = 0) = True from by decide]
      rw [Nat.gcd_zero_left]
    · have r1 := pk_lRem (a := a) (b := b) (by omega) (by omega) (by omega)
      have hlt := Nat.mod_lt a (show 0 < b by omega)
      have hz := lN_z hb31
      simp only [c] at hz
      simp only [eX6_commonDivisor_0, eX6_commonDivisor_1, eX6_commonDivisor_3, eX6_commonDivisor_4, eX6_commonDivisor_6, eX6_commonDivisor_7, eX6_commonDivisor_11, eX6_commonDivisor_13, eX6_commonDivisor_16, eX6_commonDivisor_18, eX6_commonDivisor_19, eX6_commonDivisor_20, eX6_commonDivisor_23, eX6_commonDivisor_25, eX6_commonDivisor_27, eX6_commonDivisor_28, eX6_commonDivisor_30, eX6_commonDivisor_32, eX6_commonDivisor_34, eX6_commonDivisor_36, eX6_commonDivisor_38, eX6_commonDivisor_41, eX6_commonDivisor_44, eX6_commonDivisor_46, rX6_commonDivisor, zg_bipush, zg_goto, zg_icmp, zg_iconst, zg_if, zg_iinc, zg_iload, zg_istore, zg_lcmp, zg_lconst, zg_lload, zg_lrem, zg_lreturn, zg_lstore, q10, q01, q00, ite_self, zLd_i, zLd_l, zLd_a, zInc_i, zGet_o, zGet2_s, zPut_o, zAld_i, zAll_j, zAst_i, zAsl_j, zLen_i, zLen_j, zRt_i, zRt_z, zRl2_l, zRv_n, List.getElem?_cons_zero, List.getElem?_cons_succ, List.length_cons, List.length_nil, z_set, z_set2, z_cut, List.set_cons_zero, List.set_cons_succ, Option.toList_some, Option.toList_none, List.cons_append, List.nil_append, zif, zW_ite, zfit_0, zfit_1, zfit_2, zfit_3, zisc_o, zRt_c, zRt_b, List.map_cons, List.map_nil, List.sum_cons, List.sum_nil, true_and, and_true, if_true, if_false, ite_true, ite_false, Nat.reduceLT, Nat.reduceLeDiff, Nat.reduceAdd, Nat.reduceEqDiff, eq_self, not_true_eq_false, not_false_eq_true, Nat.lt_irrefl, or_true, true_or, or_false, false_or, z_cell_lt, Value.category, q_100 (show o < 100 by omega), lg_cmp_eq, hz, r1, nI_1]
      rw [eX6_commonDivisor_9]
      by_cases c2 : a % b = 0
      · simp only [c2]
        simp only [eX6_commonDivisor_0, eX6_commonDivisor_1, eX6_commonDivisor_3, eX6_commonDivisor_4, eX6_commonDivisor_6, eX6_commonDivisor_7, eX6_commonDivisor_11, eX6_commonDivisor_13, eX6_commonDivisor_16, eX6_commonDivisor_18, eX6_commonDivisor_19, eX6_commonDivisor_20, eX6_commonDivisor_23, eX6_commonDivisor_25, eX6_commonDivisor_27, eX6_commonDivisor_28, eX6_commonDivisor_30, eX6_commonDivisor_32, eX6_commonDivisor_34, eX6_commonDivisor_36, eX6_commonDivisor_38, eX6_commonDivisor_41, eX6_commonDivisor_44, eX6_commonDivisor_46, rX6_commonDivisor, zg_bipush, zg_goto, zg_icmp, zg_iconst, zg_if, zg_iinc, zg_iload, zg_istore, zg_lcmp, zg_lconst, zg_lload, zg_lrem, zg_lreturn, zg_lstore, q10, q01, q00, ite_self, zLd_i, zLd_l, zLd_a, zInc_i, zGet_o, zGet2_s, zPut_o, zAld_i, zAll_j, zAst_i, zAsl_j, zLen_i, zLen_j, zRt_i, zRt_z, zRl2_l, zRv_n, List.getElem?_cons_zero, List.getElem?_cons_succ, List.length_cons, List.length_nil, z_set, z_set2, z_cut, List.set_cons_zero, List.set_cons_succ, Option.toList_some, Option.toList_none, List.cons_append, List.nil_append, zif, zW_ite, zfit_0, zfit_1, zfit_2, zfit_3, zisc_o, zRt_c, zRt_b, List.map_cons, List.map_nil, List.sum_cons, List.sum_nil, true_and, and_true, if_true, if_false, ite_true, ite_false, Nat.reduceLT, Nat.reduceLeDiff, Nat.reduceAdd, Nat.reduceEqDiff, eq_self, not_true_eq_false, not_false_eq_true, Nat.lt_irrefl, or_true, true_or, or_false, false_or, z_cell_lt, Value.category, q_100 (show o + 1 < 100 by omega), lg_cmp_eq, show (lN 0 = 0) = True from by decide]
        rw [Nat.gcd_rec, c2, Nat.gcd_zero_left]
      · have r2 := pk_lRem (a := b) (b := a % b) (by omega) (by omega) (by omega)
        have hz2 := lN_z (show a % b < 2 ^ 31 by omega)
        simp only [c2] at hz2
        have hh := euc_half (b := b) (r := a % b) (by omega) hlt
        simp only [eX6_commonDivisor_0, eX6_commonDivisor_1, eX6_commonDivisor_3, eX6_commonDivisor_4, eX6_commonDivisor_6, eX6_commonDivisor_7, eX6_commonDivisor_11, eX6_commonDivisor_13, eX6_commonDivisor_16, eX6_commonDivisor_18, eX6_commonDivisor_19, eX6_commonDivisor_20, eX6_commonDivisor_23, eX6_commonDivisor_25, eX6_commonDivisor_27, eX6_commonDivisor_28, eX6_commonDivisor_30, eX6_commonDivisor_32, eX6_commonDivisor_34, eX6_commonDivisor_36, eX6_commonDivisor_38, eX6_commonDivisor_41, eX6_commonDivisor_44, eX6_commonDivisor_46, rX6_commonDivisor, zg_bipush, zg_goto, zg_icmp, zg_iconst, zg_if, zg_iinc, zg_iload, zg_istore, zg_lcmp, zg_lconst, zg_lload, zg_lrem, zg_lreturn, zg_lstore, q10, q01, q00, ite_self, zLd_i, zLd_l, zLd_a, zInc_i, zGet_o, zGet2_s, zPut_o, zAld_i, zAll_j, zAst_i, zAsl_j, zLen_i, zLen_j, zRt_i, zRt_z, zRl2_l, zRv_n, List.getElem?_cons_zero, List.getElem?_cons_succ, List.length_cons, List.length_nil, z_set, z_set2, z_cut, List.set_cons_zero, List.set_cons_succ, Option.toList_some, Option.toList_none, List.cons_append, List.nil_append, zif, zW_ite, zfit_0, zfit_1, zfit_2, zfit_3, zisc_o, zRt_c, zRt_b, List.map_cons, List.map_nil, List.sum_cons, List.sum_nil, true_and, and_true, if_true, if_false, ite_true, ite_false, Nat.reduceLT, Nat.reduceLeDiff, Nat.reduceAdd, Nat.reduceEqDiff, eq_self, not_true_eq_false, not_false_eq_true, Nat.lt_irrefl, or_true, true_or, or_false, false_or, z_cell_lt, Value.category, q_100 (show o + 1 < 100 by omega), lg_cmp_eq, hz2, r2, nI_1]
        rw [Nat.gcd_rec, Nat.gcd_rec (a % b) b]
        exact ih (o + 1 + 1) (a % b) (b % (a % b)) _ x10 (by omega) (by rw [Nat.pow_succ] at hb; omega) (by omega) (by omega)
theorem c_gcd {a b : Nat} (ha : a < 2 ^ 31) (hb : b < 2 ^ 31) : zK (d + 1) 81 [.long (lN b), .long (lN a)] H Q = Q (some (.long (lN (Nat.gcd b a))), H) := by
  refine zK_of (k := 1) (by omega) ?_
  refine zK_in (M := MX6_commonDivisor) rfl (Nat.le_of_ble_eq_true rfl) ?_
  show zW 0 MX6_commonDivisor 0 ([.long (lN b), .null, .long (lN a), .null, .null, .null, .null, .null, .null, .null, .null], [], H) _
  obtain ⟨h, u⟩ := H
  simp only [eX6_commonDivisor_0, eX6_commonDivisor_1, eX6_commonDivisor_3, eX6_commonDivisor_4, eX6_commonDivisor_6, eX6_commonDivisor_7, eX6_commonDivisor_11, eX6_commonDivisor_13, eX6_commonDivisor_16, eX6_commonDivisor_18, eX6_commonDivisor_19, eX6_commonDivisor_20, eX6_commonDivisor_23, eX6_commonDivisor_25, eX6_commonDivisor_27, eX6_commonDivisor_28, eX6_commonDivisor_30, eX6_commonDivisor_32, eX6_commonDivisor_34, eX6_commonDivisor_36, eX6_commonDivisor_38, eX6_commonDivisor_41, eX6_commonDivisor_44, eX6_commonDivisor_46, rX6_commonDivisor, zg_bipush, zg_goto, zg_icmp, zg_iconst, zg_if, zg_iinc, zg_iload, zg_istore, zg_lcmp, zg_lconst, zg_lload, zg_lrem, zg_lreturn, zg_lstore, q10, q01, q00, ite_self, zLd_i, zLd_l, zLd_a, zInc_i, zGet_o, zGet2_s, zPut_o, zAld_i, zAll_j, zAst_i, zAsl_j, zLen_i, zLen_j, zRt_i, zRt_z, zRl2_l, zRv_n, List.getElem?_cons_zero, List.getElem?_cons_succ, List.length_cons, List.length_nil, z_set, z_set2, z_cut, List.set_cons_zero, List.set_cons_succ, Option.toList_some, Option.toList_none, List.cons_append, List.nil_append, zif, zW_ite, zfit_0, zfit_1, zfit_2, zfit_3, zisc_o, zRt_c, zRt_b, List.map_cons, List.map_nil, List.sum_cons, List.sum_nil, true_and, and_true, if_true, if_false, ite_true, ite_false, Nat.reduceLT, Nat.reduceLeDiff, Nat.reduceAdd, Nat.reduceEqDiff, eq_self, not_true_eq_false, not_false_eq_true, Nat.lt_irrefl, or_true, true_or, or_false, false_or, z_cell_lt, Value.category]
  exact w_gcd 31 0 a b .null .null ha hb (by decide) (by decide)
theorem c_raddF (hR : rowAt h c k f) (hk12 : k < 13) {x y : Nat} (hx : x < 2 ^ 31) (hy : y < 2 ^ 31) (hy0 : 0 < y) : zK (d + 2) 80 [.ref c, .long (lN x), .long (lN y)] (h, u) Q = Q (none, (rowSet h c (k + 2) (vp_updL (vp_updL f k (lN (x / Nat.gcd x y))) (k + 1) (lN (y / Nat.gcd x y))), u)) := by
  obtain ⟨hc, hk, h0, h1⟩ := id hR
  have hc0 : c < 1000 := by omega
  have g0 : 0 < Nat.gcd x y := Nat.gcd_pos_of_pos_right _ hy0
  have gl : Nat.gcd x y ≤ y := Nat.gcd_le_right _ hy0
  have c1 : (0 : Int64) < lN (Nat.gcd x y) := (pk_lLT (a := 0) (by decide) (by omega)).mpr g0
  have c2 : ¬ lN (Nat.gcd x y) = 0 := by rw [lN_z (by omega)]; omega
  have hR1 := rowSet_at (h := h) (c := c) (k := k + 1) (f := vp_updL f k (lN (x / Nat.gcd x y))) hc (by omega)
  have d1 := pk_lDiv (a := x) (b := Nat.gcd x y) (by omega) g0 (by omega)
  have d2 := pk_lDiv (a := y) (b := Nat.gcd x y) (by omega) g0 (by omega)
  have z1 : rowSet h c (k + 1) (vp_updL f k (lN (x / Nat.gcd x y))) c = zO 6 [.ref (c + 1), .int (nI (k + 1))] := by simp [rowSet]
  refine zK_of (k := 2) (by omega) ?_
  refine zK_in (M := MX6_addFraction) rfl (Nat.le_of_ble_eq_true rfl) ?_
  show zW 1 MX6_addFraction 0 ([.ref c, .long (lN x), .null, .long (lN y), .null, .null, .null], [], (h, u)) _
  simp only [eX6_addFraction_0, eX6_addFraction_1, eX6_addFraction_2, eX6_addFraction_5, eX6_addFraction_7, eX6_addFraction_9, eX6_addFraction_10, eX6_addFraction_11, eX6_addFraction_14, eX6_addFraction_15, eX6_addFraction_16, eX6_addFraction_18, eX6_addFraction_19, eX6_addFraction_22, eX6_addFraction_23, eX6_addFraction_24, eX6_addFraction_26, eX6_addFraction_27, eX6_addFraction_30, rX6_addFraction, zg_aload, zg_if, zg_is2, zg_iv1, zg_lcmp, zg_lconst, zg_ldiv, zg_lload, zg_lstore, zg_return, q10, q01, q00, ite_self, zLd_i, zLd_l, zLd_a, zInc_i, zGet_o, zGet2_s, zPut_o, zAld_i, zAll_j, zAst_i, zAsl_j, zLen_i, zLen_j, zRt_i, zRt_z, zRl2_l, zRv_n, List.getElem?_cons_zero, List.getElem?_cons_succ, List.length_cons, List.length_nil, z_set, z_set2, z_cut, List.set_cons_zero, List.set_cons_succ, Option.toList_some, Option.toList_none, List.cons_append, List.nil_append, zif, zW_ite, zfit_0, zfit_1, zfit_2, zfit_3, zisc_o, zRt_c, zRt_b, List.map_cons, List.map_nil, List.sum_cons, List.sum_nil, true_and, and_true, if_true, if_false, ite_true, ite_false, Nat.reduceLT, Nat.reduceLeDiff, Nat.reduceAdd, Nat.reduceEqDiff, eq_self, not_true_eq_false, not_false_eq_true, Nat.lt_irrefl, or_true, true_or, or_false, false_or, z_cell_lt, Value.category, h0, z1, hc0, c_gcd hy hx, lg_cmp_gt, c1, c2, d1, d2, c_radd hR (show k < 14 by omega), c_radd hR1 (show k + 1 < 14 by omega), rowSet_set]
end ROW

