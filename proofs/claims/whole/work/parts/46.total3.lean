/-! how many ORDERS, counted anew in larger rows -/
section TOTAL3
variable {h : Nat → zE} {o k K len m n la b n' : Nat} {A : Nat → Nat → Nat} {B : Nat → Nat → Int64} {C : Nat → Nat → Nat} {op : Nat → Int32} {sn : Int32} {tl : Bool} {rm mt nt : Nat → Nat} {fm : Bool} {vr : Int32} {d kc ks : Nat} {u : zU} {Q : zR → Prop}
/-- in, gone of new rows -/
def nwA (n : Nat) : Nat → Nat → Nat := a2 (mkO (fun _ => 0, fun _ => 0) n).1 (mkO (fun _ => 0, fun _ => 0) n).2 (fun _ _ => 0)
theorem c_total_grow (hk : ordOK o k) (hK : ordOK o K) (hKo : o + 12 ≤ K) (hT : toldAt h b n rm mt nt fm vr) (hd : ordApart o k b (b + 3)) (hdK : ordApart o K b (b + 3)) (hs : ¬ sn = vr) (hl : len < 3 ^ n) {q : (Nat → Nat) × (Nat → Nat)} (h1 : ∀ s, q.1 s < 128) (h2 : ∀ s, q.2 s < 128) {n0 la0 : Nat} : zK (d + 3) 51 [.ref o, .ref b] (ordSet h o k len m A B (c2 q.1 q.2) op sn tl n0 la0, (K, kc, ks)) Q = Q (some (.long ((ctN (nwA n) (fun _ _ => 0) n (rtU (2 ^ n - 1) mt (fun i => nt i ||| matesOf n rm fm i) q n)).2 0)), (ordSet (ordSet h o k len m A B (c2 q.1 q.2) op vr false n (3 ^ n - 1)) o K (3 ^ n - 1 + 1) (128 * n) (z_up (nwA n) 2 (ctN (nwA n) (fun _ _ => 0) n (rtU (2 ^ n - 1) mt (fun i => nt i ||| matesOf n rm fm i) q n)).1) (z_up (fun _ _ => 0) 1 (ctN (nwA n) (fun _ _ => 0) n (rtU (2 ^ n - 1) mt (fun i => nt i ||| matesOf n rm fm i) q n)).2) (c2 (rtU (2 ^ n - 1) mt (fun i => nt i ||| matesOf n rm fm i) q n).1 (rtU (2 ^ n - 1) mt (fun i => nt i ||| matesOf n rm fm i) q n).2) op vr false n (3 ^ n - 1), (K + 8, kc + 8, ks + (3 ^ n - 1 + 1) + (3 ^ n - 1 + 1) + (3 ^ n - 1 + 1) + (3 ^ n - 1 + 1) + (3 ^ n - 1 + 1) + (3 ^ n - 1 + 1) + 128 * n + 128 * n))) := by
  obtain ⟨k1, k2, k3⟩ := id hk
  obtain ⟨_, K2, _⟩ := id hK
  obtain ⟨tb, t0, t1, t2, t3, hn, hr, hm, ht⟩ := id hT
  have hp := p3_pos n
  have h37 : 3 ^ n ≤ 3 ^ 7 := Nat.pow_le_pow_right (by decide) hn
  have hx : 3 ^ n < 9000 := Nat.lt_of_le_of_lt h37 (by decide)
  have ho0 : o < 1000 := by omega
  have hk4 : k + 4 < 1000 := by omega
  have hK4 : K + 4 < 1000 := by omega
  have hb0 : b < 1000 := by omega
  have g4 : ∀ H len m A B C op sn tl n la, ordSet H o K len m A B C op sn tl n la (K + 4) = zJ len (B 1) := fun H len m A B C op sn tl n la => ord_B (i := 1) hK (by decide)
  have hTT : ∀ A B C op sn tl n' la, toldAt (ordSet h o k len m A B C op sn tl n' la) b n rm mt nt fm vr := fun A B C op sn tl n' la => toldAt_ord hd hT
  have s0 := fun A B C op sn tl n' la => (hTT A B C op sn tl n' la).2.1
  have i1 : vp_in (0 : Int32) (3 ^ n - 1 + 1) := vp_in_nI (n := 0) (by omega) (by omega)
  have i3 : vp_in (nI n) 8 := vp_in_nI (show n < 8 by omega) (by decide)
  have i4 : (nI n).toNatClampNeg = n := nI_clamp (by omega)
  have e1 : nI (3 ^ n) - 1 = nI (3 ^ n - 1) := pk_sub (b := 1) (by omega)
  have w1 := ord_up0 (h := h) (len := len) (m := m) (A := A) (B := B) (C := c2 q.1 q.2) (op := op) (sn := sn) (tl := tl) (n := n0) (la := la0) hk (sn' := vr) (tl' := tl) (n' := n0) (la' := la0)
  have w2 := ord_up0 (h := h) (len := len) (m := m) (A := A) (B := B) (C := c2 q.1 q.2) (op := op) (sn := vr) (tl := tl) (n := n0) (la := la0) hk (sn' := vr) (tl' := tl) (n' := n) (la' := la0)
  have w3 := ord_up0 (h := h) (len := len) (m := m) (A := A) (B := B) (C := c2 q.1 q.2) (op := op) (sn := vr) (tl := tl) (n := n) (la := la0) hk (sn' := vr) (tl' := tl) (n' := n) (la' := 3 ^ n - 1)
  have w4 := ord_up0 (h := h) (len := len) (m := m) (A := A) (B := B) (C := c2 q.1 q.2) (op := op) (sn := vr) (tl := tl) (n := n) (la := 3 ^ n - 1) hk (sn' := vr) (tl' := false) (n' := n) (la' := 3 ^ n - 1)
  rw [b01_f] at w4
  have lt := rtU_lt (al := 2 ^ n - 1) (nd := mt) (br := fun i => nt i ||| matesOf n rm fm i) h1 h2 n hn
  have lA := mkO_lt (q := (fun _ => 0, fun _ => 0)) (fun _ => (by decide : 0 < 128)) (fun _ => (by decide : 0 < 128)) n hn
  have cr := fun (Q : zR → Prop) => c_room (d := 1) (h := h) (m := m) (A := A) (B := B) (C := c2 q.1 q.2) (op := op) (sn := vr) (tl := false) (kc := kc) (ks := ks) (Q := Q) hk hK hKo hn (show len ≤ 3 ^ n - 1 by omega) (by omega) (by omega)
  have ct := fun (Q : zR → Prop) (u : zU) => c_rtold (d := 0) (h := ordSet h o k len m A B (c2 q.1 q.2) op vr false n (3 ^ n - 1)) (len := 3 ^ n - 1 + 1) (m := 128 * n) (A := nwA n) (B := fun _ _ => 0) (op := op) (sn := vr) (tl := false) (la := 3 ^ n - 1) (u := u) (Q := Q) hK (hTT _ _ _ _ _ _ _ _) hdK h1 h2
  have cb := fun (Q : zR → Prop) (u : zU) => c_behind (d := 1) (h := ordSet h o k len m A B (c2 q.1 q.2) op vr false n (3 ^ n - 1)) (len := 3 ^ n - 1 + 1) (m := 128 * n) (A := nwA n) (B := fun _ _ => 0) (op := op) (sn := vr) (tl := false) (u := u) (Q := Q) (C := c2 (rtU (2 ^ n - 1) mt (fun i => nt i ||| matesOf n rm fm i) q n).1 (rtU (2 ^ n - 1) mt (fun i => nt i ||| matesOf n rm fm i) q n).2) hK hn (by omega) (show 3 ^ n - 1 < 3 ^ n - 1 + 1 by omega) lA.1 lA.2 lt.1 lt.2 (fun s hs i hi hb => Nat.lt_of_lt_of_le (step_ok (A := nwA n) hn (dig_O n hn) lA.1 lA.2 h1 h2 rfl (show s < 3 ^ n by omega) hi hb) (by omega))
  have nw : a2 (mkO (fun _ => 0, fun _ => 0) n).1 (mkO (fun _ => 0, fun _ => 0) n).2 (fun _ _ => 0) = nwA n := rfl
  refine zK_of (k := 3) (by omega) ?_
  refine zK_in (M := MX4_total) rfl (Nat.le_of_ble_eq_true rfl) ?_
  show zW 2 MX4_total 0 ([.ref o, .ref b], [], (ordSet h o k len m A B (c2 q.1 q.2) op sn tl n0 la0, (K, kc, ks))) _
  simp only [eX4_total_0, eX4_total_1, eX4_total_4, eX4_total_5, eX4_total_8, eX4_total_11, eX4_total_12, eX4_total_13, eX4_total_16, eX4_total_19, eX4_total_20, eX4_total_21, eX4_total_24, eX4_total_27, eX4_total_28, eX4_total_31, eX4_total_32, eX4_total_35, eX4_total_36, eX4_total_37, eX4_total_38, eX4_total_41, eX4_total_42, eX4_total_43, eX4_total_46, eX4_total_47, eX4_total_50, eX4_total_51, eX4_total_52, eX4_total_55, eX4_total_56, eX4_total_59, eX4_total_60, eX4_total_63, eX4_total_64, eX4_total_65, rX4_total, zg_aload, zg_getfield, zg_getstatic, zg_iaload, zg_icmp, zg_iconst, zg_isub, zg_iv0, zg_iv1, zg_laload, zg_lreturn, zg_putfield, q10, q01, q00, ite_self, zLd_i, zLd_l, zLd_a, zInc_i, zGet_o, zGet2_s, zPut_o, zAld_i, zAll_j, zAst_i, zAsl_j, zLen_i, zLen_j, zRt_i, zRt_z, zRl2_l, zRv_n, List.getElem?_cons_zero, List.getElem?_cons_succ, List.length_cons, List.length_nil, z_set, z_set2, z_cut, List.set_cons_zero, List.set_cons_succ, Option.toList_some, Option.toList_none, List.cons_append, List.nil_append, zif, zW_ite, zfit_0, zfit_1, zfit_2, zfit_3, zisc_o, zRt_c, zRt_b, List.map_cons, List.map_nil, List.sum_cons, List.sum_nil, true_and, and_true, if_true, if_false, ite_true, ite_false, Nat.reduceLT, Nat.reduceLeDiff, Nat.reduceAdd, Nat.reduceEqDiff, eq_self, not_true_eq_false, not_false_eq_true, Nat.lt_irrefl, or_true, true_or, or_false, false_or, z_cell_lt, Value.category, ord_0, g4, ho0, hb0, hk4, hK4, s0, hs, i1, i3, i4, pow_cell, z_pw_eq n (show n < 8 by omega), e1, w1, w2, w3, w4, cr, nw, ct, cb, z_up_s, show (0 : Int32).toNatClampNeg = 0 from by decide]
  rfl
end TOTAL3

