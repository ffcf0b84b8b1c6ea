/-! a guest hidden, copied, moved; STRICT; sums -/
theorem eX9_roomsTogether_0 {d : Nat} {S : zS} {Q : zR → Prop} : zW d MX9_roomsTogether 0 S Q = zGo d MX9_roomsTogether (.iconst 0) (zv (.int 0)) 1 S Q := zW_step (I := .iconst 0) rfl S Q
theorem eX9_roomsTogether_1 {d : Nat} {S : zS} {Q : zR → Prop} : zW d MX9_roomsTogether 1 S Q = zGo d MX9_roomsTogether (.istore 1) z0 2 S Q := zW_step (I := .istore_n 1) rfl S Q
theorem eX9_roomsTogether_2 {d : Nat} {S : zS} {Q : zR → Prop} : zW d MX9_roomsTogether 2 S Q = zGo d MX9_roomsTogether (.iconst 0) (zv (.int 0)) 3 S Q := zW_step (I := .iconst 0) rfl S Q
theorem eX9_roomsTogether_3 {d : Nat} {S : zS} {Q : zR → Prop} : zW d MX9_roomsTogether 3 S Q = zGo d MX9_roomsTogether (.istore 2) z0 4 S Q := zW_step (I := .istore_n 2) rfl S Q
theorem eX9_roomsTogether_4 {d : Nat} {S : zS} {Q : zR → Prop} : zW d MX9_roomsTogether 4 S Q = zGo d MX9_roomsTogether (.iload 2) z0 5 S Q := zW_step (I := .iload_n 2) rfl S Q
theorem eX9_roomsTogether_5 {d : Nat} {S : zS} {Q : zR → Prop} : zW d MX9_roomsTogether 5 S Q = zGo d MX9_roomsTogether (.aload 0) z0 6 S Q := zW_step (I := .aload_n 0) rfl S Q
theorem eX9_roomsTogether_6 {d : Nat} {S : zS} {Q : zR → Prop} : zW d MX9_roomsTogether 6 S Q = zGo d MX9_roomsTogether (.getfield 21) (zf 0 9 3) 9 S Q := zW_step (I := .getfield 21) rfl S Q
theorem eX9_roomsTogether_9 {d : Nat} {S : zS} {Q : zR → Prop} : zW d MX9_roomsTogether 9 S Q = zGo d MX9_roomsTogether (.if_icmp .ge 18) (zt 27) 12 S Q := zW_step (I := .if_icmp .ge 18) rfl S Q
theorem eX9_roomsTogether_12 {d : Nat} {S : zS} {Q : zR → Prop} : zW d MX9_roomsTogether 12 S Q = zGo d MX9_roomsTogether (.iload 1) z0 13 S Q := zW_step (I := .iload_n 1) rfl S Q
theorem eX9_roomsTogether_13 {d : Nat} {S : zS} {Q : zR → Prop} : zW d MX9_roomsTogether 13 S Q = zGo d MX9_roomsTogether (.aload 0) z0 14 S Q := zW_step (I := .aload_n 0) rfl S Q
theorem eX9_roomsTogether_14 {d : Nat} {S : zS} {Q : zR → Prop} : zW d MX9_roomsTogether 14 S Q = zGo d MX9_roomsTogether (.getfield 9) (zf 3 9 0) 17 S Q := zW_step (I := .getfield 9) rfl S Q
theorem eX9_roomsTogether_17 {d : Nat} {S : zS} {Q : zR → Prop} : zW d MX9_roomsTogether 17 S Q = zGo d MX9_roomsTogether (.iload 2) z0 18 S Q := zW_step (I := .iload_n 2) rfl S Q
theorem eX9_roomsTogether_18 {d : Nat} {S : zS} {Q : zR → Prop} : zW d MX9_roomsTogether 18 S Q = zGo d MX9_roomsTogether (.iaload) z0 19 S Q := zW_step (I := .iaload) rfl S Q
theorem eX9_roomsTogether_19 {d : Nat} {S : zS} {Q : zR → Prop} : zW d MX9_roomsTogether 19 S Q = zGo d MX9_roomsTogether (.iadd) z0 20 S Q := zW_step (I := .iadd) rfl S Q
theorem eX9_roomsTogether_20 {d : Nat} {S : zS} {Q : zR → Prop} : zW d MX9_roomsTogether 20 S Q = zGo d MX9_roomsTogether (.istore 1) z0 21 S Q := zW_step (I := .istore_n 1) rfl S Q
theorem eX9_roomsTogether_21 {d : Nat} {S : zS} {Q : zR → Prop} : zW d MX9_roomsTogether 21 S Q = zGo d MX9_roomsTogether (.iinc 2 1) (zv (.int 1)) 24 S Q := zW_step (I := .iinc 2 1) rfl S Q
theorem eX9_roomsTogether_24 {d : Nat} {S : zS} {Q : zR → Prop} : zW d MX9_roomsTogether 24 S Q = zGo d MX9_roomsTogether (.goto (-20)) (zt 4) 27 S Q := zW_step (I := .goto (-20)) rfl S Q
theorem eX9_roomsTogether_27 {d : Nat} {S : zS} {Q : zR → Prop} : zW d MX9_roomsTogether 27 S Q = zGo d MX9_roomsTogether (.iload 1) z0 28 S Q := zW_step (I := .iload_n 1) rfl S Q
theorem eX9_roomsTogether_28 {d : Nat} {S : zS} {Q : zR → Prop} : zW d MX9_roomsTogether 28 S Q = zGo d MX9_roomsTogether (.ireturn) z0 29 S Q := zW_step (I := .ireturn) rfl S Q
theorem rX9_roomsTogether : MX9_roomsTogether.2.2.2.2.1 = some .int := rfl
theorem eX9_pairsTold_0 {d : Nat} {S : zS} {Q : zR → Prop} : zW d MX9_pairsTold 0 S Q = zGo d MX9_pairsTold (.iconst 0) (zv (.int 0)) 1 S Q := zW_step (I := .iconst 0) rfl S Q
theorem eX9_pairsTold_1 {d : Nat} {S : zS} {Q : zR → Prop} : zW d MX9_pairsTold 1 S Q = zGo d MX9_pairsTold (.istore 2) z0 2 S Q := zW_step (I := .istore_n 2) rfl S Q
theorem eX9_pairsTold_2 {d : Nat} {S : zS} {Q : zR → Prop} : zW d MX9_pairsTold 2 S Q = zGo d MX9_pairsTold (.iconst 0) (zv (.int 0)) 3 S Q := zW_step (I := .iconst 0) rfl S Q
theorem eX9_pairsTold_3 {d : Nat} {S : zS} {Q : zR → Prop} : zW d MX9_pairsTold 3 S Q = zGo d MX9_pairsTold (.istore 3) z0 4 S Q := zW_step (I := .istore_n 3) rfl S Q
theorem eX9_pairsTold_4 {d : Nat} {S : zS} {Q : zR → Prop} : zW d MX9_pairsTold 4 S Q = zGo d MX9_pairsTold (.iload 3) z0 5 S Q := zW_step (I := .iload_n 3) rfl S Q
theorem eX9_pairsTold_5 {d : Nat} {S : zS} {Q : zR → Prop} : zW d MX9_pairsTold 5 S Q = zGo d MX9_pairsTold (.aload 0) z0 6 S Q := zW_step (I := .aload_n 0) rfl S Q
theorem eX9_pairsTold_6 {d : Nat} {S : zS} {Q : zR → Prop} : zW d MX9_pairsTold 6 S Q = zGo d MX9_pairsTold (.getfield 21) (zf 0 9 3) 9 S Q := zW_step (I := .getfield 21) rfl S Q
theorem eX9_pairsTold_9 {d : Nat} {S : zS} {Q : zR → Prop} : zW d MX9_pairsTold 9 S Q = zGo d MX9_pairsTold (.if_icmp .ge 51) (zt 60) 12 S Q := zW_step (I := .if_icmp .ge 51) rfl S Q
theorem eX9_pairsTold_12 {d : Nat} {S : zS} {Q : zR → Prop} : zW d MX9_pairsTold 12 S Q = zGo d MX9_pairsTold (.iload 1) z0 13 S Q := zW_step (I := .iload_n 1) rfl S Q
theorem eX9_pairsTold_13 {d : Nat} {S : zS} {Q : zR → Prop} : zW d MX9_pairsTold 13 S Q = zGo d MX9_pairsTold (.iconst 1) (zv (.int 1)) 14 S Q := zW_step (I := .iconst 1) rfl S Q
theorem eX9_pairsTold_14 {d : Nat} {S : zS} {Q : zR → Prop} : zW d MX9_pairsTold 14 S Q = zGo d MX9_pairsTold (.if_icmp .ne 12) (zt 26) 17 S Q := zW_step (I := .if_icmp .ne 12) rfl S Q
theorem eX9_pairsTold_17 {d : Nat} {S : zS} {Q : zR → Prop} : zW d MX9_pairsTold 17 S Q = zGo d MX9_pairsTold (.aload 0) z0 18 S Q := zW_step (I := .aload_n 0) rfl S Q
theorem eX9_pairsTold_18 {d : Nat} {S : zS} {Q : zR → Prop} : zW d MX9_pairsTold 18 S Q = zGo d MX9_pairsTold (.getfield 15) (zf 3 9 1) 21 S Q := zW_step (I := .getfield 15) rfl S Q
theorem eX9_pairsTold_21 {d : Nat} {S : zS} {Q : zR → Prop} : zW d MX9_pairsTold 21 S Q = zGo d MX9_pairsTold (.iload 3) z0 22 S Q := zW_step (I := .iload_n 3) rfl S Q
theorem eX9_pairsTold_22 {d : Nat} {S : zS} {Q : zR → Prop} : zW d MX9_pairsTold 22 S Q = zGo d MX9_pairsTold (.iaload) z0 23 S Q := zW_step (I := .iaload) rfl S Q
theorem eX9_pairsTold_23 {d : Nat} {S : zS} {Q : zR → Prop} : zW d MX9_pairsTold 23 S Q = zGo d MX9_pairsTold (.goto 21) (zt 44) 26 S Q := zW_step (I := .goto 21) rfl S Q
theorem eX9_pairsTold_26 {d : Nat} {S : zS} {Q : zR → Prop} : zW d MX9_pairsTold 26 S Q = zGo d MX9_pairsTold (.iload 1) z0 27 S Q := zW_step (I := .iload_n 1) rfl S Q
theorem eX9_pairsTold_27 {d : Nat} {S : zS} {Q : zR → Prop} : zW d MX9_pairsTold 27 S Q = zGo d MX9_pairsTold (.ifCond .ne 12) (zt 39) 30 S Q := zW_step (I := .ifCond .ne 12) rfl S Q
theorem eX9_pairsTold_30 {d : Nat} {S : zS} {Q : zR → Prop} : zW d MX9_pairsTold 30 S Q = zGo d MX9_pairsTold (.aload 0) z0 31 S Q := zW_step (I := .aload_n 0) rfl S Q
theorem eX9_pairsTold_31 {d : Nat} {S : zS} {Q : zR → Prop} : zW d MX9_pairsTold 31 S Q = zGo d MX9_pairsTold (.getfield 18) (zf 3 9 2) 34 S Q := zW_step (I := .getfield 18) rfl S Q
theorem eX9_pairsTold_34 {d : Nat} {S : zS} {Q : zR → Prop} : zW d MX9_pairsTold 34 S Q = zGo d MX9_pairsTold (.iload 3) z0 35 S Q := zW_step (I := .iload_n 3) rfl S Q
theorem eX9_pairsTold_35 {d : Nat} {S : zS} {Q : zR → Prop} : zW d MX9_pairsTold 35 S Q = zGo d MX9_pairsTold (.iaload) z0 36 S Q := zW_step (I := .iaload) rfl S Q
theorem eX9_pairsTold_36 {d : Nat} {S : zS} {Q : zR → Prop} : zW d MX9_pairsTold 36 S Q = zGo d MX9_pairsTold (.goto 8) (zt 44) 39 S Q := zW_step (I := .goto 8) rfl S Q
theorem eX9_pairsTold_39 {d : Nat} {S : zS} {Q : zR → Prop} : zW d MX9_pairsTold 39 S Q = zGo d MX9_pairsTold (.aload 0) z0 40 S Q := zW_step (I := .aload_n 0) rfl S Q
theorem eX9_pairsTold_40 {d : Nat} {S : zS} {Q : zR → Prop} : zW d MX9_pairsTold 40 S Q = zGo d MX9_pairsTold (.iload 3) z0 41 S Q := zW_step (I := .iload_n 3) rfl S Q
theorem eX9_pairsTold_41 {d : Nat} {S : zS} {Q : zR → Prop} : zW d MX9_pairsTold 41 S Q = zGo d MX9_pairsTold (.invokevirtual 69) (zc 111 2 9) 44 S Q := zW_step (I := .invokevirtual 69) rfl S Q
theorem eX9_pairsTold_44 {d : Nat} {S : zS} {Q : zR → Prop} : zW d MX9_pairsTold 44 S Q = zGo d MX9_pairsTold (.istore 4) z0 46 S Q := zW_step (I := .istore 4) rfl S Q
theorem eX9_pairsTold_46 {d : Nat} {S : zS} {Q : zR → Prop} : zW d MX9_pairsTold 46 S Q = zGo d MX9_pairsTold (.iload 2) z0 47 S Q := zW_step (I := .iload_n 2) rfl S Q
theorem eX9_pairsTold_47 {d : Nat} {S : zS} {Q : zR → Prop} : zW d MX9_pairsTold 47 S Q = zGo d MX9_pairsTold (.iload 4) z0 49 S Q := zW_step (I := .iload 4) rfl S Q
theorem eX9_pairsTold_49 {d : Nat} {S : zS} {Q : zR → Prop} : zW d MX9_pairsTold 49 S Q = zGo d MX9_pairsTold (.invokestatic 51) (zc 292 1 0) 52 S Q := zW_step (I := .invokestatic 51) rfl S Q
theorem eX9_pairsTold_52 {d : Nat} {S : zS} {Q : zR → Prop} : zW d MX9_pairsTold 52 S Q = zGo d MX9_pairsTold (.iadd) z0 53 S Q := zW_step (I := .iadd) rfl S Q
theorem eX9_pairsTold_53 {d : Nat} {S : zS} {Q : zR → Prop} : zW d MX9_pairsTold 53 S Q = zGo d MX9_pairsTold (.istore 2) z0 54 S Q := zW_step (I := .istore_n 2) rfl S Q
theorem eX9_pairsTold_54 {d : Nat} {S : zS} {Q : zR → Prop} : zW d MX9_pairsTold 54 S Q = zGo d MX9_pairsTold (.iinc 3 1) (zv (.int 1)) 57 S Q := zW_step (I := .iinc 3 1) rfl S Q
theorem eX9_pairsTold_57 {d : Nat} {S : zS} {Q : zR → Prop} : zW d MX9_pairsTold 57 S Q = zGo d MX9_pairsTold (.goto (-53)) (zt 4) 60 S Q := zW_step (I := .goto (-53)) rfl S Q
theorem eX9_pairsTold_60 {d : Nat} {S : zS} {Q : zR → Prop} : zW d MX9_pairsTold 60 S Q = zGo d MX9_pairsTold (.iload 2) z0 61 S Q := zW_step (I := .iload_n 2) rfl S Q
theorem eX9_pairsTold_61 {d : Nat} {S : zS} {Q : zR → Prop} : zW d MX9_pairsTold 61 S Q = zGo d MX9_pairsTold (.iconst 2) (zv (.int 2)) 62 S Q := zW_step (I := .iconst 2) rfl S Q
theorem eX9_pairsTold_62 {d : Nat} {S : zS} {Q : zR → Prop} : zW d MX9_pairsTold 62 S Q = zGo d MX9_pairsTold (.idiv) z0 63 S Q := zW_step (I := .idiv) rfl S Q
theorem eX9_pairsTold_63 {d : Nat} {S : zS} {Q : zR → Prop} : zW d MX9_pairsTold 63 S Q = zGo d MX9_pairsTold (.ireturn) z0 64 S Q := zW_step (I := .ireturn) rfl S Q
theorem rX9_pairsTold : MX9_pairsTold.2.2.2.2.1 = some .int := rfl
def hdF (f : Nat → Nat) (i : Nat) : Nat → Nat → Nat
  | 0 => f
  | k + 1 => if k = i then hdF f i k else putM (hdF f i k) i k false
def hdC (i : Nat) : Nat → Nat
  | 0 => 0
  | k + 1 => if k = i then hdC i k else hdC i k + 1
theorem hdF_lt {f : Nat → Nat} {i : Nat} (hf : ∀ k, f k < 128) (hi : i < 7) : ∀ k, k ≤ 7 → ∀ j, hdF f i k j < 128 := by
  intro k
  induction k with
  | zero => intro _; exact hf
  | succ k ih =>
    intro hk
    unfold hdF
    split
    · exact ih (by omega)
    · exact putM_lt (ih (by omega)) hi (by omega)
def cpM (mt nt : Nat → Nat) (i j : Nat) : Nat → (Nat → Nat) × (Nat → Nat) × Nat
  | 0 => (mt, nt, 0)
  | k + 1 => if k = i ∨ k = j ∨ abt (cpM mt nt i j k).1 (cpM mt nt i j k).2.1 i k = abt (cpM mt nt i j k).1 (cpM mt nt i j k).2.1 j k then cpM mt nt i j k else (putM (cpM mt nt i j k).1 j k (decide (abt (cpM mt nt i j k).1 (cpM mt nt i j k).2.1 i k = 1)), putM (cpM mt nt i j k).2.1 j k (decide (abt (cpM mt nt i j k).1 (cpM mt nt i j k).2.1 i k = 0)), (cpM mt nt i j k).2.2 + 1)
theorem cpM_ok {mt nt : Nat → Nat} {i j : Nat} (hm : ∀ k, mt k < 128) (ht : ∀ k, nt k < 128) (hj : j < 7) : ∀ k, k ≤ 7 → (∀ a, (cpM mt nt i j k).1 a < 128) ∧ (∀ a, (cpM mt nt i j k).2.1 a < 128) ∧ (cpM mt nt i j k).2.2 ≤ k := by
  intro k
  induction k with
  | zero => intro _; exact ⟨hm, ht, Nat.le_refl _⟩
  | succ k ih =>
    intro hk
    obtain ⟨h1, h2, h3⟩ := ih (by omega)
    unfold cpM
    split
    · exact ⟨h1, h2, by omega⟩
    · exact ⟨putM_lt h1 hj (by omega), putM_lt h2 hj (by omega), Nat.succ_le_succ h3⟩
def rsum (rm : Nat → Nat) : Nat → Nat
  | 0 => 0
  | k + 1 => rsum rm k + rm k
theorem rsum_le {rm : Nat → Nat} (hr : ∀ i, rm i ≤ 9) : ∀ k, rsum rm k ≤ 9 * k := by
  intro k
  induction k with
  | zero => exact Nat.le_refl _
  | succ k ih => have := hr k; unfold rsum; omega
/-- those of whom it is told so: 1 MET, 0 NOT, else OPEN -/
def selM (n : Nat) (mt nt : Nat → Nat) (v i : Nat) : Nat := if v = 1 then mt i else if v = 0 then nt i else (2 ^ n - 1) &&& (127 - (mt i ||| nt i ||| 2 ^ i))
def psum (n : Nat) (mt nt : Nat → Nat) (v : Nat) : Nat → Nat
  | 0 => 0
  | k + 1 => psum n mt nt v k + pop (selM n mt nt v k)
theorem psum_le {n : Nat} {mt nt : Nat → Nat} {v : Nat} : ∀ k, psum n mt nt v k ≤ 7 * k := by
  intro k
  induction k with
  | zero => exact Nat.le_refl _
  | succ k ih => have := pop_le (selM n mt nt v k); unfold psum; omega
theorem q_vr (v : Int32) (c : Nat) : v + nI c + 1 = v + nI (c + 1) := by rw [Int32.add_assoc, nI_1]
theorem q_vr0 (v : Int32) : v + nI 0 = v := by rw [nI_0, Int32.add_zero]
section TELL3
variable {h : Nat → zE} {b n : Nat} {rm mt nt : Nat → Nat} {fm : Bool} {vr : Int32} {d : Nat} {u : zU} {H : zH} {Q : zR → Prop}
theorem toldSet_b : toldSet h b n rm mt nt fm vr b = zO 9 [.ref (b + 1), .ref (b + 2), .ref (b + 3), .int (nI n), .int (if fm then 1 else 0), .int vr] := by simp [toldSet]
theorem w_hide (hT : toldAt h b n rm mt nt fm vr) {i c : Nat} (hi : i < n) : ∀ k o, n - o = k → o ≤ n → zW (d + 2) MX9_hide 36 ([.ref b, .int (nI i), .int (nI c), .int (nI o)], [], (toldSet h b n rm (hdF mt i o) (hdF nt i o) fm (vr + nI (hdC i o)), u)) (fun q => q = (some (.int (nI c)), (toldSet h b n rm (hdF mt i n) (hdF nt i n) fm (vr + nI (hdC i n)), u))) := by
  obtain ⟨hb, h0, h1, h2, h3, hn, hr, hm, ht⟩ := id hT
  have hb0 : b < 1000 := by omega
  intro k
  induction k with
  | zero =>
    intro o ho hle
    have e : o = n := by omega
    subst e
    rw [eX9_hide_36]
    simp only [eX9_hide_0, eX9_hide_1, eX9_hide_2, eX9_hide_5, eX9_hide_8, eX9_hide_9, eX9_hide_10, eX9_hide_11, eX9_hide_14, eX9_hide_15, eX9_hide_16, eX9_hide_17, eX9_hide_20, eX9_hide_21, eX9_hide_22, eX9_hide_23, eX9_hide_26, eX9_hide_27, eX9_hide_28, eX9_hide_31, eX9_hide_33, eX9_hide_34, eX9_hide_35, eX9_hide_37, eX9_hide_38, eX9_hide_41, eX9_hide_44, eX9_hide_45, eX9_hide_46, eX9_hide_49, eX9_hide_50, eX9_hide_51, eX9_hide_52, eX9_hide_53, eX9_hide_56, eX9_hide_59, eX9_hide_62, eX9_hide_63, rX9_hide, zg_aload, zg_bipush, zg_getfield, zg_goto, zg_iaload, zg_icmp, zg_iconst, zg_if, zg_iinc, zg_iload, zg_ior, zg_ireturn, zg_is1, zg_istore, zg_iv1, zg_iv3, q10, q01, q00, ite_self, zLd_i, zLd_l, zLd_a, zInc_i, zGet_o, zGet2_s, zPut_o, zAld_i, zAll_j, zAst_i, zAsl_j, zLen_i, zLen_j, zRt_i, zRt_z, zRl2_l, zRv_n, List.getElem?_cons_zero, List.getElem?_cons_succ, List.length_cons, List.length_nil, z_set, z_set2, z_cut, List.set_cons_zero, List.set_cons_succ, Option.toList_some, Option.toList_none, List.cons_append, List.nil_append, zif, zW_ite, zfit_0, zfit_1, zfit_2, zfit_3, zisc_o, zRt_c, zRt_b, List.map_cons, List.map_nil, List.sum_cons, List.sum_nil, true_and, and_true, if_true, if_false, ite_true, ite_false, Nat.reduceLT, Nat.reduceLeDiff, Nat.reduceAdd, Nat.reduceEqDiff, eq_self, not_true_eq_false, not_false_eq_true, Nat.lt_irrefl, or_true, true_or, or_false, false_or, z_cell_lt, Value.category, toldSet_b, hb0, Int32.lt_irrefl]
  | succ k ih =>
    intro o ho hle
    have hlt : o < n := by omega
    have c1 : nI o < nI n := nI_lt hlt (by omega)
    have ih := ih (o + 1) (by omega) (by omega)
    have hTk := toldSet_at (h := h) (b := b) (n := n) (rm := rm) (fm := fm) (vr := vr + nI (hdC i o)) hb hn hr (hdF_lt hm (show i < 7 by omega) o (by omega)) (hdF_lt ht (show i < 7 by omega) o (by omega))
    rw [eX9_hide_36]
    rw [show hdF mt i (o + 1) = if o = i then hdF mt i o else putM (hdF mt i o) i o false from rfl, show hdF nt i (o + 1) = if o = i then hdF nt i o else putM (hdF nt i o) i o false from rfl, show hdC i (o + 1) = if o = i then hdC i o else hdC i o + 1 from rfl] at ih
    by_cases c2 : o = i
    · simp only [c2, if_true] at ih ⊢
      subst c2
      simp only [eX9_hide_0, eX9_hide_1, eX9_hide_2, eX9_hide_5, eX9_hide_8, eX9_hide_9, eX9_hide_10, eX9_hide_11, eX9_hide_14, eX9_hide_15, eX9_hide_16, eX9_hide_17, eX9_hide_20, eX9_hide_21, eX9_hide_22, eX9_hide_23, eX9_hide_26, eX9_hide_27, eX9_hide_28, eX9_hide_31, eX9_hide_33, eX9_hide_34, eX9_hide_35, eX9_hide_37, eX9_hide_38, eX9_hide_41, eX9_hide_44, eX9_hide_45, eX9_hide_46, eX9_hide_49, eX9_hide_50, eX9_hide_51, eX9_hide_52, eX9_hide_53, eX9_hide_56, eX9_hide_59, eX9_hide_62, eX9_hide_63, rX9_hide, zg_aload, zg_bipush, zg_getfield, zg_goto, zg_iaload, zg_icmp, zg_iconst, zg_if, zg_iinc, zg_iload, zg_ior, zg_ireturn, zg_is1, zg_istore, zg_iv1, zg_iv3, q10, q01, q00, ite_self, zLd_i, zLd_l, zLd_a, zInc_i, zGet_o, zGet2_s, zPut_o, zAld_i, zAll_j, zAst_i, zAsl_j, zLen_i, zLen_j, zRt_i, zRt_z, zRl2_l, zRv_n, List.getElem?_cons_zero, List.getElem?_cons_succ, List.length_cons, List.length_nil, z_set, z_set2, z_cut, List.set_cons_zero, List.set_cons_succ, Option.toList_some, Option.toList_none, List.cons_append, List.nil_append, zif, zW_ite, zfit_0, zfit_1, zfit_2, zfit_3, zisc_o, zRt_c, zRt_b, List.map_cons, List.map_nil, List.sum_cons, List.sum_nil, true_and, and_true, if_true, if_false, ite_true, ite_false, Nat.reduceLT, Nat.reduceLeDiff, Nat.reduceAdd, Nat.reduceEqDiff, eq_self, not_true_eq_false, not_false_eq_true, Nat.lt_irrefl, or_true, true_or, or_false, false_or, z_cell_lt, Value.category, toldSet_b, hb0, c1, nI_1]
      exact ih
    · simp only [c2, if_false] at ih
      have c3 : ¬ nI o = nI i := by rw [nI_eqI (by omega) (by omega)]; exact c2
      simp only [eX9_hide_0, eX9_hide_1, eX9_hide_2, eX9_hide_5, eX9_hide_8, eX9_hide_9, eX9_hide_10, eX9_hide_11, eX9_hide_14, eX9_hide_15, eX9_hide_16, eX9_hide_17, eX9_hide_20, eX9_hide_21, eX9_hide_22, eX9_hide_23, eX9_hide_26, eX9_hide_27, eX9_hide_28, eX9_hide_31, eX9_hide_33, eX9_hide_34, eX9_hide_35, eX9_hide_37, eX9_hide_38, eX9_hide_41, eX9_hide_44, eX9_hide_45, eX9_hide_46, eX9_hide_49, eX9_hide_50, eX9_hide_51, eX9_hide_52, eX9_hide_53, eX9_hide_56, eX9_hide_59, eX9_hide_62, eX9_hide_63, rX9_hide, zg_aload, zg_bipush, zg_getfield, zg_goto, zg_iaload, zg_icmp, zg_iconst, zg_if, zg_iinc, zg_iload, zg_ior, zg_ireturn, zg_is1, zg_istore, zg_iv1, zg_iv3, q10, q01, q00, ite_self, zLd_i, zLd_l, zLd_a, zInc_i, zGet_o, zGet2_s, zPut_o, zAld_i, zAll_j, zAst_i, zAsl_j, zLen_i, zLen_j, zRt_i, zRt_z, zRl2_l, zRv_n, List.getElem?_cons_zero, List.getElem?_cons_succ, List.length_cons, List.length_nil, z_set, z_set2, z_cut, List.set_cons_zero, List.set_cons_succ, Option.toList_some, Option.toList_none, List.cons_append, List.nil_append, zif, zW_ite, zfit_0, zfit_1, zfit_2, zfit_3, zisc_o, zRt_c, zRt_b, List.map_cons, List.map_nil, List.sum_cons, List.sum_nil, true_and, and_true, if_true, if_false, ite_true, ite_false, Nat.reduceLT, Nat.reduceLeDiff, Nat.reduceAdd, Nat.reduceEqDiff, eq_self, not_true_eq_false, not_false_eq_true, Nat.lt_irrefl, or_true, true_or, or_false, false_or, z_cell_lt, Value.category, toldSet_b, hb0, c1, nI_1, c3, c_put hTk (show i < 7 by omega) (show o < 7 by omega) (Ne.symm c2), toldSet_set, q_vr, show decide ((2 : Int32) = 1) = false from rfl, show decide ((2 : Int32) = 0) = false from rfl]
      exact ih
theorem c_hide_no (hT : toldAt h b n rm mt nt fm vr) {g : Int32} (hg : hasB n g = false) : zK (d + 3) 116 [.ref b, .int g] (h, u) Q = Q (some (.int (-1)), (h, u)) := by
  obtain ⟨hb, h0, -⟩ := id hT
  have hb0 : b < 1000 := by omega
  refine zK_of (k := 3) (by omega) ?_
  refine zK_in (M := MX9_hide) rfl (Nat.le_of_ble_eq_true rfl) ?_
  show zW 2 MX9_hide 0 ([.ref b, .int g, .null, .null], [], (h, u)) _
  simp only [eX9_hide_0, eX9_hide_1, eX9_hide_2, eX9_hide_5, eX9_hide_8, eX9_hide_9, eX9_hide_10, eX9_hide_11, eX9_hide_14, eX9_hide_15, eX9_hide_16, eX9_hide_17, eX9_hide_20, eX9_hide_21, eX9_hide_22, eX9_hide_23, eX9_hide_26, eX9_hide_27, eX9_hide_28, eX9_hide_31, eX9_hide_33, eX9_hide_34, eX9_hide_35, eX9_hide_37, eX9_hide_38, eX9_hide_41, eX9_hide_44, eX9_hide_45, eX9_hide_46, eX9_hide_49, eX9_hide_50, eX9_hide_51, eX9_hide_52, eX9_hide_53, eX9_hide_56, eX9_hide_59, eX9_hide_62, eX9_hide_63, rX9_hide, zg_aload, zg_bipush, zg_getfield, zg_goto, zg_iaload, zg_icmp, zg_iconst, zg_if, zg_iinc, zg_iload, zg_ior, zg_ireturn, zg_is1, zg_istore, zg_iv1, zg_iv3, q10, q01, q00, ite_self, zLd_i, zLd_l, zLd_a, zInc_i, zGet_o, zGet2_s, zPut_o, zAld_i, zAll_j, zAst_i, zAsl_j, zLen_i, zLen_j, zRt_i, zRt_z, zRl2_l, zRv_n, List.getElem?_cons_zero, List.getElem?_cons_succ, List.length_cons, List.length_nil, z_set, z_set2, z_cut, List.set_cons_zero, List.set_cons_succ, Option.toList_some, Option.toList_none, List.cons_append, List.nil_append, zif, zW_ite, zfit_0, zfit_1, zfit_2, zfit_3, zisc_o, zRt_c, zRt_b, List.map_cons, List.map_nil, List.sum_cons, List.sum_nil, true_and, and_true, if_true, if_false, ite_true, ite_false, Nat.reduceLT, Nat.reduceLeDiff, Nat.reduceAdd, Nat.reduceEqDiff, eq_self, not_true_eq_false, not_false_eq_true, Nat.lt_irrefl, or_true, true_or, or_false, false_or, z_cell_lt, Value.category, h0, hb0, c_has hT, hg, Bool.false_eq_true]
theorem c_hide (hT : toldAt h b n rm mt nt fm vr) {i : Nat} (hi : i < n) : zK (d + 3) 116 [.ref b, .int (nI i)] (h, u) Q = if pop (mt i ||| nt i) = 0 then Q (some (.int (-2)), (h, u)) else Q (some (.int (nI (pop (mt i ||| nt i)))), (toldSet h b n rm (hdF mt i n) (hdF nt i n) fm (vr + nI (hdC i n)), u)) := by
  obtain ⟨hb, h0, h1, h2, h3, hn, hr, hm, ht⟩ := id hT
  have hb0 : b < 1000 := by omega
  have hb2 : b + 2 < 1000 := by omega
  have hb3 : b + 3 < 1000 := by omega
  have hi7 : i < 7 := by omega
  have pl := pop_le (mt i ||| nt i)
  have w := w_hide (d := 0) (u := u) (c := pop (mt i ||| nt i)) hT hi n 0 (by omega) (by omega)
  rw [show hdF mt i 0 = mt from rfl, show hdF nt i 0 = nt from rfl, show hdC i 0 = 0 from rfl, q_vr0, toldSet_self hT] at w
  have q0 : (nI (pop (mt i ||| nt i)) = 0) = (pop (mt i ||| nt i) = 0) := nI_eqI (b := 0) (by omega) (by omega)
  by_cases c : pop (mt i ||| nt i) = 0
  · rw [if_pos c]
    refine zK_of (k := 3) (by omega) ?_
    refine zK_in (M := MX9_hide) rfl (Nat.le_of_ble_eq_true rfl) ?_
    show zW 2 MX9_hide 0 ([.ref b, .int (nI i), .null, .null], [], (h, u)) _
    simp only [eX9_hide_0, eX9_hide_1, eX9_hide_2, eX9_hide_5, eX9_hide_8, eX9_hide_9, eX9_hide_10, eX9_hide_11, eX9_hide_14, eX9_hide_15, eX9_hide_16, eX9_hide_17, eX9_hide_20, eX9_hide_21, eX9_hide_22, eX9_hide_23, eX9_hide_26, eX9_hide_27, eX9_hide_28, eX9_hide_31, eX9_hide_33, eX9_hide_34, eX9_hide_35, eX9_hide_37, eX9_hide_38, eX9_hide_41, eX9_hide_44, eX9_hide_45, eX9_hide_46, eX9_hide_49, eX9_hide_50, eX9_hide_51, eX9_hide_52, eX9_hide_53, eX9_hide_56, eX9_hide_59, eX9_hide_62, eX9_hide_63, rX9_hide, zg_aload, zg_bipush, zg_getfield, zg_goto, zg_iaload, zg_icmp, zg_iconst, zg_if, zg_iinc, zg_iload, zg_ior, zg_ireturn, zg_is1, zg_istore, zg_iv1, zg_iv3, q10, q01, q00, ite_self, zLd_i, zLd_l, zLd_a, zInc_i, zGet_o, zGet2_s, zPut_o, zAld_i, zAll_j, zAst_i, zAsl_j, zLen_i, zLen_j, zRt_i, zRt_z, zRl2_l, zRv_n, List.getElem?_cons_zero, List.getElem?_cons_succ, List.length_cons, List.length_nil, z_set, z_set2, z_cut, List.set_cons_zero, List.set_cons_succ, Option.toList_some, Option.toList_none, List.cons_append, List.nil_append, zif, zW_ite, zfit_0, zfit_1, zfit_2, zfit_3, zisc_o, zRt_c, zRt_b, List.map_cons, List.map_nil, List.sum_cons, List.sum_nil, true_and, and_true, if_true, if_false, ite_true, ite_false, Nat.reduceLT, Nat.reduceLeDiff, Nat.reduceAdd, Nat.reduceEqDiff, eq_self, not_true_eq_false, not_false_eq_true, Nat.lt_irrefl, or_true, true_or, or_false, false_or, z_cell_lt, Value.category, h0, h2, h3, hb0, hb2, hb3, c_has hT, hasB_in hn hi, nI_7 hi7, nI_c hi7, q_or, c_bc (q_or_lt (hm i) (ht i)), q0, c, nI_0]
  · rw [if_neg c]
    refine zK_of (k := 3) (by omega) ?_
    refine zK_in (M := MX9_hide) rfl (Nat.le_of_ble_eq_true rfl) ?_
    show zW 2 MX9_hide 0 ([.ref b, .int (nI i), .null, .null], [], (h, u)) _
    simp only [eX9_hide_0, eX9_hide_1, eX9_hide_2, eX9_hide_5, eX9_hide_8, eX9_hide_9, eX9_hide_10, eX9_hide_11, eX9_hide_14, eX9_hide_15, eX9_hide_16, eX9_hide_17, eX9_hide_20, eX9_hide_21, eX9_hide_22, eX9_hide_23, eX9_hide_26, eX9_hide_27, eX9_hide_28, eX9_hide_31, eX9_hide_33, eX9_hide_34, eX9_hide_35, eX9_hide_37, eX9_hide_38, eX9_hide_41, eX9_hide_44, eX9_hide_45, eX9_hide_46, eX9_hide_49, eX9_hide_50, eX9_hide_51, eX9_hide_52, eX9_hide_53, eX9_hide_56, eX9_hide_59, eX9_hide_62, eX9_hide_63, rX9_hide, zg_aload, zg_bipush, zg_getfield, zg_goto, zg_iaload, zg_icmp, zg_iconst, zg_if, zg_iinc, zg_iload, zg_ior, zg_ireturn, zg_is1, zg_istore, zg_iv1, zg_iv3, q10, q01, q00, ite_self, zLd_i, zLd_l, zLd_a, zInc_i, zGet_o, zGet2_s, zPut_o, zAld_i, zAll_j, zAst_i, zAsl_j, zLen_i, zLen_j, zRt_i, zRt_z, zRl2_l, zRv_n, List.getElem?_cons_zero, List.getElem?_cons_succ, List.length_cons, List.length_nil, z_set, z_set2, z_cut, List.set_cons_zero, List.set_cons_succ, Option.toList_some, Option.toList_none, List.cons_append, List.nil_append, zif, zW_ite, zfit_0, zfit_1, zfit_2, zfit_3, zisc_o, zRt_c, zRt_b, List.map_cons, List.map_nil, List.sum_cons, List.sum_nil, true_and, and_true, if_true, if_false, ite_true, ite_false, Nat.reduceLT, Nat.reduceLeDiff, Nat.reduceAdd, Nat.reduceEqDiff, eq_self, not_true_eq_false, not_false_eq_true, Nat.lt_irrefl, or_true, true_or, or_false, false_or, z_cell_lt, Value.category, h0, h2, h3, hb0, hb2, hb3, c_has hT, hasB_in hn hi, nI_7 hi7, nI_c hi7, q_or, c_bc (q_or_lt (hm i) (ht i)), q0, c]
    exact w
theorem c_move_no (hT : toldAt h b n rm mt nt fm vr) {g w : Int32} (hno : hasB n g = false ∨ w < 0 ∨ 9 < w) : zK (d + 2) 118 [.ref b, .int g, .int w] (h, u) Q = Q (some (.int (-1)), (h, u)) := by
  obtain ⟨hb, h0, -⟩ := id hT
  have hb0 : b < 1000 := by omega
  refine zK_of (k := 2) (by omega) ?_
  refine zK_in (M := MX9_move) rfl (Nat.le_of_ble_eq_true rfl) ?_
  show zW 1 MX9_move 0 ([.ref b, .int g, .int w, .null], [], (h, u)) _
  rcases hno with c | c | c
  · simp only [eX9_move_0, eX9_move_1, eX9_move_2, eX9_move_5, eX9_move_8, eX9_move_9, eX9_move_12, eX9_move_13, eX9_move_15, eX9_move_18, eX9_move_19, eX9_move_20, eX9_move_21, eX9_move_24, eX9_move_25, eX9_move_26, eX9_move_27, eX9_move_28, eX9_move_29, eX9_move_32, eX9_move_34, eX9_move_35, eX9_move_36, eX9_move_39, eX9_move_40, eX9_move_41, eX9_move_42, eX9_move_43, eX9_move_44, eX9_move_47, eX9_move_48, eX9_move_49, eX9_move_52, eX9_move_53, rX9_move, zg_aload, zg_bipush, zg_dup, zg_getfield, zg_iadd, zg_iaload, zg_iastore, zg_icmp, zg_iconst, zg_if, zg_iload, zg_ireturn, zg_istore, zg_iv1, zg_putfield, q10, q01, q00, ite_self, zLd_i, zLd_l, zLd_a, zInc_i, zGet_o, zGet2_s, zPut_o, zAld_i, zAll_j, zAst_i, zAsl_j, zLen_i, zLen_j, zRt_i, zRt_z, zRl2_l, zRv_n, List.getElem?_cons_zero, List.getElem?_cons_succ, List.length_cons, List.length_nil, z_set, z_set2, z_cut, List.set_cons_zero, List.set_cons_succ, Option.toList_some, Option.toList_none, List.cons_append, List.nil_append, zif, zW_ite, zfit_0, zfit_1, zfit_2, zfit_3, zisc_o, zRt_c, zRt_b, List.map_cons, List.map_nil, List.sum_cons, List.sum_nil, true_and, and_true, if_true, if_false, ite_true, ite_false, Nat.reduceLT, Nat.reduceLeDiff, Nat.reduceAdd, Nat.reduceEqDiff, eq_self, not_true_eq_false, not_false_eq_true, Nat.lt_irrefl, or_true, true_or, or_false, false_or, z_cell_lt, Value.category, h0, hb0, c_has hT, c, Bool.false_eq_true]
  · simp only [eX9_move_0, eX9_move_1, eX9_move_2, eX9_move_5, eX9_move_8, eX9_move_9, eX9_move_12, eX9_move_13, eX9_move_15, eX9_move_18, eX9_move_19, eX9_move_20, eX9_move_21, eX9_move_24, eX9_move_25, eX9_move_26, eX9_move_27, eX9_move_28, eX9_move_29, eX9_move_32, eX9_move_34, eX9_move_35, eX9_move_36, eX9_move_39, eX9_move_40, eX9_move_41, eX9_move_42, eX9_move_43, eX9_move_44, eX9_move_47, eX9_move_48, eX9_move_49, eX9_move_52, eX9_move_53, rX9_move, zg_aload, zg_bipush, zg_dup, zg_getfield, zg_iadd, zg_iaload, zg_iastore, zg_icmp, zg_iconst, zg_if, zg_iload, zg_ireturn, zg_istore, zg_iv1, zg_putfield, q10, q01, q00, ite_self, zLd_i, zLd_l, zLd_a, zInc_i, zGet_o, zGet2_s, zPut_o, zAld_i, zAll_j, zAst_i, zAsl_j, zLen_i, zLen_j, zRt_i, zRt_z, zRl2_l, zRv_n, List.getElem?_cons_zero, List.getElem?_cons_succ, List.length_cons, List.length_nil, z_set, z_set2, z_cut, List.set_cons_zero, List.set_cons_succ, Option.toList_some, Option.toList_none, List.cons_append, List.nil_append, zif, zW_ite, zfit_0, zfit_1, zfit_2, zfit_3, zisc_o, zRt_c, zRt_b, List.map_cons, List.map_nil, List.sum_cons, List.sum_nil, true_and, and_true, if_true, if_false, ite_true, ite_false, Nat.reduceLT, Nat.reduceLeDiff, Nat.reduceAdd, Nat.reduceEqDiff, eq_self, not_true_eq_false, not_false_eq_true, Nat.lt_irrefl, or_true, true_or, or_false, false_or, z_cell_lt, Value.category, h0, hb0, c_has hT, c]
  · simp only [eX9_move_0, eX9_move_1, eX9_move_2, eX9_move_5, eX9_move_8, eX9_move_9, eX9_move_12, eX9_move_13, eX9_move_15, eX9_move_18, eX9_move_19, eX9_move_20, eX9_move_21, eX9_move_24, eX9_move_25, eX9_move_26, eX9_move_27, eX9_move_28, eX9_move_29, eX9_move_32, eX9_move_34, eX9_move_35, eX9_move_36, eX9_move_39, eX9_move_40, eX9_move_41, eX9_move_42, eX9_move_43, eX9_move_44, eX9_move_47, eX9_move_48, eX9_move_49, eX9_move_52, eX9_move_53, rX9_move, zg_aload, zg_bipush, zg_dup, zg_getfield, zg_iadd, zg_iaload, zg_iastore, zg_icmp, zg_iconst, zg_if, zg_iload, zg_ireturn, zg_istore, zg_iv1, zg_putfield, q10, q01, q00, ite_self, zLd_i, zLd_l, zLd_a, zInc_i, zGet_o, zGet2_s, zPut_o, zAld_i, zAll_j, zAst_i, zAsl_j, zLen_i, zLen_j, zRt_i, zRt_z, zRl2_l, zRv_n, List.getElem?_cons_zero, List.getElem?_cons_succ, List.length_cons, List.length_nil, z_set, z_set2, z_cut, List.set_cons_zero, List.set_cons_succ, Option.toList_some, Option.toList_none, List.cons_append, List.nil_append, zif, zW_ite, zfit_0, zfit_1, zfit_2, zfit_3, zisc_o, zRt_c, zRt_b, List.map_cons, List.map_nil, List.sum_cons, List.sum_nil, true_and, and_true, if_true, if_false, ite_true, ite_false, Nat.reduceLT, Nat.reduceLeDiff, Nat.reduceAdd, Nat.reduceEqDiff, eq_self, not_true_eq_false, not_false_eq_true, Nat.lt_irrefl, or_true, true_or, or_false, false_or, z_cell_lt, Value.category, h0, hb0, c_has hT, c]
theorem toldUp_b {v : Int32} {f : Bool} : z_up (toldSet h b n rm mt nt fm vr) b (zO 9 [.ref (b + 1), .ref (b + 2), .ref (b + 3), .int (nI n), .int (if f then 1 else 0), .int v]) = toldSet h b n rm mt nt f v := by
  apply toldSet_of
  · intro k hk; rw [z_up_n _ _ (by omega), toldSet_out hk]
  · rw [z_up_s]
  · rw [z_up_n _ _ (by omega)]; simp [toldSet]
  · rw [z_up_n _ _ (by omega)]; simp [toldSet]
  · rw [z_up_n _ _ (by omega)]; simp [toldSet]
theorem c_move (hT : toldAt h b n rm mt nt fm vr) {i w : Nat} (hi : i < n) (hw : w ≤ 9) : zK (d + 2) 118 [.ref b, .int (nI i), .int (nI w)] (h, u) Q = if rm i = w then Q (some (.int (-2)), (h, u)) else Q (some (.int (nI (rm i))), (toldSet h b n (z_up rm i w) mt nt fm (vr + 1), u)) := by
  obtain ⟨hb, h0, h1, h2, h3, hn, hr, hm, ht⟩ := id hT
  have hb0 : b < 1000 := by omega
  have hb1 : b + 1 < 1000 := by omega
  have hi7 : i < 7 := by omega
  have ri := hr i
  have c4 : ¬ nI w < 0 := nI_pos (by omega)
  have c5 : ¬ (9 : Int32) < nI w := by rw [show (9 : Int32) = nI 9 from rfl, nI_ult (by omega) (by omega)]; omega
  have q0 : (nI (rm i) = nI w) = (rm i = w) := nI_eqI (by omega) (by omega)
  have n0 : ∀ e, z_up h (b + 1) e b = h b := fun e => z_up_n h e (by omega)
  have key : z_up (z_up h (b + 1) (zI 0 7 (fun k => nI (z_up rm i w k)))) b (zO 9 [.ref (b + 1), .ref (b + 2), .ref (b + 3), .int (nI n), .int (if fm then 1 else 0), .int (vr + 1)]) = toldSet h b n (z_up rm i w) mt nt fm (vr + 1) := by
    apply toldSet_of
    · intro k hk; rw [z_up_n _ _ (by omega), z_up_n _ _ (by omega)]
    · rw [z_up_s]
    · rw [z_up_n _ _ (by omega), z_up_s]
    · rw [z_up_n _ _ (by omega), z_up_n _ _ (by omega)]; exact h2
    · rw [z_up_n _ _ (by omega), z_up_n _ _ (by omega)]; exact h3
  by_cases c : rm i = w
  · rw [if_pos c]
    refine zK_of (k := 2) (by omega) ?_
    refine zK_in (M := MX9_move) rfl (Nat.le_of_ble_eq_true rfl) ?_
    show zW 1 MX9_move 0 ([.ref b, .int (nI i), .int (nI w), .null], [], (h, u)) _
    simp only [eX9_move_0, eX9_move_1, eX9_move_2, eX9_move_5, eX9_move_8, eX9_move_9, eX9_move_12, eX9_move_13, eX9_move_15, eX9_move_18, eX9_move_19, eX9_move_20, eX9_move_21, eX9_move_24, eX9_move_25, eX9_move_26, eX9_move_27, eX9_move_28, eX9_move_29, eX9_move_32, eX9_move_34, eX9_move_35, eX9_move_36, eX9_move_39, eX9_move_40, eX9_move_41, eX9_move_42, eX9_move_43, eX9_move_44, eX9_move_47, eX9_move_48, eX9_move_49, eX9_move_52, eX9_move_53, rX9_move, zg_aload, zg_bipush, zg_dup, zg_getfield, zg_iadd, zg_iaload, zg_iastore, zg_icmp, zg_iconst, zg_if, zg_iload, zg_ireturn, zg_istore, zg_iv1, zg_putfield, q10, q01, q00, ite_self, zLd_i, zLd_l, zLd_a, zInc_i, zGet_o, zGet2_s, zPut_o, zAld_i, zAll_j, zAst_i, zAsl_j, zLen_i, zLen_j, zRt_i, zRt_z, zRl2_l, zRv_n, List.getElem?_cons_zero, List.getElem?_cons_succ, List.length_cons, List.length_nil, z_set, z_set2, z_cut, List.set_cons_zero, List.set_cons_succ, Option.toList_some, Option.toList_none, List.cons_append, List.nil_append, zif, zW_ite, zfit_0, zfit_1, zfit_2, zfit_3, zisc_o, zRt_c, zRt_b, List.map_cons, List.map_nil, List.sum_cons, List.sum_nil, true_and, and_true, if_true, if_false, ite_true, ite_false, Nat.reduceLT, Nat.reduceLeDiff, Nat.reduceAdd, Nat.reduceEqDiff, eq_self, not_true_eq_false, not_false_eq_true, Nat.lt_irrefl, or_true, true_or, or_false, false_or, z_cell_lt, Value.category, h0, h1, hb0, hb1, c_has hT, hasB_in hn hi, c4, c5, nI_7 hi7, nI_c hi7, q0, c]
  · rw [if_neg c]
    refine zK_of (k := 2) (by omega) ?_
    refine zK_in (M := MX9_move) rfl (Nat.le_of_ble_eq_true rfl) ?_
    show zW 1 MX9_move 0 ([.ref b, .int (nI i), .int (nI w), .null], [], (h, u)) _
    simp only [eX9_move_0, eX9_move_1, eX9_move_2, eX9_move_5, eX9_move_8, eX9_move_9, eX9_move_12, eX9_move_13, eX9_move_15, eX9_move_18, eX9_move_19, eX9_move_20, eX9_move_21, eX9_move_24, eX9_move_25, eX9_move_26, eX9_move_27, eX9_move_28, eX9_move_29, eX9_move_32, eX9_move_34, eX9_move_35, eX9_move_36, eX9_move_39, eX9_move_40, eX9_move_41, eX9_move_42, eX9_move_43, eX9_move_44, eX9_move_47, eX9_move_48, eX9_move_49, eX9_move_52, eX9_move_53, rX9_move, zg_aload, zg_bipush, zg_dup, zg_getfield, zg_iadd, zg_iaload, zg_iastore, zg_icmp, zg_iconst, zg_if, zg_iload, zg_ireturn, zg_istore, zg_iv1, zg_putfield, q10, q01, q00, ite_self, zLd_i, zLd_l, zLd_a, zInc_i, zGet_o, zGet2_s, zPut_o, zAld_i, zAll_j, zAst_i, zAsl_j, zLen_i, zLen_j, zRt_i, zRt_z, zRl2_l, zRv_n, List.getElem?_cons_zero, List.getElem?_cons_succ, List.length_cons, List.length_nil, z_set, z_set2, z_cut, List.set_cons_zero, List.set_cons_succ, Option.toList_some, Option.toList_none, List.cons_append, List.nil_append, zif, zW_ite, zfit_0, zfit_1, zfit_2, zfit_3, zisc_o, zRt_c, zRt_b, List.map_cons, List.map_nil, List.sum_cons, List.sum_nil, true_and, and_true, if_true, if_false, ite_true, ite_false, Nat.reduceLT, Nat.reduceLeDiff, Nat.reduceAdd, Nat.reduceEqDiff, eq_self, not_true_eq_false, not_false_eq_true, Nat.lt_irrefl, or_true, true_or, or_false, false_or, z_cell_lt, Value.category, h0, h1, hb0, hb1, c_has hT, hasB_in hn hi, c4, c5, nI_7 hi7, nI_c hi7, q0, c, q_upd, n0, key]
theorem c_firm_no (hT : toldAt h b n rm mt nt fm vr) {v : Int32} (h1 : ¬ v = 0) (h2 : ¬ v = 1) : zK (d + 1) 119 [.ref b, .int v] (h, u) Q = Q (some (.int (-1)), (h, u)) := by
  obtain ⟨hb, h0, -⟩ := id hT
  have hb0 : b < 1000 := by omega
  refine zK_of (k := 1) (by omega) ?_
  refine zK_in (M := MX9_makeFirm) rfl (Nat.le_of_ble_eq_true rfl) ?_
  show zW 0 MX9_makeFirm 0 ([.ref b, .int v, .null], [], (h, u)) _
  simp only [eX9_makeFirm_0, eX9_makeFirm_1, eX9_makeFirm_4, eX9_makeFirm_5, eX9_makeFirm_6, eX9_makeFirm_9, eX9_makeFirm_10, eX9_makeFirm_11, eX9_makeFirm_12, eX9_makeFirm_15, eX9_makeFirm_18, eX9_makeFirm_19, eX9_makeFirm_22, eX9_makeFirm_23, eX9_makeFirm_24, eX9_makeFirm_25, eX9_makeFirm_26, eX9_makeFirm_27, eX9_makeFirm_30, eX9_makeFirm_31, eX9_makeFirm_34, eX9_makeFirm_35, eX9_makeFirm_38, eX9_makeFirm_39, eX9_makeFirm_40, eX9_makeFirm_43, eX9_makeFirm_44, eX9_makeFirm_45, eX9_makeFirm_48, eX9_makeFirm_49, rX9_makeFirm, zg_aload, zg_dup, zg_getfield, zg_goto, zg_iadd, zg_icmp, zg_iconst, zg_if, zg_iload, zg_ireturn, zg_istore, zg_putfield, q10, q01, q00, ite_self, zLd_i, zLd_l, zLd_a, zInc_i, zGet_o, zGet2_s, zPut_o, zAld_i, zAll_j, zAst_i, zAsl_j, zLen_i, zLen_j, zRt_i, zRt_z, zRl2_l, zRv_n, List.getElem?_cons_zero, List.getElem?_cons_succ, List.length_cons, List.length_nil, z_set, z_set2, z_cut, List.set_cons_zero, List.set_cons_succ, Option.toList_some, Option.toList_none, List.cons_append, List.nil_append, zif, zW_ite, zfit_0, zfit_1, zfit_2, zfit_3, zisc_o, zRt_c, zRt_b, List.map_cons, List.map_nil, List.sum_cons, List.sum_nil, true_and, and_true, if_true, if_false, ite_true, ite_false, Nat.reduceLT, Nat.reduceLeDiff, Nat.reduceAdd, Nat.reduceEqDiff, eq_self, not_true_eq_false, not_false_eq_true, Nat.lt_irrefl, or_true, true_or, or_false, false_or, z_cell_lt, Value.category, h0, hb0, h1, h2]
theorem c_firm (hT : toldAt h b n rm mt nt fm vr) {v : Bool} : zK (d + 1) 119 [.ref b, .int (if v then 1 else 0)] (h, u) Q = Q (some (.int (if fm then 1 else 0)), (toldSet h b n rm mt nt v (vr + 1), u)) := by
  obtain ⟨hb, h0, h1, h2, h3, hn, hr, hm, ht⟩ := id hT
  have hb0 : b < 1000 := by omega
  have key : ∀ (f : Bool) (a b1 b2 b3 : Value), z_up (z_up h b (zO 9 [b1, b2, b3, .int (nI n), .int (if f then 1 else 0), .int vr])) b (zO 9 [.ref (b + 1), .ref (b + 2), .ref (b + 3), .int (nI n), .int (if f then 1 else 0), .int (vr + 1)]) = toldSet h b n rm mt nt f (vr + 1) := by
    intro f a b1 b2 b3
    apply toldSet_of
    · intro k hk; rw [z_up_n _ _ (by omega), z_up_n _ _ (by omega)]
    · rw [z_up_s]
    · rw [z_up_n _ _ (by omega), z_up_n _ _ (by omega)]; exact h1
    · rw [z_up_n _ _ (by omega), z_up_n _ _ (by omega)]; exact h2
    · rw [z_up_n _ _ (by omega), z_up_n _ _ (by omega)]; exact h3
  have kt := key true .null
  have kf := key false .null
  simp only [if_true, Bool.false_eq_true, if_false] at kt kf
  refine zK_of (k := 1) (by omega) ?_
  refine zK_in (M := MX9_makeFirm) rfl (Nat.le_of_ble_eq_true rfl) ?_
  show zW 0 MX9_makeFirm 0 ([.ref b, .int (if v then 1 else 0), .null], [], (h, u)) _
  cases v <;> cases fm <;> simp only [if_true, Bool.false_eq_true, if_false] at h0 ⊢
  · simp only [eX9_makeFirm_0, eX9_makeFirm_1, eX9_makeFirm_4, eX9_makeFirm_5, eX9_makeFirm_6, eX9_makeFirm_9, eX9_makeFirm_10, eX9_makeFirm_11, eX9_makeFirm_12, eX9_makeFirm_15, eX9_makeFirm_18, eX9_makeFirm_19, eX9_makeFirm_22, eX9_makeFirm_23, eX9_makeFirm_24, eX9_makeFirm_25, eX9_makeFirm_26, eX9_makeFirm_27, eX9_makeFirm_30, eX9_makeFirm_31, eX9_makeFirm_34, eX9_makeFirm_35, eX9_makeFirm_38, eX9_makeFirm_39, eX9_makeFirm_40, eX9_makeFirm_43, eX9_makeFirm_44, eX9_makeFirm_45, eX9_makeFirm_48, eX9_makeFirm_49, rX9_makeFirm, zg_aload, zg_dup, zg_getfield, zg_goto, zg_iadd, zg_icmp, zg_iconst, zg_if, zg_iload, zg_ireturn, zg_istore, zg_putfield, q10, q01, q00, ite_self, zLd_i, zLd_l, zLd_a, zInc_i, zGet_o, zGet2_s, zPut_o, zAld_i, zAll_j, zAst_i, zAsl_j, zLen_i, zLen_j, zRt_i, zRt_z, zRl2_l, zRv_n, List.getElem?_cons_zero, List.getElem?_cons_succ, List.length_cons, List.length_nil, z_set, z_set2, z_cut, List.set_cons_zero, List.set_cons_succ, Option.toList_some, Option.toList_none, List.cons_append, List.nil_append, zif, zW_ite, zfit_0, zfit_1, zfit_2, zfit_3, zisc_o, zRt_c, zRt_b, List.map_cons, List.map_nil, List.sum_cons, List.sum_nil, true_and, and_true, if_true, if_false, ite_true, ite_false, Nat.reduceLT, Nat.reduceLeDiff, Nat.reduceAdd, Nat.reduceEqDiff, eq_self, not_true_eq_false, not_false_eq_true, Nat.lt_irrefl, or_true, true_or, or_false, false_or, z_cell_lt, Value.category, h0, hb0, z_up_s, kf]
  · simp only [eX9_makeFirm_0, eX9_makeFirm_1, eX9_makeFirm_4, eX9_makeFirm_5, eX9_makeFirm_6, eX9_makeFirm_9, eX9_makeFirm_10, eX9_makeFirm_11, eX9_makeFirm_12, eX9_makeFirm_15, eX9_makeFirm_18, eX9_makeFirm_19, eX9_makeFirm_22, eX9_makeFirm_23, eX9_makeFirm_24, eX9_makeFirm_25, eX9_makeFirm_26, eX9_makeFirm_27, eX9_makeFirm_30, eX9_makeFirm_31, eX9_makeFirm_34, eX9_makeFirm_35, eX9_makeFirm_38, eX9_makeFirm_39, eX9_makeFirm_40, eX9_makeFirm_43, eX9_makeFirm_44, eX9_makeFirm_45, eX9_makeFirm_48, eX9_makeFirm_49, rX9_makeFirm, zg_aload, zg_dup, zg_getfield, zg_goto, zg_iadd, zg_icmp, zg_iconst, zg_if, zg_iload, zg_ireturn, zg_istore, zg_putfield, q10, q01, q00, ite_self, zLd_i, zLd_l, zLd_a, zInc_i, zGet_o, zGet2_s, zPut_o, zAld_i, zAll_j, zAst_i, zAsl_j, zLen_i, zLen_j, zRt_i, zRt_z, zRl2_l, zRv_n, List.getElem?_cons_zero, List.getElem?_cons_succ, List.length_cons, List.length_nil, z_set, z_set2, z_cut, List.set_cons_zero, List.set_cons_succ, Option.toList_some, Option.toList_none, List.cons_append, List.nil_append, zif, zW_ite, zfit_0, zfit_1, zfit_2, zfit_3, zisc_o, zRt_c, zRt_b, List.map_cons, List.map_nil, List.sum_cons, List.sum_nil, true_and, and_true, if_true, if_false, ite_true, ite_false, Nat.reduceLT, Nat.reduceLeDiff, Nat.reduceAdd, Nat.reduceEqDiff, eq_self, not_true_eq_false, not_false_eq_true, Nat.lt_irrefl, or_true, true_or, or_false, false_or, z_cell_lt, Value.category, h0, hb0, z_up_s, kf]
  · simp only [eX9_makeFirm_0, eX9_makeFirm_1, eX9_makeFirm_4, eX9_makeFirm_5, eX9_makeFirm_6, eX9_makeFirm_9, eX9_makeFirm_10, eX9_makeFirm_11, eX9_makeFirm_12, eX9_makeFirm_15, eX9_makeFirm_18, eX9_makeFirm_19, eX9_makeFirm_22, eX9_makeFirm_23, eX9_makeFirm_24, eX9_makeFirm_25, eX9_makeFirm_26, eX9_makeFirm_27, eX9_makeFirm_30, eX9_makeFirm_31, eX9_makeFirm_34, eX9_makeFirm_35, eX9_makeFirm_38, eX9_makeFirm_39, eX9_makeFirm_40, eX9_makeFirm_43, eX9_makeFirm_44, eX9_makeFirm_45, eX9_makeFirm_48, eX9_makeFirm_49, rX9_makeFirm, zg_aload, zg_dup, zg_getfield, zg_goto, zg_iadd, zg_icmp, zg_iconst, zg_if, zg_iload, zg_ireturn, zg_istore, zg_putfield, q10, q01, q00, ite_self, zLd_i, zLd_l, zLd_a, zInc_i, zGet_o, zGet2_s, zPut_o, zAld_i, zAll_j, zAst_i, zAsl_j, zLen_i, zLen_j, zRt_i, zRt_z, zRl2_l, zRv_n, List.getElem?_cons_zero, List.getElem?_cons_succ, List.length_cons, List.length_nil, z_set, z_set2, z_cut, List.set_cons_zero, List.set_cons_succ, Option.toList_some, Option.toList_none, List.cons_append, List.nil_append, zif, zW_ite, zfit_0, zfit_1, zfit_2, zfit_3, zisc_o, zRt_c, zRt_b, List.map_cons, List.map_nil, List.sum_cons, List.sum_nil, true_and, and_true, if_true, if_false, ite_true, ite_false, Nat.reduceLT, Nat.reduceLeDiff, Nat.reduceAdd, Nat.reduceEqDiff, eq_self, not_true_eq_false, not_false_eq_true, Nat.lt_irrefl, or_true, true_or, or_false, false_or, z_cell_lt, Value.category, h0, hb0, z_up_s, kt]
  · simp only [eX9_makeFirm_0, eX9_makeFirm_1, eX9_makeFirm_4, eX9_makeFirm_5, eX9_makeFirm_6, eX9_makeFirm_9, eX9_makeFirm_10, eX9_makeFirm_11, eX9_makeFirm_12, eX9_makeFirm_15, eX9_makeFirm_18, eX9_makeFirm_19, eX9_makeFirm_22, eX9_makeFirm_23, eX9_makeFirm_24, eX9_makeFirm_25, eX9_makeFirm_26, eX9_makeFirm_27, eX9_makeFirm_30, eX9_makeFirm_31, eX9_makeFirm_34, eX9_makeFirm_35, eX9_makeFirm_38, eX9_makeFirm_39, eX9_makeFirm_40, eX9_makeFirm_43, eX9_makeFirm_44, eX9_makeFirm_45, eX9_makeFirm_48, eX9_makeFirm_49, rX9_makeFirm, zg_aload, zg_dup, zg_getfield, zg_goto, zg_iadd, zg_icmp, zg_iconst, zg_if, zg_iload, zg_ireturn, zg_istore, zg_putfield, q10, q01, q00, ite_self, zLd_i, zLd_l, zLd_a, zInc_i, zGet_o, zGet2_s, zPut_o, zAld_i, zAll_j, zAst_i, zAsl_j, zLen_i, zLen_j, zRt_i, zRt_z, zRl2_l, zRv_n, List.getElem?_cons_zero, List.getElem?_cons_succ, List.length_cons, List.length_nil, z_set, z_set2, z_cut, List.set_cons_zero, List.set_cons_succ, Option.toList_some, Option.toList_none, List.cons_append, List.nil_append, zif, zW_ite, zfit_0, zfit_1, zfit_2, zfit_3, zisc_o, zRt_c, zRt_b, List.map_cons, List.map_nil, List.sum_cons, List.sum_nil, true_and, and_true, if_true, if_false, ite_true, ite_false, Nat.reduceLT, Nat.reduceLeDiff, Nat.reduceAdd, Nat.reduceEqDiff, eq_self, not_true_eq_false, not_false_eq_true, Nat.lt_irrefl, or_true, true_or, or_false, false_or, z_cell_lt, Value.category, h0, hb0, z_up_s, kt]
theorem w_rsum (hT : toldAt h b n rm mt nt fm vr) : ∀ k o, n - o = k → o ≤ n → zW d MX9_roomsTogether 4 ([.ref b, .int (nI (rsum rm o)), .int (nI o)], [], (h, u)) (fun q => q = (some (.int (nI (rsum rm n))), (h, u))) := by
  obtain ⟨hb, h0, h1, h2, h3, hn, hr, hm, ht⟩ := id hT
  have hb0 : b < 1000 := by omega
  have hb1 : b + 1 < 1000 := by omega
  intro k
  induction k with
  | zero =>
    intro o ho hle
    have e : o = n := by omega
    subst e
    rw [eX9_roomsTogether_4]
    simp only [eX9_roomsTogether_0, eX9_roomsTogether_1, eX9_roomsTogether_2, eX9_roomsTogether_3, eX9_roomsTogether_5, eX9_roomsTogether_6, eX9_roomsTogether_9, eX9_roomsTogether_12, eX9_roomsTogether_13, eX9_roomsTogether_14, eX9_roomsTogether_17, eX9_roomsTogether_18, eX9_roomsTogether_19, eX9_roomsTogether_20, eX9_roomsTogether_21, eX9_roomsTogether_24, eX9_roomsTogether_27, eX9_roomsTogether_28, rX9_roomsTogether, zg_aload, zg_getfield, zg_goto, zg_iadd, zg_iaload, zg_icmp, zg_iconst, zg_iinc, zg_iload, zg_ireturn, zg_istore, q10, q01, q00, ite_self, zLd_i, zLd_l, zLd_a, zInc_i, zGet_o, zGet2_s, zPut_o, zAld_i, zAll_j, zAst_i, zAsl_j, zLen_i, zLen_j, zRt_i, zRt_z, zRl2_l, zRv_n, List.getElem?_cons_zero, List.getElem?_cons_succ, List.length_cons, List.length_nil, z_set, z_set2, z_cut, List.set_cons_zero, List.set_cons_succ, Option.toList_some, Option.toList_none, List.cons_append, List.nil_append, zif, zW_ite, zfit_0, zfit_1, zfit_2, zfit_3, zisc_o, zRt_c, zRt_b, List.map_cons, List.map_nil, List.sum_cons, List.sum_nil, true_and, and_true, if_true, if_false, ite_true, ite_false, Nat.reduceLT, Nat.reduceLeDiff, Nat.reduceAdd, Nat.reduceEqDiff, eq_self, not_true_eq_false, not_false_eq_true, Nat.lt_irrefl, or_true, true_or, or_false, false_or, z_cell_lt, Value.category, h0, hb0, Int32.lt_irrefl]
  | succ k ih =>
    intro o ho hle
    have c1 : nI o < nI n := nI_lt (show o < n by omega) (by omega)
    rw [eX9_roomsTogether_4]
    simp only [eX9_roomsTogether_0, eX9_roomsTogether_1, eX9_roomsTogether_2, eX9_roomsTogether_3, eX9_roomsTogether_5, eX9_roomsTogether_6, eX9_roomsTogether_9, eX9_roomsTogether_12, eX9_roomsTogether_13, eX9_roomsTogether_14, eX9_roomsTogether_17, eX9_roomsTogether_18, eX9_roomsTogether_19, eX9_roomsTogether_20, eX9_roomsTogether_21, eX9_roomsTogether_24, eX9_roomsTogether_27, eX9_roomsTogether_28, rX9_roomsTogether, zg_aload, zg_getfield, zg_goto, zg_iadd, zg_iaload, zg_icmp, zg_iconst, zg_iinc, zg_iload, zg_ireturn, zg_istore, q10, q01, q00, ite_self, zLd_i, zLd_l, zLd_a, zInc_i, zGet_o, zGet2_s, zPut_o, zAld_i, zAll_j, zAst_i, zAsl_j, zLen_i, zLen_j, zRt_i, zRt_z, zRl2_l, zRv_n, List.getElem?_cons_zero, List.getElem?_cons_succ, List.length_cons, List.length_nil, z_set, z_set2, z_cut, List.set_cons_zero, List.set_cons_succ, Option.toList_some, Option.toList_none, List.cons_append, List.nil_append, zif, zW_ite, zfit_0, zfit_1, zfit_2, zfit_3, zisc_o, zRt_c, zRt_b, List.map_cons, List.map_nil, List.sum_cons, List.sum_nil, true_and, and_true, if_true, if_false, ite_true, ite_false, Nat.reduceLT, Nat.reduceLeDiff, Nat.reduceAdd, Nat.reduceEqDiff, eq_self, not_true_eq_false, not_false_eq_true, Nat.lt_irrefl, or_true, true_or, or_false, false_or, z_cell_lt, Value.category, h0, h1, hb0, hb1, c1, nI_1, nI_7 (show o < 7 by omega), nI_c (show o < 7 by omega), nI_add]
    exact ih (o + 1) (by omega) (by omega)
theorem c_rsum (hT : toldAt h b n rm mt nt fm vr) : zK (d + 1) 121 [.ref b] (h, u) Q = Q (some (.int (nI (rsum rm n))), (h, u)) := by
  refine zK_of (k := 1) (by omega) ?_
  refine zK_in (M := MX9_roomsTogether) rfl (Nat.le_of_ble_eq_true rfl) ?_
  show zW 0 MX9_roomsTogether 0 ([.ref b, .null, .null], [], (h, u)) _
  simp only [eX9_roomsTogether_0, eX9_roomsTogether_1, eX9_roomsTogether_2, eX9_roomsTogether_3, eX9_roomsTogether_5, eX9_roomsTogether_6, eX9_roomsTogether_9, eX9_roomsTogether_12, eX9_roomsTogether_13, eX9_roomsTogether_14, eX9_roomsTogether_17, eX9_roomsTogether_18, eX9_roomsTogether_19, eX9_roomsTogether_20, eX9_roomsTogether_21, eX9_roomsTogether_24, eX9_roomsTogether_27, eX9_roomsTogether_28, rX9_roomsTogether, zg_aload, zg_getfield, zg_goto, zg_iadd, zg_iaload, zg_icmp, zg_iconst, zg_iinc, zg_iload, zg_ireturn, zg_istore, q10, q01, q00, ite_self, zLd_i, zLd_l, zLd_a, zInc_i, zGet_o, zGet2_s, zPut_o, zAld_i, zAll_j, zAst_i, zAsl_j, zLen_i, zLen_j, zRt_i, zRt_z, zRl2_l, zRv_n, List.getElem?_cons_zero, List.getElem?_cons_succ, List.length_cons, List.length_nil, z_set, z_set2, z_cut, List.set_cons_zero, List.set_cons_succ, Option.toList_some, Option.toList_none, List.cons_append, List.nil_append, zif, zW_ite, zfit_0, zfit_1, zfit_2, zfit_3, zisc_o, zRt_c, zRt_b, List.map_cons, List.map_nil, List.sum_cons, List.sum_nil, true_and, and_true, if_true, if_false, ite_true, ite_false, Nat.reduceLT, Nat.reduceLeDiff, Nat.reduceAdd, Nat.reduceEqDiff, eq_self, not_true_eq_false, not_false_eq_true, Nat.lt_irrefl, or_true, true_or, or_false, false_or, z_cell_lt, Value.category]
  exact w_rsum hT n 0 (by omega) (by omega)
theorem selM_lt {v i : Nat} (hT : toldAt h b n rm mt nt fm vr) : selM n mt nt v i < 128 := by
  obtain ⟨hb, h0, h1, h2, h3, hn, hr, hm, ht⟩ := hT
  unfold selM
  split
  · exact hm i
  · split
    · exact ht i
    · exact q_and_lt ((show ∀ n, n < 8 → 2 ^ n - 1 < 128 by decide) n (by omega))
theorem w_psum (hT : toldAt h b n rm mt nt fm vr) {v : Nat} (hv : v ≤ 2) {x4 : Value} : ∀ k o x4, n - o = k → o ≤ n → zW (d + 2) MX9_pairsTold 4 ([.ref b, .int (nI v), .int (nI (psum n mt nt v o)), .int (nI o), x4], [], (h, u)) (fun q => q = (some (.int (nI (psum n mt nt v n / 2))), (h, u))) := by
  obtain ⟨hb, h0, h1, h2, h3, hn, hr, hm, ht⟩ := id hT
  have hb0 : b < 1000 := by omega
  have hb2 : b + 2 < 1000 := by omega
  have hb3 : b + 3 < 1000 := by omega
  intro k
  induction k with
  | zero =>
    intro o x4 ho hle
    have e : o = n := by omega
    subst e
    have pl := psum_le (n := o) (mt := mt) (nt := nt) (v := v) o
    have ed : nI (psum o mt nt v o) / 2 = nI (psum o mt nt v o / 2) := pk_div (d := 2) (by omega) (by decide) (by decide)
    rw [eX9_pairsTold_4]
    simp only [eX9_pairsTold_0, eX9_pairsTold_1, eX9_pairsTold_2, eX9_pairsTold_3, eX9_pairsTold_5, eX9_pairsTold_6, eX9_pairsTold_9, eX9_pairsTold_12, eX9_pairsTold_13, eX9_pairsTold_14, eX9_pairsTold_17, eX9_pairsTold_18, eX9_pairsTold_21, eX9_pairsTold_22, eX9_pairsTold_23, eX9_pairsTold_26, eX9_pairsTold_27, eX9_pairsTold_30, eX9_pairsTold_31, eX9_pairsTold_34, eX9_pairsTold_35, eX9_pairsTold_36, eX9_pairsTold_39, eX9_pairsTold_40, eX9_pairsTold_41, eX9_pairsTold_44, eX9_pairsTold_46, eX9_pairsTold_47, eX9_pairsTold_49, eX9_pairsTold_52, eX9_pairsTold_53, eX9_pairsTold_54, eX9_pairsTold_57, eX9_pairsTold_60, eX9_pairsTold_61, eX9_pairsTold_62, eX9_pairsTold_63, rX9_pairsTold, zg_aload, zg_getfield, zg_goto, zg_iadd, zg_iaload, zg_icmp, zg_iconst, zg_idiv, zg_if, zg_iinc, zg_iload, zg_ireturn, zg_is1, zg_istore, zg_iv1, q10, q01, q00, ite_self, zLd_i, zLd_l, zLd_a, zInc_i, zGet_o, zGet2_s, zPut_o, zAld_i, zAll_j, zAst_i, zAsl_j, zLen_i, zLen_j, zRt_i, zRt_z, zRl2_l, zRv_n, List.getElem?_cons_zero, List.getElem?_cons_succ, List.length_cons, List.length_nil, z_set, z_set2, z_cut, List.set_cons_zero, List.set_cons_succ, Option.toList_some, Option.toList_none, List.cons_append, List.nil_append, zif, zW_ite, zfit_0, zfit_1, zfit_2, zfit_3, zisc_o, zRt_c, zRt_b, List.map_cons, List.map_nil, List.sum_cons, List.sum_nil, true_and, and_true, if_true, if_false, ite_true, ite_false, Nat.reduceLT, Nat.reduceLeDiff, Nat.reduceAdd, Nat.reduceEqDiff, eq_self, not_true_eq_false, not_false_eq_true, Nat.lt_irrefl, or_true, true_or, or_false, false_or, z_cell_lt, Value.category, h0, hb0, Int32.lt_irrefl, ed, show ((2 : Int32) = 0) = False from by decide]
  | succ k ih =>
    intro o x4 ho hle
    have c1 : nI o < nI n := nI_lt (show o < n by omega) (by omega)
    have ho7 : o < 7 := by omega
    have ih := fun x => ih (o + 1) x (by omega) (by omega)
    rw [show psum n mt nt v (o + 1) = psum n mt nt v o + pop (selM n mt nt v o) from rfl] at ih
    have sl := selM_lt (v := v) (i := o) hT
    have q1 : (nI v = 1) = (v = 1) := nI_eqI (b := 1) (by omega) (by omega)
    have q0 : (nI v = 0) = (v = 0) := nI_eqI (b := 0) (by omega) (by omega)
    rw [eX9_pairsTold_4]
    by_cases cv1 : v = 1
    · rw [show selM n mt nt v o = mt o from if_pos cv1] at ih sl
      simp only [eX9_pairsTold_0, eX9_pairsTold_1, eX9_pairsTold_2, eX9_pairsTold_3, eX9_pairsTold_5, eX9_pairsTold_6, eX9_pairsTold_9, eX9_pairsTold_12, eX9_pairsTold_13, eX9_pairsTold_14, eX9_pairsTold_17, eX9_pairsTold_18, eX9_pairsTold_21, eX9_pairsTold_22, eX9_pairsTold_23, eX9_pairsTold_26, eX9_pairsTold_27, eX9_pairsTold_30, eX9_pairsTold_31, eX9_pairsTold_34, eX9_pairsTold_35, eX9_pairsTold_36, eX9_pairsTold_39, eX9_pairsTold_40, eX9_pairsTold_41, eX9_pairsTold_44, eX9_pairsTold_46, eX9_pairsTold_47, eX9_pairsTold_49, eX9_pairsTold_52, eX9_pairsTold_53, eX9_pairsTold_54, eX9_pairsTold_57, eX9_pairsTold_60, eX9_pairsTold_61, eX9_pairsTold_62, eX9_pairsTold_63, rX9_pairsTold, zg_aload, zg_getfield, zg_goto, zg_iadd, zg_iaload, zg_icmp, zg_iconst, zg_idiv, zg_if, zg_iinc, zg_iload, zg_ireturn, zg_is1, zg_istore, zg_iv1, q10, q01, q00, ite_self, zLd_i, zLd_l, zLd_a, zInc_i, zGet_o, zGet2_s, zPut_o, zAld_i, zAll_j, zAst_i, zAsl_j, zLen_i, zLen_j, zRt_i, zRt_z, zRl2_l, zRv_n, List.getElem?_cons_zero, List.getElem?_cons_succ, List.length_cons, List.length_nil, z_set, z_set2, z_cut, List.set_cons_zero, List.set_cons_succ, Option.toList_some, Option.toList_none, List.cons_append, List.nil_append, zif, zW_ite, zfit_0, zfit_1, zfit_2, zfit_3, zisc_o, zRt_c, zRt_b, List.map_cons, List.map_nil, List.sum_cons, List.sum_nil, true_and, and_true, if_true, if_false, ite_true, ite_false, Nat.reduceLT, Nat.reduceLeDiff, Nat.reduceAdd, Nat.reduceEqDiff, eq_self, not_true_eq_false, not_false_eq_true, Nat.lt_irrefl, or_true, true_or, or_false, false_or, z_cell_lt, Value.category, h0, h2, hb0, hb2, c1, nI_1, nI_7 ho7, nI_c ho7, nI_add, q1, cv1, c_bc sl]
      subst cv1
      exact ih _
    · by_cases cv0 : v = 0
      · rw [show selM n mt nt v o = nt o from (if_neg cv1).trans (if_pos cv0)] at ih sl
        simp only [eX9_pairsTold_0, eX9_pairsTold_1, eX9_pairsTold_2, eX9_pairsTold_3, eX9_pairsTold_5, eX9_pairsTold_6, eX9_pairsTold_9, eX9_pairsTold_12, eX9_pairsTold_13, eX9_pairsTold_14, eX9_pairsTold_17, eX9_pairsTold_18, eX9_pairsTold_21, eX9_pairsTold_22, eX9_pairsTold_23, eX9_pairsTold_26, eX9_pairsTold_27, eX9_pairsTold_30, eX9_pairsTold_31, eX9_pairsTold_34, eX9_pairsTold_35, eX9_pairsTold_36, eX9_pairsTold_39, eX9_pairsTold_40, eX9_pairsTold_41, eX9_pairsTold_44, eX9_pairsTold_46, eX9_pairsTold_47, eX9_pairsTold_49, eX9_pairsTold_52, eX9_pairsTold_53, eX9_pairsTold_54, eX9_pairsTold_57, eX9_pairsTold_60, eX9_pairsTold_61, eX9_pairsTold_62, eX9_pairsTold_63, rX9_pairsTold, zg_aload, zg_getfield, zg_goto, zg_iadd, zg_iaload, zg_icmp, zg_iconst, zg_idiv, zg_if, zg_iinc, zg_iload, zg_ireturn, zg_is1, zg_istore, zg_iv1, q10, q01, q00, ite_self, zLd_i, zLd_l, zLd_a, zInc_i, zGet_o, zGet2_s, zPut_o, zAld_i, zAll_j, zAst_i, zAsl_j, zLen_i, zLen_j, zRt_i, zRt_z, zRl2_l, zRv_n, List.getElem?_cons_zero, List.getElem?_cons_succ, List.length_cons, List.length_nil, z_set, z_set2, z_cut, List.set_cons_zero, List.set_cons_succ, Option.toList_some, Option.toList_none, List.cons_append, List.nil_append, zif, zW_ite, zfit_0, zfit_1, zfit_2, zfit_3, zisc_o, zRt_c, zRt_b, List.map_cons, List.map_nil, List.sum_cons, List.sum_nil, true_and, and_true, if_true, if_false, ite_true, ite_false, Nat.reduceLT, Nat.reduceLeDiff, Nat.reduceAdd, Nat.reduceEqDiff, eq_self, not_true_eq_false, not_false_eq_true, Nat.lt_irrefl, or_true, true_or, or_false, false_or, z_cell_lt, Value.category, h0, h3, hb0, hb3, c1, nI_1, nI_7 ho7, nI_c ho7, nI_add, q1, cv1, q0, cv0, c_bc sl]
        subst cv0
        exact ih _
      · rw [show selM n mt nt v o = (2 ^ n - 1) &&& (127 - (mt o ||| nt o ||| 2 ^ o)) from (if_neg cv1).trans (if_neg cv0)] at ih sl
        simp only [eX9_pairsTold_0, eX9_pairsTold_1, eX9_pairsTold_2, eX9_pairsTold_3, eX9_pairsTold_5, eX9_pairsTold_6, eX9_pairsTold_9, eX9_pairsTold_12, eX9_pairsTold_13, eX9_pairsTold_14, eX9_pairsTold_17, eX9_pairsTold_18, eX9_pairsTold_21, eX9_pairsTold_22, eX9_pairsTold_23, eX9_pairsTold_26, eX9_pairsTold_27, eX9_pairsTold_30, eX9_pairsTold_31, eX9_pairsTold_34, eX9_pairsTold_35, eX9_pairsTold_36, eX9_pairsTold_39, eX9_pairsTold_40, eX9_pairsTold_41, eX9_pairsTold_44, eX9_pairsTold_46, eX9_pairsTold_47, eX9_pairsTold_49, eX9_pairsTold_52, eX9_pairsTold_53, eX9_pairsTold_54, eX9_pairsTold_57, eX9_pairsTold_60, eX9_pairsTold_61, eX9_pairsTold_62, eX9_pairsTold_63, rX9_pairsTold, zg_aload, zg_getfield, zg_goto, zg_iadd, zg_iaload, zg_icmp, zg_iconst, zg_idiv, zg_if, zg_iinc, zg_iload, zg_ireturn, zg_is1, zg_istore, zg_iv1, q10, q01, q00, ite_self, zLd_i, zLd_l, zLd_a, zInc_i, zGet_o, zGet2_s, zPut_o, zAld_i, zAll_j, zAst_i, zAsl_j, zLen_i, zLen_j, zRt_i, zRt_z, zRl2_l, zRv_n, List.getElem?_cons_zero, List.getElem?_cons_succ, List.length_cons, List.length_nil, z_set, z_set2, z_cut, List.set_cons_zero, List.set_cons_succ, Option.toList_some, Option.toList_none, List.cons_append, List.nil_append, zif, zW_ite, zfit_0, zfit_1, zfit_2, zfit_3, zisc_o, zRt_c, zRt_b, List.map_cons, List.map_nil, List.sum_cons, List.sum_nil, true_and, and_true, if_true, if_false, ite_true, ite_false, Nat.reduceLT, Nat.reduceLeDiff, Nat.reduceAdd, Nat.reduceEqDiff, eq_self, not_true_eq_false, not_false_eq_true, Nat.lt_irrefl, or_true, true_or, or_false, false_or, z_cell_lt, Value.category, h0, hb0, c1, nI_1, nI_add, q1, cv1, q0, cv0, c_bc sl, c_openOf hT ho7]
        exact ih _
theorem c_psum (hT : toldAt h b n rm mt nt fm vr) {v : Nat} (hv : v ≤ 2) : zK (d + 3) 122 [.ref b, .int (nI v)] (h, u) Q = Q (some (.int (nI (psum n mt nt v n / 2))), (h, u)) := by
  refine zK_of (k := 3) (by omega) ?_
  refine zK_in (M := MX9_pairsTold) rfl (Nat.le_of_ble_eq_true rfl) ?_
  show zW 2 MX9_pairsTold 0 ([.ref b, .int (nI v), .null, .null, .null], [], (h, u)) _
  simp only [eX9_pairsTold_0, eX9_pairsTold_1, eX9_pairsTold_2, eX9_pairsTold_3, eX9_pairsTold_5, eX9_pairsTold_6, eX9_pairsTold_9, eX9_pairsTold_12, eX9_pairsTold_13, eX9_pairsTold_14, eX9_pairsTold_17, eX9_pairsTold_18, eX9_pairsTold_21, eX9_pairsTold_22, eX9_pairsTold_23, eX9_pairsTold_26, eX9_pairsTold_27, eX9_pairsTold_30, eX9_pairsTold_31, eX9_pairsTold_34, eX9_pairsTold_35, eX9_pairsTold_36, eX9_pairsTold_39, eX9_pairsTold_40, eX9_pairsTold_41, eX9_pairsTold_44, eX9_pairsTold_46, eX9_pairsTold_47, eX9_pairsTold_49, eX9_pairsTold_52, eX9_pairsTold_53, eX9_pairsTold_54, eX9_pairsTold_57, eX9_pairsTold_60, eX9_pairsTold_61, eX9_pairsTold_62, eX9_pairsTold_63, rX9_pairsTold, zg_aload, zg_getfield, zg_goto, zg_iadd, zg_iaload, zg_icmp, zg_iconst, zg_idiv, zg_if, zg_iinc, zg_iload, zg_ireturn, zg_is1, zg_istore, zg_iv1, q10, q01, q00, ite_self, zLd_i, zLd_l, zLd_a, zInc_i, zGet_o, zGet2_s, zPut_o, zAld_i, zAll_j, zAst_i, zAsl_j, zLen_i, zLen_j, zRt_i, zRt_z, zRl2_l, zRv_n, List.getElem?_cons_zero, List.getElem?_cons_succ, List.length_cons, List.length_nil, z_set, z_set2, z_cut, List.set_cons_zero, List.set_cons_succ, Option.toList_some, Option.toList_none, List.cons_append, List.nil_append, zif, zW_ite, zfit_0, zfit_1, zfit_2, zfit_3, zisc_o, zRt_c, zRt_b, List.map_cons, List.map_nil, List.sum_cons, List.sum_nil, true_and, and_true, if_true, if_false, ite_true, ite_false, Nat.reduceLT, Nat.reduceLeDiff, Nat.reduceAdd, Nat.reduceEqDiff, eq_self, not_true_eq_false, not_false_eq_true, Nat.lt_irrefl, or_true, true_or, or_false, false_or, z_cell_lt, Value.category]
  exact w_psum (x4 := .null) hT hv n 0 _ (by omega) (by omega)
end TELL3

