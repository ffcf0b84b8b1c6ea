/-! new and newarray on the row of cells; the law's entry -/
section YN
variable {p : Program} {l : Launch} {e : Env} {R : Room} {s : State} {m : MethodId} {args : Array Value} {below : List Frame} {meth : Method} {c : Code} {cA dC : Nat → ClassId} {dI : Nat → Nat → Nat} {B0 : Nat} {tr0 tr : Nat → Nat} {own nL cells slots : Nat} {cc : ByteArray} {Q : State → Prop} {pc : Nat} {H : zH} {Hh : Heap} {locs : List Loc} {ls : Array Slot} {rest : List Value}
theorem y_upK {n q : Nat} (hn : n < 1000) : yKp n tr (z_up tr n q) := fun k hk => z_up_n tr q (by omega)
theorem y_pushH {H : zH} {e : zE} {kc ks : Nat} (hw : yH H) (hn : H.2.1 < 1000) (he : yokE (H.2.1 + 1) e) : yH (z_up H.1 H.2.1 e, (H.2.1 + 1, kc, ks)) := by
  refine ⟨Nat.succ_pos _, hn, fun k h0 hk => ?_⟩
  show yokE (H.2.1 + 1) (z_up H.1 H.2.1 e k)
  by_cases q : k = H.2.1
  · rw [q, z_up_s]; exact he
  · rw [z_up_n _ _ q]
    exact (hw.2.2 k h0 (by have : k < H.2.1 + 1 := hk; omega)).mono (Nat.le_succ _)
theorem y_new (X : zCx p s m args c R cA dC dI B0 tr0 own cc nL) {i ci : Nat} {C : String} {T : u_T} {N : Nat} (hc : vwCl[ci]? = some (C, T, N)) (f1 : ci < 12) (hw1 : Cond.classLink (zCn own) i C ∈ zT) (hw2 : Cond.instantiable C N ∈ zT) (hw3 : Cond.initialized C ∈ zT) (hd : decode cc pc = .ok (.new i, 3)) (hw : yH H) (g2 : yRl cA dC dI B0 s tr H Hh locs) (hn : H.2.1 < 1000) (hf : cells + 1 ≤ R.cells ∧ slots + N ≤ R.slots)
    (kk : ∀ (tr' : Nat → Nat) (H1 : Heap), yKp H.2.1 tr tr' → yRl cA dC dI B0 s tr' (z_up H.1 H.2.1 (zO ci (z_nf ci)), (H.2.1 + 1, cells + 1, slots + N)) H1 locs → W p l e R s m args below meth c H1 locs (cells + 1) (slots + N) Q (F0 m (pc + 3) ls (.ref (tr' H.2.1) :: rest))) : W p l e R s m args below meth c Hh locs cells slots Q (F0 m pc ls rest) := by
  obtain ⟨q, hq, hl, hdv⟩ := z_nf_ok ci f1
  have hq2 : q = (C, T, N) := Option.some.inj (hq.symm.trans hc)
  subst hq2
  simp only at hl hdv
  have hin := z_cl _ (List.mem_of_getElem? hc)
  have hty : ∀ j, j < N → parseFieldDescriptor (T j).2.2.1 = some ((parseFieldDescriptor (T j).2.2.1).getD .int) := fun j hj => by
    obtain ⟨y, hy⟩ := Option.isSome_iff_exists.mp (hin.2.1 j hj)
    rw [hy]; rfl
  refine va_new X.1 X.2.1 X.2.2.2.2.1 hin.1 _ hty X.2.2.2.1 (X.2.2.2.2.1 _ hw1) (X.2.2.2.2.1 _ hw2) (X.2.2.2.2.1 _ hw3) X.2.2.2.2.2.2.1 g2.1 g2.2.1 g2.2.2 (fun q hq => Nat.le_trans X.2.2.2.2.2.2.2.1 hq) hc (fs := z_nf ci) hdv hf.1 hf.2 hd (fun q H1 k2 k3 k4 => ?_)
  have ew : yw cA (z_up tr H.2.1 q) (z_up H.1 H.2.1 (zO ci (z_nf ci))) (H.2.1 + 1) = yw cA tr H.1 H.2.1 ++ [(q, .inr (ci, z_nf ci))] := by
    rw [yw_push (tr' := z_up tr H.2.1 q) (q := q) _ hw.2.2 hw.1 (y_upK hn) (z_up_s tr H.2.1 q)]
    simp only [z_e, z_nf_tr]
  have k := kk (z_up tr H.2.1 q) H1 (y_upK hn) ⟨by show va_P _ _ (yw cA _ _ (H.2.1 + 1)) _; rw [ew]; exact k2, by show va_D _ (yw cA _ _ (H.2.1 + 1)); rw [ew]; exact k3, k4⟩
  rw [z_up_s] at k
  exact k
theorem y_newa (X : zCx p s m args c R cA dC dI B0 tr0 own cc nL) (hwd : Cond.arrayClass .long ∈ zT) (hd : decode cc pc = .ok (.newarray .long, 2)) (hw : yH H) (g2 : yRl cA dC dI B0 s tr H Hh locs) (hn : H.2.1 < 1000) (hf : cells + 1 ≤ R.cells ∧ slots + 1 ≤ R.slots)
    (kk : ∀ (tr' : Nat → Nat) (H1 : Heap), yKp H.2.1 tr tr' → yRl cA dC dI B0 s tr' (z_up H.1 H.2.1 (zJ 1 (fun _ => 0)), (H.2.1 + 1, cells + 1, slots + 1)) H1 locs → W p l e R s m args below meth c H1 locs (cells + 1) (slots + 1) Q (F0 m (pc + 2) ls (.ref (tr' H.2.1) :: rest))) : W p l e R s m args below meth c Hh locs cells slots Q (F0 m pc ls (.int 1 :: rest)) := by
  refine va_newa X.1 X.2.1 (atype := .long) (ty := .long) (X.2.2.2.2.1 _ hwd) rfl X.2.2.2.2.2.2.1 g2.1 g2.2.1 g2.2.2 (fun q hq => Nat.le_trans X.2.2.2.2.2.2.2.1 hq) (N' := 1) (a0 := (1, .inr (.inl (fun _ => 0)))) (fun _ => rfl) (by decide) (by decide) (by decide) hf.1 hf.2 hd (fun q cA' H1 k1 k2 k3 k4 => ?_)
  have ecA : cA' = cA 1 := z_RA (t := 1) (k1.2 5 (cA', .long) rfl).2 (X.2.2.2.2.2.2.1.2 1 _ (z_tys_at (by decide))).2
  subst ecA
  have ew : yw cA (z_up tr H.2.1 q) (z_up H.1 H.2.1 (zJ 1 (fun _ => 0))) (H.2.1 + 1) = yw cA tr H.1 H.2.1 ++ [(q, .inl (cA 1, (1, .inr (.inl (fun _ => 0)))))] := yw_push (tr' := z_up tr H.2.1 q) (q := q) _ hw.2.2 hw.1 (y_upK hn) (z_up_s tr H.2.1 q)
  have k := kk (z_up tr H.2.1 q) H1 (y_upK hn) ⟨by show va_P _ _ (yw cA _ _ (H.2.1 + 1)) _; rw [ew]; exact k2, by show va_D _ (yw cA _ _ (H.2.1 + 1)); rw [ew]; exact k3, k4⟩
  rw [z_up_s] at k
  exact k
end YN
theorem nw_1 {h : Nat → zE} (h0 : h 1 = zO 10 (z_nf 10)) : ∃ kc ks, 1 ≤ kc ∧ 12 ≤ ks ∧ kc ≤ 53 ∧ ks ≤ 10000 ∧ zB zMs 300 129 [.ref 1] (h, (2, 1, 12)) (none, (nwW h, (54, kc, ks))) := by
  refine ⟨_, _, ?_, ?_, ?_, ?_, y_eq (fun Q => p_new (d := 298) h0)⟩ <;> decide
theorem nw_2 {h : Nat → zE} {k1 s1 : Nat} (h0 : h 54 = zO 11 (z_nf 11)) : ∃ kc ks, k1 ≤ kc ∧ s1 ≤ ks ∧ kc ≤ k1 + 35 ∧ ks ≤ s1 + 40000 ∧ zB zMs 300 235 [.ref 54] (h, (55, k1, s1)) (none, (nwN h, (90, kc, ks))) := by
  refine ⟨_, _, ?_, ?_, ?_, ?_, y_eq (fun Q => m_new (d := 299) h0)⟩ <;> omega
theorem st_l1 : Cond.classLink (zCn 12) 8 RX10 ∈ zT ∧ Cond.instantiable RX10 12 ∈ zT ∧ Cond.initialized RX10 ∈ zT := by decide +kernel
theorem st_l2 : Cond.classLink (zCn 12) 23 RX11 ∈ zT ∧ Cond.instantiable RX11 49 ∈ zT ∧ Cond.initialized RX11 ∈ zT := by decide +kernel
theorem st_l3 : Cond.methodLink (zCn 12) 22 MX10_init.1 ∈ zT ∧ Cond.instanceMethod MX10_init.1 ∈ zT ∧ zPn MX10_init.1 = some 0 := by decide +kernel
theorem st_l4 : Cond.methodLink (zCn 12) 25 MX11_init.1 ∈ zT ∧ Cond.instanceMethod MX11_init.1 ∈ zT ∧ zPn MX11_init.1 = some 0 := by decide +kernel
theorem st_l5 : Cond.arrayClass .long ∈ zT := st_w2 .long (by decide)
set_option maxHeartbeats 4000000 in
theorem whole_start {p : Program} {e : Env} {s : State} {m : MethodId} {below : List Frame} {meth : Method} {c : Code} (l : Launch) (hst : l.stackTraces = false) {b L : Nat} {xs : Nat → Int32} (hL : L ≤ 320) (C0 : lw_At p s m meth c b L xs) : W p l e room_1 s m #[Value.ref b] below meth c s.heap [] 0 0 (lw_Z below #[Value.ref b] s) (entryFrame m ([Value.ref b] : List Value).toArray 8) := by
  obtain ⟨cA, dC, dI, tr0, C⟩ := st_C hL C0
  obtain ⟨-, -, hret, -, -, -, -, -, hlk, -⟩ := C0
  have X := C.1
  have hlv := lv_entry ([.ref b]) (n := 8) (Nat.le_of_ble_eq_true rfl)
  rw [lg_entry_eq]
  generalize (lg_sl ([.ref b]) ++ List.replicate (8 - (lg_sl ([.ref b])).length) Slot.unset).toArray = ls0 at hlv ⊢
  have hl : lv_has ls0 8 [(0, .ref b)] := hlv
  have w0 : yH ((fun _ => zO 0 []), (1, 0, 0)) := ⟨by decide, by decide, fun k h1 h2 => absurd h2 (Nat.not_lt.mpr h1)⟩
  have r0 : yRl cA dC dI s.heap.size s tr0 ((fun _ => zO 0 []), (1, 0, 0)) s.heap [] := by
    have e0 : yw cA tr0 (fun _ => zO 0 []) 1 = [] := rfl
    show va_P _ _ (yw cA tr0 (fun _ => zO 0 []) 1) _ ∧ va_D _ (yw cA tr0 (fun _ => zO 0 []) 1) ∧ _
    rw [e0]
    exact ⟨(fun k q hq => by cases hq), ⟨(fun i j p q hi => by cases hi), (fun k q hq => by cases hq)⟩, Nat.le_refl _, (fun _ _ _ => rfl), (fun _ hl => by cases hl)⟩
  refine y_new X (ci := 10) rfl (by decide) st_l1.1 st_l1.2.1 st_l1.2.2 dL_law_0 w0 r0 (by decide) ⟨by decide, by decide⟩ (fun tr1 H1 t1 r1 => ?_)
  have w1 : yH (z_up (fun _ => zO 0 []) 1 (zO 10 (z_nf 10)), (2, 1, 12)) := y_pushH w0 (by decide) ⟨by decide, fun v hv => y_nf_ok 10 v hv _⟩
  have r1 : yRl cA dC dI s.heap.size s tr1 (z_up (fun _ => zO 0 []) 1 (zO 10 (z_nf 10)), (2, 1, 12)) H1 [] := r1
  have s1 : ∀ k, 1000 ≤ k → tr1 k = tr0 k := t1.st (fun _ _ => rfl)
  show W p l e room_1 s m #[Value.ref b] below meth c H1 [] 1 12 _ (F0 m 3 ls0 [.ref (tr1 1)])
  generalize (fun _ => zO 0 [] : Nat → zE) = h0 at w1 r1
  clear r0 w0 t1
  obtain ⟨kc1, ks1, a1, a2, a3, a4, B1⟩ := nw_1 (h := z_up h0 1 (zO 10 (z_nf 10))) (z_up_s _ _ _)
  generalize z_up h0 1 (zO 10 (z_nf 10)) = h1 at w1 r1 B1
  have o1 : ∀ w ∈ ([.ref 1] : List Value), yok 2 w := fun w hw => by
    rw [List.mem_singleton.mp hw]; exact Or.inl ⟨by decide, by decide⟩
  obtain ⟨-, w2, -, -⟩ := zB_sh zMs_ok 300 _ _ _ _ B1 w1 o1
  have w2 : yH (nwW h1, (54, kc1, ks1)) := w2
  refine lv_dup X.1 X.2.1 dL_law_3 rfl ?_
  refine yc_I (d := 300) (y := 129) (M := MX10_init) (as := []) (avs := []) (rest := [.ref (tr1 1)]) (k := 0) (b := 1) (bv := tr1 1) (tr := tr1) (H := (h1, (2, 1, 12))) (r := (none, (nwW h1, (54, kc1, ks1)))) rfl rfl X room_f dL_law_4 rfl st_l3.1 st_l3.2.1 rfl rfl st_l3.2.2 rfl (by decide) (by show 1 < 2; decide) B1 w1 (fun _ hv => by cases hv) s1 r1 hl.1 (Nat.le_of_ble_eq_true rfl) ⟨by show 1 + (kc1 - 1) ≤ 600128; omega, by show 12 + (ks1 - 12) ≤ 7301098; omega⟩ (fun tr2 H2 l2 t2 r2 => ?_)
  show W p l e room_1 s m #[Value.ref b] below meth c H2 l2 (1 + (kc1 - 1)) (12 + (ks1 - 12)) _ (F0 m 7 ls0 [.ref (tr1 1)])
  rw [show 1 + (kc1 - 1) = kc1 by omega, show 12 + (ks1 - 12) = ks1 by omega, ← t2 1 (Or.inl ⟨by decide, by show 1 < 2; decide⟩)]
  have s2 : ∀ k, 1000 ≤ k → tr2 k = tr0 k := t2.st s1
  have r2 : yRl cA dC dI s.heap.size s tr2 (nwW h1, (54, kc1, ks1)) H2 l2 := r2
  clear r1 w1 B1 o1 t2 s1
  refine lv_astore_n X.1 X.2.1 dL_law_7 rfl hl (by decide) (lv' := [(1, .ref (tr2 1)), (0, .ref b)]) rfl (fun ls1 hl1 => ?_)
  refine y_new X (ci := 11) rfl (by decide) st_l2.1 st_l2.2.1 st_l2.2.2 dL_law_8 w2 r2 (by show 54 < 1000; decide) ⟨by show kc1 + 1 ≤ 600128; omega, by show ks1 + 49 ≤ 7301098; omega⟩ (fun tr3 H3 t3 r3 => ?_)
  have w3 : yH (z_up (nwW h1) 54 (zO 11 (z_nf 11)), (55, kc1 + 1, ks1 + 49)) := y_pushH w2 (by show 54 < 1000; decide) ⟨by decide, fun v hv => y_nf_ok 11 v hv _⟩
  have r3 : yRl cA dC dI s.heap.size s tr3 (z_up (nwW h1) 54 (zO 11 (z_nf 11)), (55, kc1 + 1, ks1 + 49)) H3 l2 := r3
  have s3 : ∀ k, 1000 ≤ k → tr3 k = tr0 k := t3.st s2
  have hl1 : lv_has ls1 8 [(1, .ref (tr3 1)), (0, .ref b)] := by rw [t3 1 (Or.inl ⟨by decide, by show 1 < 54; decide⟩)]; exact hl1
  show W p l e room_1 s m #[Value.ref b] below meth c H3 l2 (kc1 + 1) (ks1 + 49) _ (F0 m 11 ls1 [.ref (tr3 54)])
  obtain ⟨kc2, ks2, b1, b2, b3, b4, B2⟩ := nw_2 (h := z_up (nwW h1) 54 (zO 11 (z_nf 11))) (k1 := kc1 + 1) (s1 := ks1 + 49) (z_up_s _ _ _)
  have o2 : ∀ w ∈ ([.ref 54] : List Value), yok 55 w := fun w hw => by
    rw [List.mem_singleton.mp hw]; exact Or.inl ⟨by decide, by decide⟩
  obtain ⟨-, w4, -, -⟩ := zB_sh zMs_ok 300 _ _ _ _ B2 w3 o2
  have w4 : yH (nwN (z_up (nwW h1) 54 (zO 11 (z_nf 11))), (90, kc2, ks2)) := w4
  refine lv_dup X.1 X.2.1 dL_law_11 rfl ?_
  refine yc_I (d := 300) (y := 235) (M := MX11_init) (as := []) (avs := []) (rest := [.ref (tr3 54)]) (k := 0) (b := 54) (bv := tr3 54) (tr := tr3) (H := (z_up (nwW h1) 54 (zO 11 (z_nf 11)), (55, kc1 + 1, ks1 + 49))) (r := (none, (nwN (z_up (nwW h1) 54 (zO 11 (z_nf 11))), (90, kc2, ks2)))) rfl rfl X room_f dL_law_12 rfl st_l4.1 st_l4.2.1 rfl rfl st_l4.2.2 rfl (by decide) (by show 54 < 55; decide) B2 w3 (fun _ hv => by cases hv) s3 r3 hl1.1 (Nat.le_of_ble_eq_true rfl) ⟨by show kc1 + 1 + (kc2 - (kc1 + 1)) ≤ 600128; omega, by show ks1 + 49 + (ks2 - (ks1 + 49)) ≤ 7301098; omega⟩ (fun tr4 H4 l4 t4 r4 => ?_)
  show W p l e room_1 s m #[Value.ref b] below meth c H4 l4 (kc1 + 1 + (kc2 - (kc1 + 1))) (ks1 + 49 + (ks2 - (ks1 + 49))) _ (F0 m 15 ls1 [.ref (tr3 54)])
  rw [show kc1 + 1 + (kc2 - (kc1 + 1)) = kc2 by omega, show ks1 + 49 + (ks2 - (ks1 + 49)) = ks2 by omega, ← t4 54 (Or.inl ⟨by decide, by show 54 < 55; decide⟩)]
  have s4 : ∀ k, 1000 ≤ k → tr4 k = tr0 k := t4.st s3
  have r4 : yRl cA dC dI s.heap.size s tr4 (nwN (z_up (nwW h1) 54 (zO 11 (z_nf 11))), (90, kc2, ks2)) H4 l4 := r4
  have hl1 : lv_has ls1 8 [(1, .ref (tr4 1)), (0, .ref b)] := by rw [t4 1 (Or.inl ⟨by decide, by show 1 < 55; decide⟩)]; exact hl1
  refine lv_astore_n X.1 X.2.1 dL_law_15 rfl hl1 (by decide) (lv' := [(2, .ref (tr4 54)), (1, .ref (tr4 1)), (0, .ref b)]) rfl (fun ls2 hl2 => ?_)
  refine lv_iconst (v := 1) X.1 X.2.1 dL_law_16 (by decide) ?_
  refine y_newa X st_l5 dL_law_17 w4 r4 (by show 90 < 1000; decide) ⟨by show kc2 + 1 ≤ 600128; omega, by show ks2 + 1 ≤ 7301098; omega⟩ (fun tr5 H5 t5 r5 => ?_)
  have w5 : yH (z_up (nwN (z_up (nwW h1) 54 (zO 11 (z_nf 11)))) 90 (zJ 1 (fun _ => 0)), (91, kc2 + 1, ks2 + 1)) := y_pushH w4 (by show 90 < 1000; decide) trivial
  have s5 : ∀ k, 1000 ≤ k → tr5 k = tr0 k := t5.st s4
  have hl2 : lv_has ls2 8 [(2, .ref (tr5 54)), (1, .ref (tr5 1)), (0, .ref b)] := by rw [t5 1 (Or.inl ⟨by decide, by show 1 < 90; decide⟩), t5 54 (Or.inl ⟨by decide, by show 54 < 90; decide⟩)]; exact hl2
  show W p l e room_1 s m #[Value.ref b] below meth c H5 l4 (kc2 + 1) (ks2 + 1) _ (F0 m 19 ls2 [.ref (tr5 90)])
  refine lv_astore_n X.1 X.2.1 dL_law_19 rfl hl2 (by decide) (lv' := [(3, .ref (tr5 90)), (2, .ref (tr5 54)), (1, .ref (tr5 1)), (0, .ref b)]) rfl (fun ls3 hl3 => ?_)
  refine lv_iconst (v := 0) X.1 X.2.1 dL_law_20 (by decide) ?_
  refine lv_istore X.1 X.2.1 dL_law_21 hl3 (by decide) (lv' := [(4, .int (nI 0)), (3, .ref (tr5 90)), (2, .ref (tr5 54)), (1, .ref (tr5 1)), (0, .ref b)]) rfl (fun ls4 hl4 => ?_)
  have lg : zLg 90 (z_up (nwN (z_up (nwW h1) 54 (zO 11 (z_nf 11)))) 90 (zJ 1 (fun _ => 0))) := ⟨_, z_up_s _ _ _⟩
  exact law_loop hst C hret hlk L 0 0 (Nat.le_refl _) (Nat.zero_le _) (by omega) (z_up (nwN (z_up (nwW h1) 54 (zO 11 (z_nf 11)))) 90 (zJ 1 (fun _ => 0)), (91, kc2 + 1, ks2 + 1)) tr5 H5 l4 ls4 ⟨s5, r5, nw_jIV (by omega) (by omega), w5, lg, lv_sub hl4 [4, 3, 2, 1, 0] rfl⟩
