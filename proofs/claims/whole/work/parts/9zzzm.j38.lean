/-! the law's loop -/
theorem a_63 (x : Int32) : ∃ j, j < 64 ∧ x &&& 63 = nI j := by
  refine ⟨x.toBitVec.toNat % 64, Nat.mod_lt _ (by decide), ?_⟩
  apply Int32.toBitVec_inj.mp
  apply BitVec.eq_of_toNat_eq
  rw [Int32.toBitVec_and, BitVec.toNat_and]
  have e1 : (nI (x.toBitVec.toNat % 64)).toBitVec = BitVec.ofNat 32 (x.toBitVec.toNat % 64) := rfl
  have e2 : (63 : Int32).toBitVec.toNat = 2 ^ 6 - 1 := by decide
  rw [e1, e2, BitVec.toNat_ofNat, Nat.and_two_pow_sub_one_eq_mod, Nat.mod_eq_of_lt (a := x.toBitVec.toNat % 64)]
  have := Nat.mod_lt x.toBitVec.toNat (show 64 > 0 by decide)
  omega
theorem a_gt {L i : Nat} (hL : L ≤ 320) (hi : i ≤ 400) (h : ¬ nI L - 5 < nI i) : i + 5 ≤ L := by
  by_cases q : 5 ≤ L
  · have e : nI L - 5 = nI (L - 5) := by
      have : nI L = nI (L - 5) + 5 := by rw [show (5 : Int32) = nI 5 from rfl, nI_add, Nat.sub_add_cancel q]
      rw [this, Int32.add_sub_cancel]
    rw [e, nI_ult (by omega) (by omega)] at h
    omega
  · exfalso
    apply h
    rw [Int32.lt_iff_toInt_lt, nI_toInt (by omega)]
    rcases (show L = 0 ∨ L = 1 ∨ L = 2 ∨ L = 3 ∨ L = 4 by omega) with rfl | rfl | rfl | rfl | rfl
    · have : (nI 0 - 5).toInt = -5 := by decide
      omega
    · have : (nI 1 - 5).toInt = -4 := by decide
      omega
    · have : (nI 2 - 5).toInt = -3 := by decide
      omega
    · have : (nI 3 - 5).toInt = -2 := by decide
      omega
    · have : (nI 4 - 5).toInt = -1 := by decide
      omega
section LAW4
variable {p : Program} {l : Launch} {e : Env} {s : State} {m : MethodId} {below : List Frame} {meth : Method} {c : Code} {cA dC : Nat → ClassId} {dI : Nat → Nat → Nat} {tr0 tr : Nat → Nat} {b L : Nat} {xs : Nat → Int32} {Q : State → Prop} {pc k i : Nat} {H : zH} {Hh : Heap} {locs : List Loc} {cells slots : Nat} {ls : Array Slot} {lv : List (Nat × Value)} {st : List Value}
set_option maxHeartbeats 4000000 in
theorem law_sw (hst : l.stackTraces = false) (C : lC p s m c cA dC dI tr0 b L xs) (hR : lR s cA dC dI tr0 k b i H tr Hh locs ls) (hk : k < 64) (hi : i + 5 ≤ L) (x : Int32)
    (k0 : W p l e room_1 s m #[Value.ref b] below meth c Hh locs H.2.2.1 H.2.2.2 Q (F0 m 1396 ls []))
    (kk : ∀ (H' : zH) (tr' : Nat → Nat) (Hh' : Heap) (locs' : List Loc) (ls' : Array Slot), lR s cA dC dI tr0 (k + 1) b i H' tr' Hh' locs' ls' → W p l e room_1 s m #[Value.ref b] below meth c Hh' locs' H'.2.2.1 H'.2.2.2 Q (F0 m 1396 ls' [])) : W p l e room_1 s m #[Value.ref b] below meth c Hh locs H.2.2.1 H.2.2.2 Q (F0 m 39 ls [.int (x &&& 63)]) := by
  have X := C.1
  obtain ⟨j, hj, ej⟩ := a_63 x
  rw [ej]
  by_cases q : 45 < j
  · refine lv_tableOut (tgt := 1396) X.1 X.2.1 dL_law_39 (Or.inr (by rw [nI_toInt (by omega)]; omega)) (by decide) k0
  · rcases (show j = 0 ∨ j = 1 ∨ j = 2 ∨ j = 3 ∨ j = 4 ∨ j = 5 ∨ j = 6 ∨ j = 7 ∨ j = 8 ∨ j = 9 ∨ j = 10 ∨ j = 11 ∨ j = 12 ∨ j = 13 ∨ j = 14 ∨ j = 15 ∨ j = 16 ∨ j = 17 ∨ j = 18 ∨ j = 19 ∨ j = 20 ∨ j = 21 ∨ j = 22 ∨ j = 23 ∨ j = 24 ∨ j = 25 ∨ j = 26 ∨ j = 27 ∨ j = 28 ∨ j = 29 ∨ j = 30 ∨ j = 31 ∨ j = 32 ∨ j = 33 ∨ j = 34 ∨ j = 35 ∨ j = 36 ∨ j = 37 ∨ j = 38 ∨ j = 39 ∨ j = 40 ∨ j = 41 ∨ j = 42 ∨ j = 43 ∨ j = 44 ∨ j = 45 by omega) with rfl | rfl | rfl | rfl | rfl | rfl | rfl | rfl | rfl | rfl | rfl | rfl | rfl | rfl | rfl | rfl | rfl | rfl | rfl | rfl | rfl | rfl | rfl | rfl | rfl | rfl | rfl | rfl | rfl | rfl | rfl | rfl | rfl | rfl | rfl | rfl | rfl | rfl | rfl | rfl | rfl | rfl | rfl | rfl | rfl | rfl
    · refine lv_tableIn (off := 197) (tgt := 236) X.1 X.2.1 dL_law_39 (by decide) (by decide) (by decide) (by decide) ?_
      exact lc_0 C hR hk hi (fun H' tr' Hh' locs' hR' => kk _ _ _ _ _ hR')
    · refine lv_tableIn (off := 222) (tgt := 261) X.1 X.2.1 dL_law_39 (by decide) (by decide) (by decide) (by decide) ?_
      exact lc_1 C hR hk hi (fun H' tr' Hh' locs' hR' => kk _ _ _ _ _ hR')
    · refine lv_tableIn (off := 247) (tgt := 286) X.1 X.2.1 dL_law_39 (by decide) (by decide) (by decide) (by decide) ?_
      exact lc_2 C hR hk hi (fun H' tr' Hh' locs' hR' => kk _ _ _ _ _ hR')
    · refine lv_tableIn (off := 260) (tgt := 299) X.1 X.2.1 dL_law_39 (by decide) (by decide) (by decide) (by decide) ?_
      exact lc_3 C hR hk hi (fun H' tr' Hh' locs' hR' => kk _ _ _ _ _ hR')
    · refine lv_tableIn (off := 273) (tgt := 312) X.1 X.2.1 dL_law_39 (by decide) (by decide) (by decide) (by decide) ?_
      exact lc_4 C hR hk hi (fun H' tr' Hh' locs' hR' => kk _ _ _ _ _ hR')
    · refine lv_tableIn (off := 286) (tgt := 325) X.1 X.2.1 dL_law_39 (by decide) (by decide) (by decide) (by decide) ?_
      exact lt_guest hst C hR hk hi (fun H' tr' Hh' locs' ls' hR' => kk _ _ _ _ _ hR')
    · refine lv_tableIn (off := 354) (tgt := 393) X.1 X.2.1 dL_law_39 (by decide) (by decide) (by decide) (by decide) ?_
      exact lt_pair hst C hR hk hi (fun H' tr' Hh' locs' ls' hR' => kk _ _ _ _ _ hR')
    · refine lv_tableIn (off := 422) (tgt := 461) X.1 X.2.1 dL_law_39 (by decide) (by decide) (by decide) (by decide) ?_
      exact lc_7 C hR hk hi (fun H' tr' Hh' locs' hR' => kk _ _ _ _ _ hR')
    · refine lv_tableIn (off := 483) (tgt := 522) X.1 X.2.1 dL_law_39 (by decide) (by decide) (by decide) (by decide) ?_
      exact lc_8 C hR hk hi (fun H' tr' Hh' locs' hR' => kk _ _ _ _ _ hR')
    · refine lv_tableIn (off := 532) (tgt := 571) X.1 X.2.1 dL_law_39 (by decide) (by decide) (by decide) (by decide) ?_
      exact lc_9 C hR hk hi (fun H' tr' Hh' locs' hR' => kk _ _ _ _ _ hR')
    · refine lv_tableIn (off := 557) (tgt := 596) X.1 X.2.1 dL_law_39 (by decide) (by decide) (by decide) (by decide) ?_
      exact lc_10 C hR hk hi (fun H' tr' Hh' locs' hR' => kk _ _ _ _ _ hR')
    · refine lv_tableIn (off := 594) (tgt := 633) X.1 X.2.1 dL_law_39 (by decide) (by decide) (by decide) (by decide) ?_
      exact lc_11 C hR hk hi (fun H' tr' Hh' locs' hR' => kk _ _ _ _ _ hR')
    · refine lv_tableIn (off := 631) (tgt := 670) X.1 X.2.1 dL_law_39 (by decide) (by decide) (by decide) (by decide) ?_
      exact lc_12 C hR hk hi (fun H' tr' Hh' locs' hR' => kk _ _ _ _ _ hR')
    · refine lv_tableIn (off := 656) (tgt := 695) X.1 X.2.1 dL_law_39 (by decide) (by decide) (by decide) (by decide) ?_
      exact lc_13 C hR hk hi (fun H' tr' Hh' locs' hR' => kk _ _ _ _ _ hR')
    · refine lv_tableIn (off := 669) (tgt := 708) X.1 X.2.1 dL_law_39 (by decide) (by decide) (by decide) (by decide) ?_
      exact lc_14 C hR hk hi (fun H' tr' Hh' locs' hR' => kk _ _ _ _ _ hR')
    · refine lv_tableIn (off := 682) (tgt := 721) X.1 X.2.1 dL_law_39 (by decide) (by decide) (by decide) (by decide) ?_
      exact lc_15 C hR hk hi (fun H' tr' Hh' locs' hR' => kk _ _ _ _ _ hR')
    · refine lv_tableIn (off := 696) (tgt := 735) X.1 X.2.1 dL_law_39 (by decide) (by decide) (by decide) (by decide) ?_
      exact lc_16 C hR hk hi (fun H' tr' Hh' locs' hR' => kk _ _ _ _ _ hR')
    · refine lv_tableIn (off := 709) (tgt := 748) X.1 X.2.1 dL_law_39 (by decide) (by decide) (by decide) (by decide) ?_
      exact lc_17 C hR hk hi (fun H' tr' Hh' locs' hR' => kk _ _ _ _ _ hR')
    · refine lv_tableIn (off := 746) (tgt := 785) X.1 X.2.1 dL_law_39 (by decide) (by decide) (by decide) (by decide) ?_
      exact lc_18 C hR hk hi (fun H' tr' Hh' locs' hR' => kk _ _ _ _ _ hR')
    · refine lv_tableIn (off := 783) (tgt := 822) X.1 X.2.1 dL_law_39 (by decide) (by decide) (by decide) (by decide) ?_
      exact lc_19 C hR hk hi (fun H' tr' Hh' locs' hR' => kk _ _ _ _ _ hR')
    · refine lv_tableIn (off := 796) (tgt := 835) X.1 X.2.1 dL_law_39 (by decide) (by decide) (by decide) (by decide) ?_
      exact lc_20 C hR hk hi (fun H' tr' Hh' locs' hR' => kk _ _ _ _ _ hR')
    · refine lv_tableIn (off := 809) (tgt := 848) X.1 X.2.1 dL_law_39 (by decide) (by decide) (by decide) (by decide) ?_
      exact lc_21 C hR hk hi (fun H' tr' Hh' locs' hR' => kk _ _ _ _ _ hR')
    · refine lv_tableIn (off := 846) (tgt := 885) X.1 X.2.1 dL_law_39 (by decide) (by decide) (by decide) (by decide) ?_
      exact lc_22 C hR hk hi (fun H' tr' Hh' locs' hR' => kk _ _ _ _ _ hR')
    · refine lv_tableIn (off := 859) (tgt := 898) X.1 X.2.1 dL_law_39 (by decide) (by decide) (by decide) (by decide) ?_
      exact lc_23 C hR hk hi (fun H' tr' Hh' locs' hR' => kk _ _ _ _ _ hR')
    · refine lv_tableIn (off := 872) (tgt := 911) X.1 X.2.1 dL_law_39 (by decide) (by decide) (by decide) (by decide) ?_
      exact lc_24 C hR hk hi (fun H' tr' Hh' locs' hR' => kk _ _ _ _ _ hR')
    · refine lv_tableIn (off := 897) (tgt := 936) X.1 X.2.1 dL_law_39 (by decide) (by decide) (by decide) (by decide) ?_
      exact lc_25 C hR hk hi (fun H' tr' Hh' locs' hR' => kk _ _ _ _ _ hR')
    · refine lv_tableIn (off := 922) (tgt := 961) X.1 X.2.1 dL_law_39 (by decide) (by decide) (by decide) (by decide) ?_
      exact lc_26 C hR hk hi (fun H' tr' Hh' locs' hR' => kk _ _ _ _ _ hR')
    · refine lv_tableIn (off := 935) (tgt := 974) X.1 X.2.1 dL_law_39 (by decide) (by decide) (by decide) (by decide) ?_
      exact lc_27 C hR hk hi (fun H' tr' Hh' locs' hR' => kk _ _ _ _ _ hR')
    · refine lv_tableIn (off := 948) (tgt := 987) X.1 X.2.1 dL_law_39 (by decide) (by decide) (by decide) (by decide) ?_
      exact lc_28 C hR hk hi (fun H' tr' Hh' locs' hR' => kk _ _ _ _ _ hR')
    · refine lv_tableIn (off := 961) (tgt := 1000) X.1 X.2.1 dL_law_39 (by decide) (by decide) (by decide) (by decide) ?_
      exact lc_29 C hR hk hi (fun H' tr' Hh' locs' hR' => kk _ _ _ _ _ hR')
    · refine lv_tableIn (off := 974) (tgt := 1013) X.1 X.2.1 dL_law_39 (by decide) (by decide) (by decide) (by decide) ?_
      exact lc_30 C hR hk hi (fun H' tr' Hh' locs' hR' => kk _ _ _ _ _ hR')
    · refine lv_tableIn (off := 987) (tgt := 1026) X.1 X.2.1 dL_law_39 (by decide) (by decide) (by decide) (by decide) ?_
      exact lc_31 C hR hk hi (fun H' tr' Hh' locs' hR' => kk _ _ _ _ _ hR')
    · refine lv_tableIn (off := 1000) (tgt := 1039) X.1 X.2.1 dL_law_39 (by decide) (by decide) (by decide) (by decide) ?_
      exact lc_32 C hR hk hi (fun H' tr' Hh' locs' hR' => kk _ _ _ _ _ hR')
    · refine lv_tableIn (off := 1013) (tgt := 1052) X.1 X.2.1 dL_law_39 (by decide) (by decide) (by decide) (by decide) ?_
      exact lc_33 C hR hk hi (fun H' tr' Hh' locs' hR' => kk _ _ _ _ _ hR')
    · refine lv_tableIn (off := 1026) (tgt := 1065) X.1 X.2.1 dL_law_39 (by decide) (by decide) (by decide) (by decide) ?_
      exact lc_34 C hR hk hi (fun H' tr' Hh' locs' hR' => kk _ _ _ _ _ hR')
    · refine lv_tableIn (off := 1039) (tgt := 1078) X.1 X.2.1 dL_law_39 (by decide) (by decide) (by decide) (by decide) ?_
      exact lc_35 C hR hk hi (fun H' tr' Hh' locs' hR' => kk _ _ _ _ _ hR')
    · refine lv_tableIn (off := 1076) (tgt := 1115) X.1 X.2.1 dL_law_39 (by decide) (by decide) (by decide) (by decide) ?_
      exact lc_36 C hR hk hi (fun H' tr' Hh' locs' hR' => kk _ _ _ _ _ hR')
    · refine lv_tableIn (off := 1090) (tgt := 1129) X.1 X.2.1 dL_law_39 (by decide) (by decide) (by decide) (by decide) ?_
      exact lc_37 C hR hk hi (fun H' tr' Hh' locs' hR' => kk _ _ _ _ _ hR')
    · refine lv_tableIn (off := 1115) (tgt := 1154) X.1 X.2.1 dL_law_39 (by decide) (by decide) (by decide) (by decide) ?_
      exact lc_38 C hR hk hi (fun H' tr' Hh' locs' hR' => kk _ _ _ _ _ hR')
    · refine lv_tableIn (off := 1152) (tgt := 1191) X.1 X.2.1 dL_law_39 (by decide) (by decide) (by decide) (by decide) ?_
      exact lc_39 C hR hk hi (fun H' tr' Hh' locs' hR' => kk _ _ _ _ _ hR')
    · refine lv_tableIn (off := 1165) (tgt := 1204) X.1 X.2.1 dL_law_39 (by decide) (by decide) (by decide) (by decide) ?_
      exact lc_40 C hR hk hi (fun H' tr' Hh' locs' hR' => kk _ _ _ _ _ hR')
    · refine lv_tableIn (off := 1190) (tgt := 1229) X.1 X.2.1 dL_law_39 (by decide) (by decide) (by decide) (by decide) ?_
      exact lc_41 C hR hk hi (fun H' tr' Hh' locs' hR' => kk _ _ _ _ _ hR')
    · refine lv_tableIn (off := 1227) (tgt := 1266) X.1 X.2.1 dL_law_39 (by decide) (by decide) (by decide) (by decide) ?_
      exact lc_42 C hR hk hi (fun H' tr' Hh' locs' hR' => kk _ _ _ _ _ hR')
    · refine lv_tableIn (off := 1252) (tgt := 1291) X.1 X.2.1 dL_law_39 (by decide) (by decide) (by decide) (by decide) ?_
      exact lc_43 C hR hk hi (fun H' tr' Hh' locs' hR' => kk _ _ _ _ _ hR')
    · refine lv_tableIn (off := 1277) (tgt := 1316) X.1 X.2.1 dL_law_39 (by decide) (by decide) (by decide) (by decide) ?_
      exact lc_44 C hR hk hi (fun H' tr' Hh' locs' hR' => kk _ _ _ _ _ hR')
    · refine lv_tableIn (off := 1302) (tgt := 1341) X.1 X.2.1 dL_law_39 (by decide) (by decide) (by decide) (by decide) ?_
      exact lt_row hst C hR hk hi (fun H' tr' Hh' locs' ls' hR' => kk _ _ _ _ _ hR')
theorem law_nx (C : lC p s m c cA dC dI tr0 b L xs) (hR : lR s cA dC dI tr0 k b i H tr Hh locs ls)
    (kk : ∀ ls', lR s cA dC dI tr0 k b (i + 5) H tr Hh locs ls' → W p l e room_1 s m #[Value.ref b] below meth c Hh locs H.2.2.1 H.2.2.2 Q (F0 m 23 ls' [])) : W p l e room_1 s m #[Value.ref b] below meth c Hh locs H.2.2.1 H.2.2.2 Q (F0 m 1396 ls []) := by
  have X := C.1
  obtain ⟨g1, g2, hI, hw, hlg, hl⟩ := hR
  refine lv_iinc (v := nI (i + 5)) (lv' := [(4, .int (nI (i + 5))), (0, .ref b), (1, .ref (tr 1)), (2, .ref (tr 54)), (3, .ref (tr 90))]) X.1 X.2.1 dL_law_1396 hl (k := 4) rfl (by rw [show Int32.ofInt 5 = nI 5 by decide, nI_add]) (by decide) rfl (fun ls hl => ?_)
  refine lv_goto (tgt := 23) X.1 X.2.1 dL_law_1399 (by decide) ?_
  exact kk ls ⟨g1, g2, hI, hw, hlg, lv_sub hl [1, 2, 3, 4, 0] rfl⟩
set_option maxHeartbeats 4000000 in
theorem law_loop (hst : l.stackTraces = false) (C : lC p s m c cA dC dI tr0 b L xs) (hr : meth.sig.returnType = ret) (hlocks : meth.locks = false) : ∀ (n i k : Nat), 5 * k ≤ i → i ≤ 325 → L < i + 5 * n + 5 → ∀ (H : zH) (tr : Nat → Nat) (Hh : Heap) (locs : List Loc) (ls : Array Slot), lR s cA dC dI tr0 k b i H tr Hh locs ls → W p l e room_1 s m #[Value.ref b] below meth c Hh locs H.2.2.1 H.2.2.2 (lw_Z below #[Value.ref b] s) (F0 m 23 ls []) := by
  have C' := C
  obtain ⟨X, hPX, hL, hX, hb⟩ := C'
  have hbA : ¬ (fun q : Nat => s.heap.size ≤ q) b := Nat.not_le.mpr hb
  intro n
  induction n with
  | zero =>
    intro i k hk hi hn H tr Hh locs ls hR
    obtain ⟨g1, g2, hI, hw, hlg, hl⟩ := hR
    obtain ⟨n91, nc, ns, -, -⟩ := jIV_1 hI
    refine lv_iload X.1 X.2.1 dL_law_23 (lv_at hl 4 rfl) ?_
    refine lv_aload_n X.1 X.2.1 dL_law_25 rfl (lv_at hl 0 rfl) ?_
    refine va_slen X.1 X.2.1 hX hb hbA g2.2.2 dL_law_26 ?_
    refine lv_iconst (v := 5) X.1 X.2.1 dL_law_27 (by decide) ?_
    refine lv_isub X.1 X.2.1 dL_law_28 ?_
    refine lv_icmp_gt (tgt := 1402) X.1 X.2.1 dL_law_29 (by decide) (fun q => ?_) (fun q => ?_)
    · refine lv_iconst (v := 1) X.1 X.2.1 dL_law_1402 (by decide) ?_
      refine va_forget (fun q hq => g2.2.2.2.2 q hq) ?_
      refine W.widen (k := 600128) (n := 7301098) (Nat.le_trans nc (by omega)) (Nat.le_trans ns (by omega)) ?_
      exact lw_retn X.1 X.2.1 hr hlocks dL_law_1403
    · exfalso
      have h9 := a_gt hL (by omega) q
      omega
  | succ n ih =>
    intro i k hk hi hn H tr Hh locs ls hR
    have hR0 := hR
    obtain ⟨g1, g2, hI, hw, hlg, hl⟩ := hR
    obtain ⟨n91, nc, ns, -, -⟩ := jIV_1 hI
    refine lv_iload X.1 X.2.1 dL_law_23 (lv_at hl 4 rfl) ?_
    refine lv_aload_n X.1 X.2.1 dL_law_25 rfl (lv_at hl 0 rfl) ?_
    refine va_slen X.1 X.2.1 hX hb hbA g2.2.2 dL_law_26 ?_
    refine lv_iconst (v := 5) X.1 X.2.1 dL_law_27 (by decide) ?_
    refine lv_isub X.1 X.2.1 dL_law_28 ?_
    refine lv_icmp_gt (tgt := 1402) X.1 X.2.1 dL_law_29 (by decide) (fun q => ?_) (fun q => ?_)
    · refine lv_iconst (v := 1) X.1 X.2.1 dL_law_1402 (by decide) ?_
      refine va_forget (fun q hq => g2.2.2.2.2 q hq) ?_
      refine W.widen (k := 600128) (n := 7301098) (Nat.le_trans nc (by omega)) (Nat.le_trans ns (by omega)) ?_
      exact lw_retn X.1 X.2.1 hr hlocks dL_law_1403
    · have h9 := a_gt hL (by omega) q
      refine lv_aload_n X.1 X.2.1 dL_law_32 rfl (lv_at hl 0 rfl) ?_
      refine lv_iload X.1 X.2.1 dL_law_33 (lv_at hl 4 rfl) ?_
      refine va_sld X.1 X.2.1 hX hb hbA g2.2.2 (vp_in_nI (n := i) (by omega) (by omega)) dL_law_35 ?_
      refine lv_bipush (v := 63) X.1 X.2.1 dL_law_36 (by decide) ?_
      refine lv_iand X.1 X.2.1 dL_law_38 ?_
      refine law_sw hst C hR0 (by omega) h9 _ ?_ (fun H' tr' Hh' locs' ls' hR' => ?_)
      · exact law_nx C hR0 (fun ls' hR' => ih (i + 5) k (by omega) (by omega) (by omega) _ _ _ _ _ hR')
      · exact law_nx C hR' (fun ls' hR' => ih (i + 5) (k + 1) (by omega) (by omega) (by omega) _ _ _ _ _ hR')
end LAW4
