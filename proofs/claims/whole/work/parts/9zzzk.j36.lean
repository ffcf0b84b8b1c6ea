/-! the law's calls of guest, pair, row: caught, compared -/
theorem x_mthrown : Cond.methodLink (zCn 12) 55 MX11_thrown.1 ∈ zT ∧ Cond.instanceMethod MX11_thrown.1 ∈ zT ∧ Cond.selects (zCls 11) MX11_thrown.1 MX11_thrown.1 ∈ zT := by decide +kernel
section LAW2
variable {p : Program} {l : Launch} {e : Env} {s : State} {m : MethodId} {below : List Frame} {meth : Method} {c : Code} {cA dC : Nat → ClassId} {dI : Nat → Nat → Nat} {tr0 tr : Nat → Nat} {b L : Nat} {xs : Nat → Int32} {Q : State → Prop} {pc k i : Nat} {H : zH} {Hh : Heap} {locs : List Loc} {cells slots : Nat} {ls : Array Slot} {lv : List (Nat × Value)} {st : List Value}
theorem x_hguest : Cond.codeWith yL_guest cL_guest 5 (some .int) [(0, 10, 13, 13)] ∈ zT ∧ Cond.methodLink (zCn 12) 49 yL_guest ∈ zT ∧ Cond.static yL_guest ∈ zT ∧ Cond.initialized yL_guest.cls ∈ zT := by decide +kernel
theorem x_mguest : Cond.methodLink (zCn 12) 54 MX11_guest.1 ∈ zT ∧ Cond.instanceMethod MX11_guest.1 ∈ zT ∧ Cond.selects (zCls 11) MX11_guest.1 MX11_guest.1 ∈ zT := by decide +kernel
set_option maxHeartbeats 4000000 in
theorem lt_guest (hst : l.stackTraces = false) (C : lC p s m c cA dC dI tr0 b L xs) (hR : lR s cA dC dI tr0 k b i H tr Hh locs ls) (hk : k < 64) (hi : i + 5 ≤ L)
    (kk : ∀ (H' : zH) (tr' : Nat → Nat) (Hh' : Heap) (locs' : List Loc) (ls : Array Slot), lR s cA dC dI tr0 (k + 1) b i H' tr' Hh' locs' ls → W p l e room_1 s m #[Value.ref b] below meth c Hh' locs' H'.2.2.1 H'.2.2.2 Q (F0 m 1396 ls [])) : W p l e room_1 s m #[Value.ref b] below meth c Hh locs H.2.2.1 H.2.2.2 Q (F0 m 325 ls []) := by
  have C' := C
  obtain ⟨X, hPX, hL, hX, hb⟩ := C'
  obtain ⟨g1, g2, hI, hw, hlg, hl⟩ := hR
  obtain ⟨n91, nc, ns, ⟨fs1, f1⟩, fs54, f54⟩ := jIV_1 hI
  have n90 : 90 < H.2.1 := Nat.lt_of_lt_of_le (by decide) n91
  have hs : ∀ (n : Nat), ∀ w ∈ ([.int (xs (i + 1)), .int (xs (i + 2))] : List Value), yok n w := fun n w hw9 => by
    simp only [List.mem_cons, List.not_mem_nil, or_false] at hw9; rcases hw9 with rfl | rfl <;> trivial
  have hs2 : ∀ w ∈ (Value.ref 54 :: [.int (xs (i + 1)), .int (xs (i + 2))] : List Value), yok H.2.1 w := fun w hw9 => by
    rcases List.mem_cons.mp hw9 with rfl | hw9
    · exact Or.inl ⟨by decide, Nat.lt_of_lt_of_le (by decide) n91⟩
    · exact hs _ w hw9
  have rc : H.2.2.1 + 1 ≤ room_1.cells := Nat.le_trans (Nat.add_le_add_right nc 1) (by show 91 + 9 * k + 1 ≤ 600128; omega)
  have rs : H.2.2.2 + 6 ≤ room_1.slots := Nat.le_trans (Nat.add_le_add_right ns 6) (by show 100000 + 40000 * k + 6 ≤ 7301098; omega)
  refine lv_aload_n X.1 X.2.1 dL_law_325 rfl (lv_at hl 1 rfl) ?_
  refine la_arg (k := 1) C g2.2.2 hl (by omega) ⟨dL_law_326, dL_law_327, ⟨1, by decide, dL_law_329⟩, dL_law_330, dL_law_331⟩ ?_
  refine la_arg (k := 2) C g2.2.2 hl (by omega) ⟨dL_law_332, dL_law_333, ⟨2, by decide, dL_law_335⟩, dL_law_336, dL_law_337⟩ ?_
  refine lv_aload_n X.1 X.2.1 dL_law_338 rfl (lv_at hl 3 rfl) ?_
  rcases s_guest hk hI (xs (i + 1)) (xs (i + 2)) with ⟨v, e1, hh⟩ | ⟨hP, H2, e2, e3, hI2⟩
  · obtain ⟨f, hf9⟩ := hlg
    obtain ⟨H2, e2, e3, e90, hI2⟩ := hh (zJ 1 (vp_updL f 0 (v.toInt64)))
    have B1 := y_eq e1
    have B2 := y_eq e2
    have B3 := y_eq e3
    have w1 : yH (z_up H.1 90 (zJ 1 (vp_updL f 0 (v.toInt64))), H.2) := yH_up hw trivial
    obtain ⟨-, w2, -, -⟩ := zB_sh zMs_ok 300 _ _ _ _ B2 w1 hs2
    have w2 : yH (H2, H.2) := w2
    have f54u : z_up H.1 90 (zJ 1 (vp_updL f 0 (v.toInt64))) 54 = .inr (11, fs54) := (z_up_n H.1 (zJ 1 (vp_updL f 0 (v.toInt64))) (show (54 : Nat) ≠ 90 by decide)).trans f54
    obtain ⟨-, -, -, -, fs2, f2⟩ := jIV_1 hI2
    refine yc_S (d := 301) (r := (some (.int 0), (z_up H.1 90 (zJ 1 (vp_updL f 0 (v.toInt64))), H.2))) (avs := [.ref (tr 1), .int (xs (i + 1)), .int (xs (i + 2)), .ref (tr 90)]) (rest := []) (k := 4) (H := H) X ⟨Nat.le_of_ble_eq_true rfl, Nat.le_of_ble_eq_true rfl⟩ dL_law_339 (h_guest_n l (d := 300) hw n90 f1 hf9 B1 cA dC dI s.heap.size tr rfl rfl) x_hguest.1 x_hguest.2.1 x_hguest.2.2.1 x_hguest.2.2.2 ⟨by decide, by decide⟩ (by decide +kernel) rfl (by decide) hPX g1 g2 hl.1 (Nat.le_of_ble_eq_true rfl) ⟨Nat.le_trans (Nat.le_succ _) rc, Nat.le_trans (Nat.le_add_right _ 6) rs⟩ (fun tr1 Hh1 locs1 t1 r1 => ?_)
    show W p l e room_1 s m #[Value.ref b] below meth c Hh1 locs1 H.2.2.1 H.2.2.2 Q (F0 m 342 ls [.int 0])
    have hl1 : lv_has ls 8 (lV tr1 b i) := by rw [lV_same t1 n91]; exact hl
    refine lv_istore (lv' := (5, .int 0) :: lV tr1 b i) X.1 X.2.1 dL_law_342 hl1 (by decide) rfl (fun ls hl2 => ?_)
    have hl3 : lv_has ls 8 (lV tr1 b i) := lv_sub hl2 [1, 2, 3, 4, 5] rfl
    refine lv_aload_n X.1 X.2.1 dL_law_344 rfl (lv_at hl3 2 rfl) ?_
    refine la_arg (k := 1) C r1.2.2 hl3 (by omega) ⟨dL_law_345, dL_law_346, ⟨1, by decide, dL_law_348⟩, dL_law_349, dL_law_350⟩ ?_
    refine la_arg (k := 2) C r1.2.2 hl3 (by omega) ⟨dL_law_351, dL_law_352, ⟨2, by decide, dL_law_354⟩, dL_law_355, dL_law_356⟩ ?_
    refine yc_V (d := 300) (y := 214) (M := MX11_guest) (as := [.int (xs (i + 1)), .int (xs (i + 2))]) (avs := [.int (xs (i + 1)), .int (xs (i + 2))]) (rest := []) (ci := 11) (k := 2) (b := 54) (bv := tr1 54) (tr := tr1) (H := (z_up H.1 90 (zJ 1 (vp_updL f 0 (v.toInt64))), H.2)) (r := (some (.int v), (H2, H.2))) rfl rfl X room_f dL_law_357 rfl x_mguest.1 x_mguest.2.1 x_mguest.2.2 (by decide +kernel) rfl (by decide) (by decide) (Nat.lt_of_lt_of_le (by decide) n91) f54u B2 w1 (hs _) (t1.st g1) r1 hl3.1 (Nat.le_of_ble_eq_true rfl) ⟨by show H.2.2.1 + (H.2.2.1 - H.2.2.1) ≤ _; rw [Nat.sub_self]; exact Nat.le_trans (Nat.le_succ _) rc, by show H.2.2.2 + (H.2.2.2 - H.2.2.2) ≤ _; rw [Nat.sub_self]; exact Nat.le_trans (Nat.le_add_right _ 6) rs⟩ (fun tr2 Hh2 locs2 t2 r2 => ?_)
    show W p l e room_1 s m #[Value.ref b] below meth c Hh2 locs2 (H.2.2.1 + (H.2.2.1 - H.2.2.1)) (H.2.2.2 + (H.2.2.2 - H.2.2.2)) Q (F0 m 360 ls [.int v])
    rw [Nat.sub_self, Nat.sub_self]
    have hl4 : lv_has ls 8 ((5, .int 0) :: lV tr2 b i) := by rw [lV_same t2 n91]; exact hl2
    refine lv_istore (lv' := (6, .int v) :: (5, .int 0) :: lV tr2 b i) X.1 X.2.1 dL_law_360 hl4 (by decide) rfl (fun ls hl5 => ?_)
    refine lv_aload_n X.1 X.2.1 dL_law_362 rfl (lv_at hl5 4 rfl) ?_
    refine yc_V (d := 300) (y := 180) (M := MX11_thrown) (as := []) (avs := []) (rest := []) (ci := 11) (k := 0) (b := 54) (bv := tr2 54) (tr := tr2) (H := (H2, H.2)) (r := (some (.int 0), (H2, H.2))) rfl rfl X room_f dL_law_363 rfl x_mthrown.1 x_mthrown.2.1 x_mthrown.2.2 (by decide +kernel) rfl (by decide) (by decide) (Nat.lt_of_lt_of_le (by decide) n91) f2 B3 w2 (fun v h => absurd h List.not_mem_nil) (t2.st (t1.st g1)) r2 hl5.1 (Nat.le_of_ble_eq_true rfl) ⟨by show H.2.2.1 + (H.2.2.1 - H.2.2.1) ≤ _; rw [Nat.sub_self]; exact Nat.le_trans (Nat.le_succ _) rc, by show H.2.2.2 + (H.2.2.2 - H.2.2.2) ≤ _; rw [Nat.sub_self]; exact Nat.le_trans (Nat.le_add_right _ 6) rs⟩ (fun tr3 Hh3 locs3 t3 r3 => ?_)
    show W p l e room_1 s m #[Value.ref b] below meth c Hh3 locs3 (H.2.2.1 + (H.2.2.1 - H.2.2.1)) (H.2.2.2 + (H.2.2.2 - H.2.2.2)) Q (F0 m 366 ls [.int 0])
    rw [Nat.sub_self, Nat.sub_self]
    have hl6 : lv_has ls 8 ((6, .int v) :: (5, .int 0) :: lV tr3 b i) := by rw [lV_same t3 n91]; exact hl5
    refine lv_iload X.1 X.2.1 dL_law_366 (lv_at hl6 1 rfl) ?_
    refine lv_icmp_eq (tgt := 373) X.1 X.2.1 dL_law_368 (by decide) (fun _ => ?_) (fun q => absurd rfl q)
    refine lv_iload X.1 X.2.1 dL_law_373 (lv_at hl6 1 rfl) ?_
    refine lv_if_ne (tgt := 390) X.1 X.2.1 dL_law_375 (by decide) (fun q => absurd rfl q) (fun _ => ?_)
    refine lv_aload_n X.1 X.2.1 dL_law_378 rfl (lv_at hl6 5 rfl) ?_
    refine lv_iconst (v := 0) X.1 X.2.1 dL_law_379 (by decide) ?_
    have he := yw_at (cA := cA) (tr := tr3) (k := 90) (n := H.2.1) (by decide) n90 e90
    refine va_lald X.1 X.2.1 X.2.2.2.2.2.2.1 r3.1 89 1 he rfl x_row0 dL_law_380 ?_
    show W p l e room_1 s m #[Value.ref b] below meth c Hh3 locs3 H.2.2.1 H.2.2.2 Q (F0 m 381 ls [.long (v.toInt64)])
    refine lv_iload X.1 X.2.1 dL_law_381 (lv_at hl6 0 rfl) ?_
    refine lv_i2l (v := v.toInt64) X.1 X.2.1 dL_law_383 rfl ?_
    refine W.lcmp X.1 X.2.1 dL_law_384 ?_
    rw [lg_self]
    refine lv_if_eq (tgt := 390) X.1 X.2.1 dL_law_385 (by decide) (fun _ => ?_) (fun q => absurd rfl q)
    refine lv_goto (tgt := 1396) X.1 X.2.1 dL_law_390 (by decide) ?_
    exact kk (H2, H.2) tr3 Hh3 locs3 ls ⟨t3.st (t2.st (t1.st g1)), r3, hI2, w2, ⟨_, e90⟩, lv_sub hl6 [2, 3, 4, 5, 6] rfl⟩
  · have B2 := y_eq e2
    have B3 := y_eq e3
    have w1 : yH (H.1, (H.2.1, H.2.2.1 + 1, H.2.2.2 + 6)) := hw
    obtain ⟨-, w2, -, -⟩ := zB_sh zMs_ok 300 _ _ _ _ B2 w1 hs2
    have w2 : yH (H2, (H.2.1, H.2.2.1 + 1, H.2.2.2 + 6)) := w2
    have l2 : zLg 90 H2 := zB_lg zMs_ok 90 300 _ _ _ _ B2 w1 hs2 n90 hlg
    obtain ⟨-, -, -, -, fs2, f2⟩ := jIV_1 hI2
    refine yc_S (d := 292) (r := (some (.int 1), (H.1, (H.2.1, H.2.2.1 + 1, H.2.2.2 + 6)))) (avs := [.ref (tr 1), .int (xs (i + 1)), .int (xs (i + 2)), .ref (tr 90)]) (rest := []) (k := 4) (H := H) X ⟨Nat.le_of_ble_eq_true rfl, Nat.le_of_ble_eq_true rfl⟩ dL_law_339 (h_guest_t l hst (d := 290) (by decide) hw n90 f1 hP cA dC dI s.heap.size tr rfl rfl) x_hguest.1 x_hguest.2.1 x_hguest.2.2.1 x_hguest.2.2.2 ⟨by decide, by decide⟩ (by decide +kernel) rfl (by decide) hPX g1 g2 hl.1 (Nat.le_of_ble_eq_true rfl) ⟨rc, rs⟩ (fun tr1 Hh1 locs1 t1 r1 => ?_)
    show W p l e room_1 s m #[Value.ref b] below meth c Hh1 locs1 (H.2.2.1 + 1) (H.2.2.2 + 6) Q (F0 m 342 ls [.int 1])
    have hl1 : lv_has ls 8 (lV tr1 b i) := by rw [lV_same t1 n91]; exact hl
    refine lv_istore (lv' := (5, .int 1) :: lV tr1 b i) X.1 X.2.1 dL_law_342 hl1 (by decide) rfl (fun ls hl2 => ?_)
    have hl3 : lv_has ls 8 (lV tr1 b i) := lv_sub hl2 [1, 2, 3, 4, 5] rfl
    refine lv_aload_n X.1 X.2.1 dL_law_344 rfl (lv_at hl3 2 rfl) ?_
    refine la_arg (k := 1) C r1.2.2 hl3 (by omega) ⟨dL_law_345, dL_law_346, ⟨1, by decide, dL_law_348⟩, dL_law_349, dL_law_350⟩ ?_
    refine la_arg (k := 2) C r1.2.2 hl3 (by omega) ⟨dL_law_351, dL_law_352, ⟨2, by decide, dL_law_354⟩, dL_law_355, dL_law_356⟩ ?_
    refine yc_V (d := 300) (y := 214) (M := MX11_guest) (as := [.int (xs (i + 1)), .int (xs (i + 2))]) (avs := [.int (xs (i + 1)), .int (xs (i + 2))]) (rest := []) (ci := 11) (k := 2) (b := 54) (bv := tr1 54) (tr := tr1) (H := (H.1, (H.2.1, H.2.2.1 + 1, H.2.2.2 + 6))) (r := (some (.int 0), (H2, (H.2.1, H.2.2.1 + 1, H.2.2.2 + 6)))) rfl rfl X room_f dL_law_357 rfl x_mguest.1 x_mguest.2.1 x_mguest.2.2 (by decide +kernel) rfl (by decide) (by decide) (Nat.lt_of_lt_of_le (by decide) n91) f54 B2 w1 (hs _) (t1.st g1) r1 hl3.1 (Nat.le_of_ble_eq_true rfl) ⟨by show H.2.2.1 + 1 + (H.2.2.1 + 1 - (H.2.2.1 + 1)) ≤ _; rw [Nat.sub_self]; exact rc, by show H.2.2.2 + 6 + (H.2.2.2 + 6 - (H.2.2.2 + 6)) ≤ _; rw [Nat.sub_self]; exact rs⟩ (fun tr2 Hh2 locs2 t2 r2 => ?_)
    show W p l e room_1 s m #[Value.ref b] below meth c Hh2 locs2 (H.2.2.1 + 1 + (H.2.2.1 + 1 - (H.2.2.1 + 1))) (H.2.2.2 + 6 + (H.2.2.2 + 6 - (H.2.2.2 + 6))) Q (F0 m 360 ls [.int 0])
    rw [Nat.sub_self, Nat.sub_self]
    have hl4 : lv_has ls 8 ((5, .int 1) :: lV tr2 b i) := by rw [lV_same t2 n91]; exact hl2
    refine lv_istore (lv' := (6, .int 0) :: (5, .int 1) :: lV tr2 b i) X.1 X.2.1 dL_law_360 hl4 (by decide) rfl (fun ls hl5 => ?_)
    refine lv_aload_n X.1 X.2.1 dL_law_362 rfl (lv_at hl5 4 rfl) ?_
    refine yc_V (d := 300) (y := 180) (M := MX11_thrown) (as := []) (avs := []) (rest := []) (ci := 11) (k := 0) (b := 54) (bv := tr2 54) (tr := tr2) (H := (H2, (H.2.1, H.2.2.1 + 1, H.2.2.2 + 6))) (r := (some (.int 1), (H2, (H.2.1, H.2.2.1 + 1, H.2.2.2 + 6)))) rfl rfl X room_f dL_law_363 rfl x_mthrown.1 x_mthrown.2.1 x_mthrown.2.2 (by decide +kernel) rfl (by decide) (by decide) (Nat.lt_of_lt_of_le (by decide) n91) f2 B3 w2 (fun v h => absurd h List.not_mem_nil) (t2.st (t1.st g1)) r2 hl5.1 (Nat.le_of_ble_eq_true rfl) ⟨by show H.2.2.1 + 1 + (H.2.2.1 + 1 - (H.2.2.1 + 1)) ≤ _; rw [Nat.sub_self]; exact rc, by show H.2.2.2 + 6 + (H.2.2.2 + 6 - (H.2.2.2 + 6)) ≤ _; rw [Nat.sub_self]; exact rs⟩ (fun tr3 Hh3 locs3 t3 r3 => ?_)
    show W p l e room_1 s m #[Value.ref b] below meth c Hh3 locs3 (H.2.2.1 + 1 + (H.2.2.1 + 1 - (H.2.2.1 + 1))) (H.2.2.2 + 6 + (H.2.2.2 + 6 - (H.2.2.2 + 6))) Q (F0 m 366 ls [.int 1])
    rw [Nat.sub_self, Nat.sub_self]
    have hl6 : lv_has ls 8 ((6, .int 0) :: (5, .int 1) :: lV tr3 b i) := by rw [lV_same t3 n91]; exact hl5
    refine lv_iload X.1 X.2.1 dL_law_366 (lv_at hl6 1 rfl) ?_
    refine lv_icmp_eq (tgt := 373) X.1 X.2.1 dL_law_368 (by decide) (fun _ => ?_) (fun q => absurd rfl q)
    refine lv_iload X.1 X.2.1 dL_law_373 (lv_at hl6 1 rfl) ?_
    refine lv_if_ne (tgt := 390) X.1 X.2.1 dL_law_375 (by decide) (fun _ => ?_) (fun q => absurd q (by decide))
    refine lv_goto (tgt := 1396) X.1 X.2.1 dL_law_390 (by decide) ?_
    exact kk (H2, (H.2.1, H.2.2.1 + 1, H.2.2.2 + 6)) tr3 Hh3 locs3 ls ⟨t3.st (t2.st (t1.st g1)), r3, hI2, w2, l2, lv_sub hl6 [2, 3, 4, 5, 6] rfl⟩
theorem x_hpair : Cond.codeWith yL_pair cL_pair 5 (some .int) [(0, 10, 13, 13)] ∈ zT ∧ Cond.methodLink (zCn 12) 58 yL_pair ∈ zT ∧ Cond.static yL_pair ∈ zT ∧ Cond.initialized yL_pair.cls ∈ zT := by decide +kernel
theorem x_mpair : Cond.methodLink (zCn 12) 60 MX11_pair.1 ∈ zT ∧ Cond.instanceMethod MX11_pair.1 ∈ zT ∧ Cond.selects (zCls 11) MX11_pair.1 MX11_pair.1 ∈ zT := by decide +kernel
set_option maxHeartbeats 4000000 in
theorem lt_pair (hst : l.stackTraces = false) (C : lC p s m c cA dC dI tr0 b L xs) (hR : lR s cA dC dI tr0 k b i H tr Hh locs ls) (hk : k < 64) (hi : i + 5 ≤ L)
    (kk : ∀ (H' : zH) (tr' : Nat → Nat) (Hh' : Heap) (locs' : List Loc) (ls : Array Slot), lR s cA dC dI tr0 (k + 1) b i H' tr' Hh' locs' ls → W p l e room_1 s m #[Value.ref b] below meth c Hh' locs' H'.2.2.1 H'.2.2.2 Q (F0 m 1396 ls [])) : W p l e room_1 s m #[Value.ref b] below meth c Hh locs H.2.2.1 H.2.2.2 Q (F0 m 393 ls []) := by
  have C' := C
  obtain ⟨X, hPX, hL, hX, hb⟩ := C'
  obtain ⟨g1, g2, hI, hw, hlg, hl⟩ := hR
  obtain ⟨n91, nc, ns, ⟨fs1, f1⟩, fs54, f54⟩ := jIV_1 hI
  have n90 : 90 < H.2.1 := Nat.lt_of_lt_of_le (by decide) n91
  have hs : ∀ (n : Nat), ∀ w ∈ ([.int (xs (i + 1)), .int (xs (i + 2))] : List Value), yok n w := fun n w hw9 => by
    simp only [List.mem_cons, List.not_mem_nil, or_false] at hw9; rcases hw9 with rfl | rfl <;> trivial
  have hs2 : ∀ w ∈ (Value.ref 54 :: [.int (xs (i + 1)), .int (xs (i + 2))] : List Value), yok H.2.1 w := fun w hw9 => by
    rcases List.mem_cons.mp hw9 with rfl | hw9
    · exact Or.inl ⟨by decide, Nat.lt_of_lt_of_le (by decide) n91⟩
    · exact hs _ w hw9
  have rc : H.2.2.1 + 1 ≤ room_1.cells := Nat.le_trans (Nat.add_le_add_right nc 1) (by show 91 + 9 * k + 1 ≤ 600128; omega)
  have rs : H.2.2.2 + 6 ≤ room_1.slots := Nat.le_trans (Nat.add_le_add_right ns 6) (by show 100000 + 40000 * k + 6 ≤ 7301098; omega)
  refine lv_aload_n X.1 X.2.1 dL_law_393 rfl (lv_at hl 1 rfl) ?_
  refine la_arg (k := 1) C g2.2.2 hl (by omega) ⟨dL_law_394, dL_law_395, ⟨1, by decide, dL_law_397⟩, dL_law_398, dL_law_399⟩ ?_
  refine la_arg (k := 2) C g2.2.2 hl (by omega) ⟨dL_law_400, dL_law_401, ⟨2, by decide, dL_law_403⟩, dL_law_404, dL_law_405⟩ ?_
  refine lv_aload_n X.1 X.2.1 dL_law_406 rfl (lv_at hl 3 rfl) ?_
  rcases s_pair hk hI (xs (i + 1)) (xs (i + 2)) with ⟨v, e1, hh⟩ | ⟨hP, H2, e2, e3, hI2⟩
  · obtain ⟨f, hf9⟩ := hlg
    obtain ⟨H2, e2, e3, e90, hI2⟩ := hh (zJ 1 (vp_updL f 0 (v.toInt64)))
    have B1 := y_eq e1
    have B2 := y_eq e2
    have B3 := y_eq e3
    have w1 : yH (z_up H.1 90 (zJ 1 (vp_updL f 0 (v.toInt64))), H.2) := yH_up hw trivial
    obtain ⟨-, w2, -, -⟩ := zB_sh zMs_ok 300 _ _ _ _ B2 w1 hs2
    have w2 : yH (H2, H.2) := w2
    have f54u : z_up H.1 90 (zJ 1 (vp_updL f 0 (v.toInt64))) 54 = .inr (11, fs54) := (z_up_n H.1 (zJ 1 (vp_updL f 0 (v.toInt64))) (show (54 : Nat) ≠ 90 by decide)).trans f54
    obtain ⟨-, -, -, -, fs2, f2⟩ := jIV_1 hI2
    refine yc_S (d := 301) (r := (some (.int 0), (z_up H.1 90 (zJ 1 (vp_updL f 0 (v.toInt64))), H.2))) (avs := [.ref (tr 1), .int (xs (i + 1)), .int (xs (i + 2)), .ref (tr 90)]) (rest := []) (k := 4) (H := H) X ⟨Nat.le_of_ble_eq_true rfl, Nat.le_of_ble_eq_true rfl⟩ dL_law_407 (h_pair_n l (d := 300) hw n90 f1 hf9 B1 cA dC dI s.heap.size tr rfl rfl) x_hpair.1 x_hpair.2.1 x_hpair.2.2.1 x_hpair.2.2.2 ⟨by decide, by decide⟩ (by decide +kernel) rfl (by decide) hPX g1 g2 hl.1 (Nat.le_of_ble_eq_true rfl) ⟨Nat.le_trans (Nat.le_succ _) rc, Nat.le_trans (Nat.le_add_right _ 6) rs⟩ (fun tr1 Hh1 locs1 t1 r1 => ?_)
    show W p l e room_1 s m #[Value.ref b] below meth c Hh1 locs1 H.2.2.1 H.2.2.2 Q (F0 m 410 ls [.int 0])
    have hl1 : lv_has ls 8 (lV tr1 b i) := by rw [lV_same t1 n91]; exact hl
    refine lv_istore (lv' := (5, .int 0) :: lV tr1 b i) X.1 X.2.1 dL_law_410 hl1 (by decide) rfl (fun ls hl2 => ?_)
    have hl3 : lv_has ls 8 (lV tr1 b i) := lv_sub hl2 [1, 2, 3, 4, 5] rfl
    refine lv_aload_n X.1 X.2.1 dL_law_412 rfl (lv_at hl3 2 rfl) ?_
    refine la_arg (k := 1) C r1.2.2 hl3 (by omega) ⟨dL_law_413, dL_law_414, ⟨1, by decide, dL_law_416⟩, dL_law_417, dL_law_418⟩ ?_
    refine la_arg (k := 2) C r1.2.2 hl3 (by omega) ⟨dL_law_419, dL_law_420, ⟨2, by decide, dL_law_422⟩, dL_law_423, dL_law_424⟩ ?_
    refine yc_V (d := 300) (y := 215) (M := MX11_pair) (as := [.int (xs (i + 1)), .int (xs (i + 2))]) (avs := [.int (xs (i + 1)), .int (xs (i + 2))]) (rest := []) (ci := 11) (k := 2) (b := 54) (bv := tr1 54) (tr := tr1) (H := (z_up H.1 90 (zJ 1 (vp_updL f 0 (v.toInt64))), H.2)) (r := (some (.int v), (H2, H.2))) rfl rfl X room_f dL_law_425 rfl x_mpair.1 x_mpair.2.1 x_mpair.2.2 (by decide +kernel) rfl (by decide) (by decide) (Nat.lt_of_lt_of_le (by decide) n91) f54u B2 w1 (hs _) (t1.st g1) r1 hl3.1 (Nat.le_of_ble_eq_true rfl) ⟨by show H.2.2.1 + (H.2.2.1 - H.2.2.1) ≤ _; rw [Nat.sub_self]; exact Nat.le_trans (Nat.le_succ _) rc, by show H.2.2.2 + (H.2.2.2 - H.2.2.2) ≤ _; rw [Nat.sub_self]; exact Nat.le_trans (Nat.le_add_right _ 6) rs⟩ (fun tr2 Hh2 locs2 t2 r2 => ?_)
    show W p l e room_1 s m #[Value.ref b] below meth c Hh2 locs2 (H.2.2.1 + (H.2.2.1 - H.2.2.1)) (H.2.2.2 + (H.2.2.2 - H.2.2.2)) Q (F0 m 428 ls [.int v])
    rw [Nat.sub_self, Nat.sub_self]
    have hl4 : lv_has ls 8 ((5, .int 0) :: lV tr2 b i) := by rw [lV_same t2 n91]; exact hl2
    refine lv_istore (lv' := (6, .int v) :: (5, .int 0) :: lV tr2 b i) X.1 X.2.1 dL_law_428 hl4 (by decide) rfl (fun ls hl5 => ?_)
    refine lv_aload_n X.1 X.2.1 dL_law_430 rfl (lv_at hl5 4 rfl) ?_
    refine yc_V (d := 300) (y := 180) (M := MX11_thrown) (as := []) (avs := []) (rest := []) (ci := 11) (k := 0) (b := 54) (bv := tr2 54) (tr := tr2) (H := (H2, H.2)) (r := (some (.int 0), (H2, H.2))) rfl rfl X room_f dL_law_431 rfl x_mthrown.1 x_mthrown.2.1 x_mthrown.2.2 (by decide +kernel) rfl (by decide) (by decide) (Nat.lt_of_lt_of_le (by decide) n91) f2 B3 w2 (fun v h => absurd h List.not_mem_nil) (t2.st (t1.st g1)) r2 hl5.1 (Nat.le_of_ble_eq_true rfl) ⟨by show H.2.2.1 + (H.2.2.1 - H.2.2.1) ≤ _; rw [Nat.sub_self]; exact Nat.le_trans (Nat.le_succ _) rc, by show H.2.2.2 + (H.2.2.2 - H.2.2.2) ≤ _; rw [Nat.sub_self]; exact Nat.le_trans (Nat.le_add_right _ 6) rs⟩ (fun tr3 Hh3 locs3 t3 r3 => ?_)
    show W p l e room_1 s m #[Value.ref b] below meth c Hh3 locs3 (H.2.2.1 + (H.2.2.1 - H.2.2.1)) (H.2.2.2 + (H.2.2.2 - H.2.2.2)) Q (F0 m 434 ls [.int 0])
    rw [Nat.sub_self, Nat.sub_self]
    have hl6 : lv_has ls 8 ((6, .int v) :: (5, .int 0) :: lV tr3 b i) := by rw [lV_same t3 n91]; exact hl5
    refine lv_iload X.1 X.2.1 dL_law_434 (lv_at hl6 1 rfl) ?_
    refine lv_icmp_eq (tgt := 441) X.1 X.2.1 dL_law_436 (by decide) (fun _ => ?_) (fun q => absurd rfl q)
    refine lv_iload X.1 X.2.1 dL_law_441 (lv_at hl6 1 rfl) ?_
    refine lv_if_ne (tgt := 458) X.1 X.2.1 dL_law_443 (by decide) (fun q => absurd rfl q) (fun _ => ?_)
    refine lv_aload_n X.1 X.2.1 dL_law_446 rfl (lv_at hl6 5 rfl) ?_
    refine lv_iconst (v := 0) X.1 X.2.1 dL_law_447 (by decide) ?_
    have he := yw_at (cA := cA) (tr := tr3) (k := 90) (n := H.2.1) (by decide) n90 e90
    refine va_lald X.1 X.2.1 X.2.2.2.2.2.2.1 r3.1 89 1 he rfl x_row0 dL_law_448 ?_
    show W p l e room_1 s m #[Value.ref b] below meth c Hh3 locs3 H.2.2.1 H.2.2.2 Q (F0 m 449 ls [.long (v.toInt64)])
    refine lv_iload X.1 X.2.1 dL_law_449 (lv_at hl6 0 rfl) ?_
    refine lv_i2l (v := v.toInt64) X.1 X.2.1 dL_law_451 rfl ?_
    refine W.lcmp X.1 X.2.1 dL_law_452 ?_
    rw [lg_self]
    refine lv_if_eq (tgt := 458) X.1 X.2.1 dL_law_453 (by decide) (fun _ => ?_) (fun q => absurd rfl q)
    refine lv_goto (tgt := 1396) X.1 X.2.1 dL_law_458 (by decide) ?_
    exact kk (H2, H.2) tr3 Hh3 locs3 ls ⟨t3.st (t2.st (t1.st g1)), r3, hI2, w2, ⟨_, e90⟩, lv_sub hl6 [2, 3, 4, 5, 6] rfl⟩
  · have B2 := y_eq e2
    have B3 := y_eq e3
    have w1 : yH (H.1, (H.2.1, H.2.2.1 + 1, H.2.2.2 + 6)) := hw
    obtain ⟨-, w2, -, -⟩ := zB_sh zMs_ok 300 _ _ _ _ B2 w1 hs2
    have w2 : yH (H2, (H.2.1, H.2.2.1 + 1, H.2.2.2 + 6)) := w2
    have l2 : zLg 90 H2 := zB_lg zMs_ok 90 300 _ _ _ _ B2 w1 hs2 n90 hlg
    obtain ⟨-, -, -, -, fs2, f2⟩ := jIV_1 hI2
    refine yc_S (d := 292) (r := (some (.int 1), (H.1, (H.2.1, H.2.2.1 + 1, H.2.2.2 + 6)))) (avs := [.ref (tr 1), .int (xs (i + 1)), .int (xs (i + 2)), .ref (tr 90)]) (rest := []) (k := 4) (H := H) X ⟨Nat.le_of_ble_eq_true rfl, Nat.le_of_ble_eq_true rfl⟩ dL_law_407 (h_pair_t l hst (d := 290) (by decide) hw n90 f1 hP cA dC dI s.heap.size tr rfl rfl) x_hpair.1 x_hpair.2.1 x_hpair.2.2.1 x_hpair.2.2.2 ⟨by decide, by decide⟩ (by decide +kernel) rfl (by decide) hPX g1 g2 hl.1 (Nat.le_of_ble_eq_true rfl) ⟨rc, rs⟩ (fun tr1 Hh1 locs1 t1 r1 => ?_)
    show W p l e room_1 s m #[Value.ref b] below meth c Hh1 locs1 (H.2.2.1 + 1) (H.2.2.2 + 6) Q (F0 m 410 ls [.int 1])
    have hl1 : lv_has ls 8 (lV tr1 b i) := by rw [lV_same t1 n91]; exact hl
    refine lv_istore (lv' := (5, .int 1) :: lV tr1 b i) X.1 X.2.1 dL_law_410 hl1 (by decide) rfl (fun ls hl2 => ?_)
    have hl3 : lv_has ls 8 (lV tr1 b i) := lv_sub hl2 [1, 2, 3, 4, 5] rfl
    refine lv_aload_n X.1 X.2.1 dL_law_412 rfl (lv_at hl3 2 rfl) ?_
    refine la_arg (k := 1) C r1.2.2 hl3 (by omega) ⟨dL_law_413, dL_law_414, ⟨1, by decide, dL_law_416⟩, dL_law_417, dL_law_418⟩ ?_
    refine la_arg (k := 2) C r1.2.2 hl3 (by omega) ⟨dL_law_419, dL_law_420, ⟨2, by decide, dL_law_422⟩, dL_law_423, dL_law_424⟩ ?_
    refine yc_V (d := 300) (y := 215) (M := MX11_pair) (as := [.int (xs (i + 1)), .int (xs (i + 2))]) (avs := [.int (xs (i + 1)), .int (xs (i + 2))]) (rest := []) (ci := 11) (k := 2) (b := 54) (bv := tr1 54) (tr := tr1) (H := (H.1, (H.2.1, H.2.2.1 + 1, H.2.2.2 + 6))) (r := (some (.int 0), (H2, (H.2.1, H.2.2.1 + 1, H.2.2.2 + 6)))) rfl rfl X room_f dL_law_425 rfl x_mpair.1 x_mpair.2.1 x_mpair.2.2 (by decide +kernel) rfl (by decide) (by decide) (Nat.lt_of_lt_of_le (by decide) n91) f54 B2 w1 (hs _) (t1.st g1) r1 hl3.1 (Nat.le_of_ble_eq_true rfl) ⟨by show H.2.2.1 + 1 + (H.2.2.1 + 1 - (H.2.2.1 + 1)) ≤ _; rw [Nat.sub_self]; exact rc, by show H.2.2.2 + 6 + (H.2.2.2 + 6 - (H.2.2.2 + 6)) ≤ _; rw [Nat.sub_self]; exact rs⟩ (fun tr2 Hh2 locs2 t2 r2 => ?_)
    show W p l e room_1 s m #[Value.ref b] below meth c Hh2 locs2 (H.2.2.1 + 1 + (H.2.2.1 + 1 - (H.2.2.1 + 1))) (H.2.2.2 + 6 + (H.2.2.2 + 6 - (H.2.2.2 + 6))) Q (F0 m 428 ls [.int 0])
    rw [Nat.sub_self, Nat.sub_self]
    have hl4 : lv_has ls 8 ((5, .int 1) :: lV tr2 b i) := by rw [lV_same t2 n91]; exact hl2
    refine lv_istore (lv' := (6, .int 0) :: (5, .int 1) :: lV tr2 b i) X.1 X.2.1 dL_law_428 hl4 (by decide) rfl (fun ls hl5 => ?_)
    refine lv_aload_n X.1 X.2.1 dL_law_430 rfl (lv_at hl5 4 rfl) ?_
    refine yc_V (d := 300) (y := 180) (M := MX11_thrown) (as := []) (avs := []) (rest := []) (ci := 11) (k := 0) (b := 54) (bv := tr2 54) (tr := tr2) (H := (H2, (H.2.1, H.2.2.1 + 1, H.2.2.2 + 6))) (r := (some (.int 1), (H2, (H.2.1, H.2.2.1 + 1, H.2.2.2 + 6)))) rfl rfl X room_f dL_law_431 rfl x_mthrown.1 x_mthrown.2.1 x_mthrown.2.2 (by decide +kernel) rfl (by decide) (by decide) (Nat.lt_of_lt_of_le (by decide) n91) f2 B3 w2 (fun v h => absurd h List.not_mem_nil) (t2.st (t1.st g1)) r2 hl5.1 (Nat.le_of_ble_eq_true rfl) ⟨by show H.2.2.1 + 1 + (H.2.2.1 + 1 - (H.2.2.1 + 1)) ≤ _; rw [Nat.sub_self]; exact rc, by show H.2.2.2 + 6 + (H.2.2.2 + 6 - (H.2.2.2 + 6)) ≤ _; rw [Nat.sub_self]; exact rs⟩ (fun tr3 Hh3 locs3 t3 r3 => ?_)
    show W p l e room_1 s m #[Value.ref b] below meth c Hh3 locs3 (H.2.2.1 + 1 + (H.2.2.1 + 1 - (H.2.2.1 + 1))) (H.2.2.2 + 6 + (H.2.2.2 + 6 - (H.2.2.2 + 6))) Q (F0 m 434 ls [.int 1])
    rw [Nat.sub_self, Nat.sub_self]
    have hl6 : lv_has ls 8 ((6, .int 0) :: (5, .int 1) :: lV tr3 b i) := by rw [lV_same t3 n91]; exact hl5
    refine lv_iload X.1 X.2.1 dL_law_434 (lv_at hl6 1 rfl) ?_
    refine lv_icmp_eq (tgt := 441) X.1 X.2.1 dL_law_436 (by decide) (fun _ => ?_) (fun q => absurd rfl q)
    refine lv_iload X.1 X.2.1 dL_law_441 (lv_at hl6 1 rfl) ?_
    refine lv_if_ne (tgt := 458) X.1 X.2.1 dL_law_443 (by decide) (fun _ => ?_) (fun q => absurd q (by decide))
    refine lv_goto (tgt := 1396) X.1 X.2.1 dL_law_458 (by decide) ?_
    exact kk (H2, (H.2.1, H.2.2.1 + 1, H.2.2.2 + 6)) tr3 Hh3 locs3 ls ⟨t3.st (t2.st (t1.st g1)), r3, hI2, w2, l2, lv_sub hl6 [2, 3, 4, 5, 6] rfl⟩
theorem x_hrow : Cond.codeWith yL_row cL_row 4 (some .int) [(0, 8, 11, 13)] ∈ zT ∧ Cond.methodLink (zCn 12) 216 yL_row ∈ zT ∧ Cond.static yL_row ∈ zT ∧ Cond.initialized yL_row.cls ∈ zT := by decide +kernel
theorem x_mrow : Cond.methodLink (zCn 12) 219 MX11_row.1 ∈ zT ∧ Cond.instanceMethod MX11_row.1 ∈ zT ∧ Cond.selects (zCls 11) MX11_row.1 MX11_row.1 ∈ zT := by decide +kernel
set_option maxHeartbeats 4000000 in
theorem lt_row (hst : l.stackTraces = false) (C : lC p s m c cA dC dI tr0 b L xs) (hR : lR s cA dC dI tr0 k b i H tr Hh locs ls) (hk : k < 64) (hi : i + 5 ≤ L)
    (kk : ∀ (H' : zH) (tr' : Nat → Nat) (Hh' : Heap) (locs' : List Loc) (ls : Array Slot), lR s cA dC dI tr0 (k + 1) b i H' tr' Hh' locs' ls → W p l e room_1 s m #[Value.ref b] below meth c Hh' locs' H'.2.2.1 H'.2.2.2 Q (F0 m 1396 ls [])) : W p l e room_1 s m #[Value.ref b] below meth c Hh locs H.2.2.1 H.2.2.2 Q (F0 m 1341 ls []) := by
  have C' := C
  obtain ⟨X, hPX, hL, hX, hb⟩ := C'
  obtain ⟨g1, g2, hI, hw, hlg, hl⟩ := hR
  obtain ⟨n91, nc, ns, ⟨fs1, f1⟩, fs54, f54⟩ := jIV_1 hI
  have n90 : 90 < H.2.1 := Nat.lt_of_lt_of_le (by decide) n91
  have hs : ∀ (n : Nat), ∀ w ∈ ([.int (xs (i + 1))] : List Value), yok n w := fun n w hw9 => by
    simp only [List.mem_cons, List.not_mem_nil, or_false] at hw9; subst hw9; trivial
  have hs2 : ∀ w ∈ (Value.ref 54 :: [.int (xs (i + 1))] : List Value), yok H.2.1 w := fun w hw9 => by
    rcases List.mem_cons.mp hw9 with rfl | hw9
    · exact Or.inl ⟨by decide, Nat.lt_of_lt_of_le (by decide) n91⟩
    · exact hs _ w hw9
  have rc : H.2.2.1 + 1 ≤ room_1.cells := Nat.le_trans (Nat.add_le_add_right nc 1) (by show 91 + 9 * k + 1 ≤ 600128; omega)
  have rs : H.2.2.2 + 6 ≤ room_1.slots := Nat.le_trans (Nat.add_le_add_right ns 6) (by show 100000 + 40000 * k + 6 ≤ 7301098; omega)
  refine lv_aload_n X.1 X.2.1 dL_law_1341 rfl (lv_at hl 1 rfl) ?_
  refine la_arg (k := 1) C g2.2.2 hl (by omega) ⟨dL_law_1342, dL_law_1343, ⟨1, by decide, dL_law_1345⟩, dL_law_1346, dL_law_1347⟩ ?_
  refine lv_aload_n X.1 X.2.1 dL_law_1348 rfl (lv_at hl 3 rfl) ?_
  rcases s_rowg hk hI (xs (i + 1)) with ⟨v, e1, hh⟩ | ⟨hP, H2, e2, e3, hI2⟩
  · obtain ⟨f, hf9⟩ := hlg
    obtain ⟨H2, e2, e3, e90, hI2⟩ := hh (zJ 1 (vp_updL f 0 (v)))
    have B1 := y_eq e1
    have B2 := y_eq e2
    have B3 := y_eq e3
    have w1 : yH (z_up H.1 90 (zJ 1 (vp_updL f 0 (v))), H.2) := yH_up hw trivial
    obtain ⟨-, w2, -, -⟩ := zB_sh zMs_ok 300 _ _ _ _ B2 w1 hs2
    have w2 : yH (H2, H.2) := w2
    have f54u : z_up H.1 90 (zJ 1 (vp_updL f 0 (v))) 54 = .inr (11, fs54) := (z_up_n H.1 (zJ 1 (vp_updL f 0 (v))) (show (54 : Nat) ≠ 90 by decide)).trans f54
    obtain ⟨-, -, -, -, fs2, f2⟩ := jIV_1 hI2
    refine yc_S (d := 301) (r := (some (.int 0), (z_up H.1 90 (zJ 1 (vp_updL f 0 (v))), H.2))) (avs := [.ref (tr 1), .int (xs (i + 1)), .ref (tr 90)]) (rest := []) (k := 3) (H := H) X ⟨Nat.le_of_ble_eq_true rfl, Nat.le_of_ble_eq_true rfl⟩ dL_law_1349 (h_row_n l (d := 300) hw n90 f1 hf9 B1 cA dC dI s.heap.size tr rfl rfl) x_hrow.1 x_hrow.2.1 x_hrow.2.2.1 x_hrow.2.2.2 ⟨by decide, by decide⟩ (by decide +kernel) rfl (by decide) hPX g1 g2 hl.1 (Nat.le_of_ble_eq_true rfl) ⟨Nat.le_trans (Nat.le_succ _) rc, Nat.le_trans (Nat.le_add_right _ 6) rs⟩ (fun tr1 Hh1 locs1 t1 r1 => ?_)
    show W p l e room_1 s m #[Value.ref b] below meth c Hh1 locs1 H.2.2.1 H.2.2.2 Q (F0 m 1352 ls [.int 0])
    have hl1 : lv_has ls 8 (lV tr1 b i) := by rw [lV_same t1 n91]; exact hl
    refine lv_istore (lv' := (5, .int 0) :: lV tr1 b i) X.1 X.2.1 dL_law_1352 hl1 (by decide) rfl (fun ls hl2 => ?_)
    have hl3 : lv_has ls 8 (lV tr1 b i) := lv_sub hl2 [1, 2, 3, 4, 5] rfl
    refine lv_aload_n X.1 X.2.1 dL_law_1354 rfl (lv_at hl3 2 rfl) ?_
    refine la_arg (k := 1) C r1.2.2 hl3 (by omega) ⟨dL_law_1355, dL_law_1356, ⟨1, by decide, dL_law_1358⟩, dL_law_1359, dL_law_1360⟩ ?_
    refine yc_V (d := 300) (y := 291) (M := MX11_row) (as := [.int (xs (i + 1))]) (avs := [.int (xs (i + 1))]) (rest := []) (ci := 11) (k := 1) (b := 54) (bv := tr1 54) (tr := tr1) (H := (z_up H.1 90 (zJ 1 (vp_updL f 0 (v))), H.2)) (r := (some (.long v), (H2, H.2))) rfl rfl X room_f dL_law_1361 rfl x_mrow.1 x_mrow.2.1 x_mrow.2.2 (by decide +kernel) rfl (by decide) (by decide) (Nat.lt_of_lt_of_le (by decide) n91) f54u B2 w1 (hs _) (t1.st g1) r1 hl3.1 (Nat.le_of_ble_eq_true rfl) ⟨by show H.2.2.1 + (H.2.2.1 - H.2.2.1) ≤ _; rw [Nat.sub_self]; exact Nat.le_trans (Nat.le_succ _) rc, by show H.2.2.2 + (H.2.2.2 - H.2.2.2) ≤ _; rw [Nat.sub_self]; exact Nat.le_trans (Nat.le_add_right _ 6) rs⟩ (fun tr2 Hh2 locs2 t2 r2 => ?_)
    show W p l e room_1 s m #[Value.ref b] below meth c Hh2 locs2 (H.2.2.1 + (H.2.2.1 - H.2.2.1)) (H.2.2.2 + (H.2.2.2 - H.2.2.2)) Q (F0 m 1364 ls [.long v])
    rw [Nat.sub_self, Nat.sub_self]
    have hl4 : lv_has ls 8 ((5, .int 0) :: lV tr2 b i) := by rw [lV_same t2 n91]; exact hl2
    refine lv_lstore (lv' := (6, .long v) :: (5, .int 0) :: lV tr2 b i) X.1 X.2.1 dL_law_1364 hl4 (by decide) rfl (fun ls hl5 => ?_)
    refine lv_aload_n X.1 X.2.1 dL_law_1366 rfl (lv_at hl5 4 rfl) ?_
    refine yc_V (d := 300) (y := 180) (M := MX11_thrown) (as := []) (avs := []) (rest := []) (ci := 11) (k := 0) (b := 54) (bv := tr2 54) (tr := tr2) (H := (H2, H.2)) (r := (some (.int 0), (H2, H.2))) rfl rfl X room_f dL_law_1367 rfl x_mthrown.1 x_mthrown.2.1 x_mthrown.2.2 (by decide +kernel) rfl (by decide) (by decide) (Nat.lt_of_lt_of_le (by decide) n91) f2 B3 w2 (fun v h => absurd h List.not_mem_nil) (t2.st (t1.st g1)) r2 hl5.1 (Nat.le_of_ble_eq_true rfl) ⟨by show H.2.2.1 + (H.2.2.1 - H.2.2.1) ≤ _; rw [Nat.sub_self]; exact Nat.le_trans (Nat.le_succ _) rc, by show H.2.2.2 + (H.2.2.2 - H.2.2.2) ≤ _; rw [Nat.sub_self]; exact Nat.le_trans (Nat.le_add_right _ 6) rs⟩ (fun tr3 Hh3 locs3 t3 r3 => ?_)
    show W p l e room_1 s m #[Value.ref b] below meth c Hh3 locs3 (H.2.2.1 + (H.2.2.1 - H.2.2.1)) (H.2.2.2 + (H.2.2.2 - H.2.2.2)) Q (F0 m 1370 ls [.int 0])
    rw [Nat.sub_self, Nat.sub_self]
    have hl6 : lv_has ls 8 ((6, .long v) :: (5, .int 0) :: lV tr3 b i) := by rw [lV_same t3 n91]; exact hl5
    refine lv_iload X.1 X.2.1 dL_law_1370 (lv_at hl6 1 rfl) ?_
    refine lv_icmp_eq (tgt := 1377) X.1 X.2.1 dL_law_1372 (by decide) (fun _ => ?_) (fun q => absurd rfl q)
    refine lv_iload X.1 X.2.1 dL_law_1377 (lv_at hl6 1 rfl) ?_
    refine lv_if_ne (tgt := 1393) X.1 X.2.1 dL_law_1379 (by decide) (fun q => absurd rfl q) (fun _ => ?_)
    refine lv_aload_n X.1 X.2.1 dL_law_1382 rfl (lv_at hl6 5 rfl) ?_
    refine lv_iconst (v := 0) X.1 X.2.1 dL_law_1383 (by decide) ?_
    have he := yw_at (cA := cA) (tr := tr3) (k := 90) (n := H.2.1) (by decide) n90 e90
    refine va_lald X.1 X.2.1 X.2.2.2.2.2.2.1 r3.1 89 1 he rfl x_row0 dL_law_1384 ?_
    show W p l e room_1 s m #[Value.ref b] below meth c Hh3 locs3 H.2.2.1 H.2.2.2 Q (F0 m 1385 ls [.long (v)])
    refine lv_lload X.1 X.2.1 dL_law_1385 (lv_at hl6 0 rfl) ?_
    refine W.lcmp X.1 X.2.1 dL_law_1387 ?_
    rw [lg_self]
    refine lv_if_eq (tgt := 1393) X.1 X.2.1 dL_law_1388 (by decide) (fun _ => ?_) (fun q => absurd rfl q)
    refine lv_goto (tgt := 1396) X.1 X.2.1 dL_law_1393 (by decide) ?_
    exact kk (H2, H.2) tr3 Hh3 locs3 ls ⟨t3.st (t2.st (t1.st g1)), r3, hI2, w2, ⟨_, e90⟩, lv_sub hl6 [2, 3, 4, 5, 6] rfl⟩
  · have B2 := y_eq e2
    have B3 := y_eq e3
    have w1 : yH (H.1, (H.2.1, H.2.2.1 + 1, H.2.2.2 + 6)) := hw
    obtain ⟨-, w2, -, -⟩ := zB_sh zMs_ok 300 _ _ _ _ B2 w1 hs2
    have w2 : yH (H2, (H.2.1, H.2.2.1 + 1, H.2.2.2 + 6)) := w2
    have l2 : zLg 90 H2 := zB_lg zMs_ok 90 300 _ _ _ _ B2 w1 hs2 n90 hlg
    obtain ⟨-, -, -, -, fs2, f2⟩ := jIV_1 hI2
    refine yc_S (d := 292) (r := (some (.int 1), (H.1, (H.2.1, H.2.2.1 + 1, H.2.2.2 + 6)))) (avs := [.ref (tr 1), .int (xs (i + 1)), .ref (tr 90)]) (rest := []) (k := 3) (H := H) X ⟨Nat.le_of_ble_eq_true rfl, Nat.le_of_ble_eq_true rfl⟩ dL_law_1349 (h_row_t l hst (d := 290) (by decide) hw n90 f1 hP cA dC dI s.heap.size tr rfl rfl) x_hrow.1 x_hrow.2.1 x_hrow.2.2.1 x_hrow.2.2.2 ⟨by decide, by decide⟩ (by decide +kernel) rfl (by decide) hPX g1 g2 hl.1 (Nat.le_of_ble_eq_true rfl) ⟨rc, rs⟩ (fun tr1 Hh1 locs1 t1 r1 => ?_)
    show W p l e room_1 s m #[Value.ref b] below meth c Hh1 locs1 (H.2.2.1 + 1) (H.2.2.2 + 6) Q (F0 m 1352 ls [.int 1])
    have hl1 : lv_has ls 8 (lV tr1 b i) := by rw [lV_same t1 n91]; exact hl
    refine lv_istore (lv' := (5, .int 1) :: lV tr1 b i) X.1 X.2.1 dL_law_1352 hl1 (by decide) rfl (fun ls hl2 => ?_)
    have hl3 : lv_has ls 8 (lV tr1 b i) := lv_sub hl2 [1, 2, 3, 4, 5] rfl
    refine lv_aload_n X.1 X.2.1 dL_law_1354 rfl (lv_at hl3 2 rfl) ?_
    refine la_arg (k := 1) C r1.2.2 hl3 (by omega) ⟨dL_law_1355, dL_law_1356, ⟨1, by decide, dL_law_1358⟩, dL_law_1359, dL_law_1360⟩ ?_
    refine yc_V (d := 300) (y := 291) (M := MX11_row) (as := [.int (xs (i + 1))]) (avs := [.int (xs (i + 1))]) (rest := []) (ci := 11) (k := 1) (b := 54) (bv := tr1 54) (tr := tr1) (H := (H.1, (H.2.1, H.2.2.1 + 1, H.2.2.2 + 6))) (r := (some (.long 0), (H2, (H.2.1, H.2.2.1 + 1, H.2.2.2 + 6)))) rfl rfl X room_f dL_law_1361 rfl x_mrow.1 x_mrow.2.1 x_mrow.2.2 (by decide +kernel) rfl (by decide) (by decide) (Nat.lt_of_lt_of_le (by decide) n91) f54 B2 w1 (hs _) (t1.st g1) r1 hl3.1 (Nat.le_of_ble_eq_true rfl) ⟨by show H.2.2.1 + 1 + (H.2.2.1 + 1 - (H.2.2.1 + 1)) ≤ _; rw [Nat.sub_self]; exact rc, by show H.2.2.2 + 6 + (H.2.2.2 + 6 - (H.2.2.2 + 6)) ≤ _; rw [Nat.sub_self]; exact rs⟩ (fun tr2 Hh2 locs2 t2 r2 => ?_)
    show W p l e room_1 s m #[Value.ref b] below meth c Hh2 locs2 (H.2.2.1 + 1 + (H.2.2.1 + 1 - (H.2.2.1 + 1))) (H.2.2.2 + 6 + (H.2.2.2 + 6 - (H.2.2.2 + 6))) Q (F0 m 1364 ls [.long 0])
    rw [Nat.sub_self, Nat.sub_self]
    have hl4 : lv_has ls 8 ((5, .int 1) :: lV tr2 b i) := by rw [lV_same t2 n91]; exact hl2
    refine lv_lstore (lv' := (6, .long 0) :: (5, .int 1) :: lV tr2 b i) X.1 X.2.1 dL_law_1364 hl4 (by decide) rfl (fun ls hl5 => ?_)
    refine lv_aload_n X.1 X.2.1 dL_law_1366 rfl (lv_at hl5 4 rfl) ?_
    refine yc_V (d := 300) (y := 180) (M := MX11_thrown) (as := []) (avs := []) (rest := []) (ci := 11) (k := 0) (b := 54) (bv := tr2 54) (tr := tr2) (H := (H2, (H.2.1, H.2.2.1 + 1, H.2.2.2 + 6))) (r := (some (.int 1), (H2, (H.2.1, H.2.2.1 + 1, H.2.2.2 + 6)))) rfl rfl X room_f dL_law_1367 rfl x_mthrown.1 x_mthrown.2.1 x_mthrown.2.2 (by decide +kernel) rfl (by decide) (by decide) (Nat.lt_of_lt_of_le (by decide) n91) f2 B3 w2 (fun v h => absurd h List.not_mem_nil) (t2.st (t1.st g1)) r2 hl5.1 (Nat.le_of_ble_eq_true rfl) ⟨by show H.2.2.1 + 1 + (H.2.2.1 + 1 - (H.2.2.1 + 1)) ≤ _; rw [Nat.sub_self]; exact rc, by show H.2.2.2 + 6 + (H.2.2.2 + 6 - (H.2.2.2 + 6)) ≤ _; rw [Nat.sub_self]; exact rs⟩ (fun tr3 Hh3 locs3 t3 r3 => ?_)
    show W p l e room_1 s m #[Value.ref b] below meth c Hh3 locs3 (H.2.2.1 + 1 + (H.2.2.1 + 1 - (H.2.2.1 + 1))) (H.2.2.2 + 6 + (H.2.2.2 + 6 - (H.2.2.2 + 6))) Q (F0 m 1370 ls [.int 1])
    rw [Nat.sub_self, Nat.sub_self]
    have hl6 : lv_has ls 8 ((6, .long 0) :: (5, .int 1) :: lV tr3 b i) := by rw [lV_same t3 n91]; exact hl5
    refine lv_iload X.1 X.2.1 dL_law_1370 (lv_at hl6 1 rfl) ?_
    refine lv_icmp_eq (tgt := 1377) X.1 X.2.1 dL_law_1372 (by decide) (fun _ => ?_) (fun q => absurd rfl q)
    refine lv_iload X.1 X.2.1 dL_law_1377 (lv_at hl6 1 rfl) ?_
    refine lv_if_ne (tgt := 1393) X.1 X.2.1 dL_law_1379 (by decide) (fun _ => ?_) (fun q => absurd q (by decide))
    refine lv_goto (tgt := 1396) X.1 X.2.1 dL_law_1393 (by decide) ?_
    exact kk (H2, (H.2.1, H.2.2.1 + 1, H.2.2.2 + 6)) tr3 Hh3 locs3 ls ⟨t3.st (t2.st (t1.st g1)), r3, hI2, w2, l2, lv_sub hl6 [2, 3, 4, 5, 6] rfl⟩
end LAW2
