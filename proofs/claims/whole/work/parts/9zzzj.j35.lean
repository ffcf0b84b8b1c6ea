/-! the law's frame: what holds in it between two calls -/
theorem zrun_ret {C : zC} {M : zM} : ∀ n pc S r, zrun C M n pc S r → ∃ q ∈ M.2.2.2.2.2, ∃ st w, zret M.2.2.2.2.1 q.2.1 st = some (w, r.1) := by
  intro n
  induction n with
  | zero => intro pc S r h; exact absurd h id
  | succ n ih =>
    intro pc S r h
    unfold zrun at h
    split at h
    · exact absurd h id
    · rename_i I nx x hl
      unfold zone at h
      split at h
      · exact ih _ _ _ h.2
      · split at h
        · exact ih _ _ _ h
        · split at h
          · rename_i q hq
            obtain ⟨-, rfl⟩ := h
            exact ⟨_, z_lookup_mem hl, S.2.1, q.1, hq⟩
          · split at h
            · obtain ⟨-, v, -, hk⟩ := h
              exact ih _ _ _ hk
            · exact absurd h id
theorem zB_int {d y : Nat} {M : zM} {as : List Value} {H : zH} {r : zR} {ty : FieldType} (hM : zMs[y]? = some M) (hr : M.2.2.2.2.1 = some ty) (ht : ty ≠ .long) (hB : zB zMs d y as H r) : ∃ v, r.1 = some (.int v) := by
  cases d with
  | zero => exact absurd hB id
  | succ d =>
    obtain ⟨M', h1, -, n, h2⟩ := hB
    have e : M' = M := Option.some.inj (h1.symm.trans hM)
    subst e
    obtain ⟨q, -, st, w, hq⟩ := zrun_ret n 0 _ r h2
    rcases zret_inv hq with ⟨-, v, ty', -, -, e⟩ | ⟨-, v, -, e1, e⟩ | ⟨-, -, e1, e⟩
    · exact ⟨v, congrArg Prod.snd e⟩
    · rw [hr] at e1; exact absurd (Option.some.inj e1) ht
    · rw [hr] at e1; cases e1
theorem zB_long {d y : Nat} {M : zM} {as : List Value} {H : zH} {r : zR} (hM : zMs[y]? = some M) (hr : M.2.2.2.2.1 = some .long) (hno : M.2.2.2.2.2.all (fun q => decide (q.2.1 ≠ .ireturn)) = true) (hB : zB zMs d y as H r) : ∃ v, r.1 = some (.long v) := by
  cases d with
  | zero => exact absurd hB id
  | succ d =>
    obtain ⟨M', h1, -, n, h2⟩ := hB
    have e : M' = M := Option.some.inj (h1.symm.trans hM)
    subst e
    obtain ⟨q, hmem, st, w, hq⟩ := zrun_ret n 0 _ r h2
    have h3 := of_decide_eq_true (List.all_eq_true.mp hno q hmem)
    rcases zret_inv hq with ⟨e1, -⟩ | ⟨-, v, -, e1, e⟩ | ⟨-, -, e1, e⟩
    · exact absurd e1 h3
    · exact ⟨v, congrArg Prod.snd e⟩
    · rw [hr] at e1; cases e1
theorem jIV_1 {c : Nat} {H : Nat → zE} {u : zU} (hI : jIV c H u) : 91 ≤ u.1 ∧ u.2.1 ≤ 91 + 9 * c ∧ u.2.2 ≤ 100000 + 40000 * c ∧ (∃ fs, H 1 = .inr (10, fs)) ∧ ∃ fs, H 54 = .inr (11, fs) := by
  refine jIV_e hI (fun h te tO dr pa ro fi od cs ci ga r1 r2 sw th to row gu ch now tape tp pt tt ne rd rM code rc cL cR stk ask un und aS aO aW aH ac thr ins gon nO mO rO wy ah late soon yet cir bed stp oO oW win wc rn wer iK kC kep eH hA => ?_)
  subst eH
  obtain ⟨hX, hT, hP, hR, hS, hV, hO, hC, hU, hM, hN⟩ := hA
  obtain ⟨h1, h2, h3, h4, h5, h6, h7⟩ := hN
  obtain ⟨-, n1, n2⟩ := h1
  refine ⟨h2, h6, h7, ⟨[.ref 2, .ref 4, .ref 8, .ref 12, .ref 16, .ref 18, .ref 22, .ref 34, .ref 41, .ref 44, .ref (if sw then 50 else 46), .ref (if sw then 46 else 50)], rfl⟩, [.int th, .int to, .ref 55, .int gu, .int ch, .ref 56, .ref 57, .int tp, .int pt, .int tt, .int ne, .ref 58, .int rM, .ref 59, .ref 60, .int cL, .int cR, .ref 61, .ref 62, .int un, .ref 63, .ref 64, .ref 65, .ref 66, .ref 67, .int ac, .ref 68, .ref 69, .ref 70, .ref 71, .ref 72, .ref 73, .ref 74, .ref 75, .ref 76, .ref 77, .ref 78, .ref 79, .ref 80, .ref 81, .ref 82, .ref 83, .ref 84, .ref 85, .int rn, .ref 86, .ref 87, .ref 88, .ref 89], ?_⟩
  rw [W_hi (by decide) (by omega) (by omega)]
  rfl
def lC (p : Program) (s : State) (m : MethodId) (c : Code) (cA dC : Nat → ClassId) (dI : Nat → Nat → Nat) (tr0 : Nat → Nat) (b L : Nat) (xs : Nat → Int32) : Prop := zCx p s m #[Value.ref b] c room_1 cA dC dI s.heap.size tr0 12 code 8 ∧ zPX s.heap.size s ∧ L ≤ 320 ∧ va_X b L xs s s.heap ∧ b < s.heap.size
def lV (tr : Nat → Nat) (b i : Nat) : List (Nat × Value) := [(0, .ref b), (1, .ref (tr 1)), (2, .ref (tr 54)), (3, .ref (tr 90)), (4, .int (nI i))]
def lR (s : State) (cA dC : Nat → ClassId) (dI : Nat → Nat → Nat) (tr0 : Nat → Nat) (k b i : Nat) (H : zH) (tr : Nat → Nat) (Hh : Heap) (locs : List Loc) (ls : Array Slot) : Prop := (∀ k, 1000 ≤ k → tr k = tr0 k) ∧ yRl cA dC dI s.heap.size s tr H Hh locs ∧ jIV k H.1 H.2 ∧ yH H ∧ zLg 90 H.1 ∧ lv_has ls 8 (lV tr b i)
theorem yKp.st {n : Nat} {tr tr' tr0 : Nat → Nat} (h : yKp n tr tr') (g : ∀ k, 1000 ≤ k → tr k = tr0 k) : ∀ k, 1000 ≤ k → tr' k = tr0 k := fun k hk => (h k (Or.inr hk)).trans (g k hk)
theorem lV_same {n : Nat} {tr tr' : Nat → Nat} {b i : Nat} (h : yKp n tr tr') (hn : 91 ≤ n) : lV tr' b i = lV tr b i := by
  unfold lV
  rw [h 1 (Or.inl ⟨by decide, by omega⟩), h 54 (Or.inl ⟨by decide, by omega⟩), h 90 (Or.inl ⟨by decide, by omega⟩)]
theorem room_f : (303 : Nat) ≤ room_1.frames ∧ 60400 ≤ room_1.locals := ⟨Nat.le_of_ble_eq_true rfl, Nat.le_of_ble_eq_true rfl⟩
/-- one argument is read: script[i + k] -/
def la_d (pc k : Nat) : Prop := decode code pc = .ok (.aload_n 0, 1) ∧ decode code (pc + 1) = .ok (.iload 4, 2) ∧ (∃ n : Int, Int32.ofInt n = nI k ∧ decode code (pc + 3) = .ok (.iconst n, 1)) ∧ decode code (pc + 4) = .ok (.iadd, 1) ∧ decode code (pc + 5) = .ok (.iaload, 1)
section LAW1
variable {p : Program} {l : Launch} {e : Env} {s : State} {m : MethodId} {below : List Frame} {meth : Method} {c : Code} {cA dC : Nat → ClassId} {dI : Nat → Nat → Nat} {tr0 tr : Nat → Nat} {b L : Nat} {xs : Nat → Int32} {Q : State → Prop} {pc k i : Nat} {H : zH} {Hh : Heap} {locs : List Loc} {cells slots : Nat} {ls : Array Slot} {lv : List (Nat × Value)} {st : List Value}
theorem la_arg (C : lC p s m c cA dC dI tr0 b L xs) (hS : va_S (fun q => s.heap.size ≤ q) s.heap Hh locs) (hl : lv_has ls 8 (lV tr b i)) (hi : i + k < L) (D : la_d pc k) (kk : W p l e room_1 s m #[Value.ref b] below meth c Hh locs cells slots Q (F0 m (pc + 6) ls (.int (xs (i + k)) :: st))) : W p l e room_1 s m #[Value.ref b] below meth c Hh locs cells slots Q (F0 m pc ls st) := by
  obtain ⟨X, -, hL, hX, hb⟩ := C
  obtain ⟨d0, d1, ⟨n, hn, d3⟩, d4, d5⟩ := D
  have hbA : ¬ (fun q : Nat => s.heap.size ≤ q) b := Nat.not_le.mpr hb
  refine lv_aload_n X.1 X.2.1 d0 rfl (lv_at hl 0 rfl) ?_
  refine lv_iload X.1 X.2.1 d1 (lv_at hl 4 rfl) ?_
  refine lv_iconst (v := nI k) X.1 X.2.1 d3 hn ?_
  refine lv_iadd X.1 X.2.1 d4 ?_
  rw [show nI i + nI k = nI (i + k) from nI_add _ _]
  refine va_sld X.1 X.2.1 hX hb hbA hS (vp_in_nI hi (by omega)) d5 ?_
  rw [show (nI (i + k)).toNatClampNeg = i + k from cl_nI (by omega)]
  exact kk
theorem zB_kc {d y : Nat} {as : List Value} {H : zH} {r : zR} (hB : zB zMs d y as H r) (hw : yH H) (ha : ∀ v ∈ as, yok H.2.1 v) : H.2.2.1 ≤ r.2.2.2.1 ∧ H.2.2.2 ≤ r.2.2.2.2 := by
  obtain ⟨c1, -⟩ := zB_sh zMs_ok d y as H r hB hw ha
  obtain ⟨-, -, h3, h4, -⟩ := zB_grow zMs_ok d _ _ _ _ c1 (sh_wH hw) (fun v hv => by
    obtain ⟨w, h1, rfl⟩ := List.mem_map.mp hv
    exact sh_ok hw.2.1 (ha w h1))
  exact ⟨h3, h4⟩
theorem yH_up {H : zH} {a : Nat} {e : zE} (hw : yH H) (he : yokE H.2.1 e) : yH (z_up H.1 a e, H.2) := by
  refine ⟨hw.1, hw.2.1, fun k h0 hk => ?_⟩
  show yokE H.2.1 (z_up H.1 a e k)
  by_cases q : k = a
  · subst q; rw [z_up_s]; exact he
  · rw [z_up_n _ _ q]; exact hw.2.2 k h0 hk
theorem lg_self (w : Int64) : lg_cmp w w = 0 := by simp [lg_cmp]
set_option maxHeartbeats 4000000 in
theorem la_i0 {y y' i1 i2 : Nat} {M M' : zM} {off : Int} (C : lC p s m c cA dC dI tr0 b L xs) (hR : lR s cA dC dI tr0 k b i H tr Hh locs ls) (hk : k < 64) (hi : i + 5 ≤ L) (hst : jSt k y y' [] H.1 H.2) (m1 : zMs[y]? = some M) (m2 : zMs[y']? = some M') (k1 : Cond.methodLink (zCn 12) i1 M.1 ∈ zT ∧ Cond.instanceMethod M.1 ∈ zT ∧ Cond.selects (zCls 10) M.1 M.1 ∈ zT ∧ zPn M.1 = some 0) (k2 : Cond.methodLink (zCn 12) i2 M'.1 ∈ zT ∧ Cond.instanceMethod M'.1 ∈ zT ∧ Cond.selects (zCls 11) M'.1 M'.1 ∈ zT ∧ zPn M'.1 = some 0) (ht : (∃ ty, M.2.2.2.2.1 = some ty ∧ ty ≠ .long)) (d0 : decode code pc = .ok (.aload_n 1, 1)) (d1 : decode code (pc + 1) = .ok (.invokevirtual i1, 3)) (d2 : decode code (pc + 4) = .ok (.aload_n 2, 1)) (d3 : decode code (pc + 5) = .ok (.invokevirtual i2, 3)) (d4 : decode code (pc + 8) = .ok (.if_icmp .eq off, 3)) (hoff : ((pc + 8 : Nat) : Int) + off = ((1396 : Nat) : Int))
    (kk : ∀ (H' : zH) (tr' : Nat → Nat) (Hh' : Heap) (locs' : List Loc), lR s cA dC dI tr0 (k + 1) b i H' tr' Hh' locs' ls → W p l e room_1 s m #[Value.ref b] below meth c Hh' locs' H'.2.2.1 H'.2.2.2 Q (F0 m 1396 ls [])) : W p l e room_1 s m #[Value.ref b] below meth c Hh locs H.2.2.1 H.2.2.2 Q (F0 m pc ls []) := by
  have C' := C
  obtain ⟨X, hPX, hL, hX, hb⟩ := C'
  obtain ⟨g1, g2, hI, hw, hlg, hl⟩ := hR
  obtain ⟨n91, nc, ns, ⟨fs1, f1⟩, fs54, f54⟩ := jIV_1 hI
  obtain ⟨v, H1, H2, u', e1, e2, hI2⟩ := hst
  have B1 := y_eq e1
  have B2 := y_eq e2
  obtain ⟨n91', nc', ns', -, -⟩ := jIV_1 hI2
  have hs : ∀ (n : Nat), ∀ w ∈ ([] : List Value), yok n w := fun n w hw9 => by
    exact absurd hw9 List.not_mem_nil
  have hs1 : ∀ w ∈ (Value.ref 1 :: [] : List Value), yok H.2.1 w := fun w hw9 => by
    rcases List.mem_cons.mp hw9 with rfl | hw9
    · exact Or.inl ⟨by decide, Nat.lt_of_lt_of_le (by decide) n91⟩
    · exact hs _ w hw9
  obtain ⟨-, w1, w1n, -⟩ := zB_sh zMs_ok 300 _ _ _ _ B1 hw hs1
  have l1 := zB_lg zMs_ok 90 300 _ _ _ _ B1 hw hs1 (Nat.lt_of_lt_of_le (by decide) n91) hlg
  obtain ⟨fs', o1⟩ := zB_ob zMs_ok 11 54 300 _ _ _ _ B1 hw hs1 (Nat.lt_of_lt_of_le (by decide) n91) ⟨fs54, f54⟩
  obtain ⟨kc1, ks1⟩ := zB_kc B1 hw hs1
  have w1 : yH (H1, u') := w1
  have w1n : H.2.1 ≤ u'.1 := w1n
  have l1 : zLg 90 H1 := l1
  have o1 : H1 54 = .inr (11, fs') := o1
  have kc1 : H.2.2.1 ≤ u'.2.1 := kc1
  have ks1 : H.2.2.2 ≤ u'.2.2 := ks1
  have u91 : 91 ≤ u'.1 := Nat.le_trans n91 w1n
  have hs2 : ∀ w ∈ (Value.ref 54 :: [] : List Value), yok u'.1 w := fun w hw9 => by
    rcases List.mem_cons.mp hw9 with rfl | hw9
    · exact Or.inl ⟨by decide, Nat.lt_of_lt_of_le (by decide) u91⟩
    · exact hs _ w hw9
  obtain ⟨-, w2, -, -⟩ := zB_sh zMs_ok 300 _ _ _ _ B2 w1 hs2
  have l2 := zB_lg zMs_ok 90 300 _ _ _ _ B2 w1 hs2 (Nat.lt_of_lt_of_le (by decide) u91) l1
  have w2 : yH (H2, u') := w2
  have l2 : zLg 90 H2 := l2
  obtain ⟨ty, t1, t2⟩ := ht
  obtain ⟨w, hv⟩ := zB_int m1 t1 t2 B1
  have hv : v = .int w := Option.some.inj hv
  subst hv
  have ec : H.2.2.1 + (u'.2.1 - H.2.2.1) = u'.2.1 := by omega
  have es : H.2.2.2 + (u'.2.2 - H.2.2.2) = u'.2.2 := by omega
  have rc : u'.2.1 ≤ room_1.cells := Nat.le_trans nc' (by show 91 + 9 * (k + 1) ≤ 600128; omega)
  have rs : u'.2.2 ≤ room_1.slots := Nat.le_trans ns' (by show 100000 + 40000 * (k + 1) ≤ 7301098; omega)
  refine lv_aload_n X.1 X.2.1 d0 rfl (lv_at hl 1 rfl) ?_
  refine yc_V (d := 300) (y := y) (M := M) (as := []) (avs := []) (rest := []) (ci := 10) (k := 0) (b := 1) (bv := tr 1) (tr := tr) (H := H) (r := (some (.int w), (H1, u'))) rfl rfl X room_f d1 m1 k1.1 k1.2.1 k1.2.2.1 k1.2.2.2 rfl (by decide) (by decide) (Nat.lt_of_lt_of_le (by decide) n91) f1 B1 hw (hs _) g1 g2 hl.1 (Nat.le_of_ble_eq_true rfl) ⟨by show H.2.2.1 + (u'.2.1 - H.2.2.1) ≤ _; rw [ec]; exact rc, by show H.2.2.2 + (u'.2.2 - H.2.2.2) ≤ _; rw [es]; exact rs⟩ (fun tr1 Hh1 locs1 t1 r1 => ?_)
  show W p l e room_1 s m #[Value.ref b] below meth c Hh1 locs1 (H.2.2.1 + (u'.2.1 - H.2.2.1)) (H.2.2.2 + (u'.2.2 - H.2.2.2)) Q (F0 m (pc + 4) ls [.int w])
  rw [ec, es]
  have hl1 : lv_has ls 8 (lV tr1 b i) := by rw [lV_same t1 n91]; exact hl
  refine lv_aload_n X.1 X.2.1 d2 rfl (lv_at hl1 2 rfl) ?_
  refine yc_V (d := 300) (y := y') (M := M') (as := []) (avs := []) (rest := [.int w]) (ci := 11) (k := 0) (b := 54) (bv := tr1 54) (tr := tr1) (H := (H1, u')) (r := (some (.int w), (H2, u'))) rfl rfl X room_f d3 m2 k2.1 k2.2.1 k2.2.2.1 k2.2.2.2 rfl (by decide) (by decide) (Nat.lt_of_lt_of_le (by decide) u91) o1 B2 w1 (hs _) (t1.st g1) r1 hl1.1 (Nat.le_of_ble_eq_true rfl) ⟨by show u'.2.1 + (u'.2.1 - u'.2.1) ≤ _; rw [Nat.sub_self]; exact rc, by show u'.2.2 + (u'.2.2 - u'.2.2) ≤ _; rw [Nat.sub_self]; exact rs⟩ (fun tr2 Hh2 locs2 t2 r2 => ?_)
  show W p l e room_1 s m #[Value.ref b] below meth c Hh2 locs2 (u'.2.1 + (u'.2.1 - u'.2.1)) (u'.2.2 + (u'.2.2 - u'.2.2)) Q (F0 m (pc + 8) ls [.int w, .int w])
  rw [Nat.sub_self, Nat.sub_self]
  have hl2 : lv_has ls 8 (lV tr2 b i) := by rw [lV_same t2 u91]; exact hl1
  refine lv_icmp_eq (tgt := 1396) X.1 X.2.1 d4 hoff (fun _ => ?_) (fun q => absurd rfl q)
  exact kk (H2, u') tr2 Hh2 locs2 ⟨t2.st (t1.st g1), r2, hI2, w2, l2, hl2⟩
set_option maxHeartbeats 4000000 in
theorem la_i1 {y y' i1 i2 : Nat} {M M' : zM} {off : Int} (C : lC p s m c cA dC dI tr0 b L xs) (hR : lR s cA dC dI tr0 k b i H tr Hh locs ls) (hk : k < 64) (hi : i + 5 ≤ L) (hst : jSt k y y' [.int (xs (i + 1))] H.1 H.2) (m1 : zMs[y]? = some M) (m2 : zMs[y']? = some M') (k1 : Cond.methodLink (zCn 12) i1 M.1 ∈ zT ∧ Cond.instanceMethod M.1 ∈ zT ∧ Cond.selects (zCls 10) M.1 M.1 ∈ zT ∧ zPn M.1 = some 1) (k2 : Cond.methodLink (zCn 12) i2 M'.1 ∈ zT ∧ Cond.instanceMethod M'.1 ∈ zT ∧ Cond.selects (zCls 11) M'.1 M'.1 ∈ zT ∧ zPn M'.1 = some 1) (ht : (∃ ty, M.2.2.2.2.1 = some ty ∧ ty ≠ .long)) (d0 : decode code pc = .ok (.aload_n 1, 1)) (d1 : decode code (pc + 7) = .ok (.invokevirtual i1, 3)) (d2 : decode code (pc + 10) = .ok (.aload_n 2, 1)) (d3 : decode code (pc + 17) = .ok (.invokevirtual i2, 3)) (d4 : decode code (pc + 20) = .ok (.if_icmp .eq off, 3)) (hoff : ((pc + 20 : Nat) : Int) + off = ((1396 : Nat) : Int)) (a1 : la_d (pc + 1) 1) (b1 : la_d (pc + 11) 1)
    (kk : ∀ (H' : zH) (tr' : Nat → Nat) (Hh' : Heap) (locs' : List Loc), lR s cA dC dI tr0 (k + 1) b i H' tr' Hh' locs' ls → W p l e room_1 s m #[Value.ref b] below meth c Hh' locs' H'.2.2.1 H'.2.2.2 Q (F0 m 1396 ls [])) : W p l e room_1 s m #[Value.ref b] below meth c Hh locs H.2.2.1 H.2.2.2 Q (F0 m pc ls []) := by
  have C' := C
  obtain ⟨X, hPX, hL, hX, hb⟩ := C'
  obtain ⟨g1, g2, hI, hw, hlg, hl⟩ := hR
  obtain ⟨n91, nc, ns, ⟨fs1, f1⟩, fs54, f54⟩ := jIV_1 hI
  obtain ⟨v, H1, H2, u', e1, e2, hI2⟩ := hst
  have B1 := y_eq e1
  have B2 := y_eq e2
  obtain ⟨n91', nc', ns', -, -⟩ := jIV_1 hI2
  have hs : ∀ (n : Nat), ∀ w ∈ ([.int (xs (i + 1))] : List Value), yok n w := fun n w hw9 => by
    simp only [List.mem_cons, List.not_mem_nil, or_false] at hw9; subst hw9; trivial
  have hs1 : ∀ w ∈ (Value.ref 1 :: [.int (xs (i + 1))] : List Value), yok H.2.1 w := fun w hw9 => by
    rcases List.mem_cons.mp hw9 with rfl | hw9
    · exact Or.inl ⟨by decide, Nat.lt_of_lt_of_le (by decide) n91⟩
    · exact hs _ w hw9
  obtain ⟨-, w1, w1n, -⟩ := zB_sh zMs_ok 300 _ _ _ _ B1 hw hs1
  have l1 := zB_lg zMs_ok 90 300 _ _ _ _ B1 hw hs1 (Nat.lt_of_lt_of_le (by decide) n91) hlg
  obtain ⟨fs', o1⟩ := zB_ob zMs_ok 11 54 300 _ _ _ _ B1 hw hs1 (Nat.lt_of_lt_of_le (by decide) n91) ⟨fs54, f54⟩
  obtain ⟨kc1, ks1⟩ := zB_kc B1 hw hs1
  have w1 : yH (H1, u') := w1
  have w1n : H.2.1 ≤ u'.1 := w1n
  have l1 : zLg 90 H1 := l1
  have o1 : H1 54 = .inr (11, fs') := o1
  have kc1 : H.2.2.1 ≤ u'.2.1 := kc1
  have ks1 : H.2.2.2 ≤ u'.2.2 := ks1
  have u91 : 91 ≤ u'.1 := Nat.le_trans n91 w1n
  have hs2 : ∀ w ∈ (Value.ref 54 :: [.int (xs (i + 1))] : List Value), yok u'.1 w := fun w hw9 => by
    rcases List.mem_cons.mp hw9 with rfl | hw9
    · exact Or.inl ⟨by decide, Nat.lt_of_lt_of_le (by decide) u91⟩
    · exact hs _ w hw9
  obtain ⟨-, w2, -, -⟩ := zB_sh zMs_ok 300 _ _ _ _ B2 w1 hs2
  have l2 := zB_lg zMs_ok 90 300 _ _ _ _ B2 w1 hs2 (Nat.lt_of_lt_of_le (by decide) u91) l1
  have w2 : yH (H2, u') := w2
  have l2 : zLg 90 H2 := l2
  obtain ⟨ty, t1, t2⟩ := ht
  obtain ⟨w, hv⟩ := zB_int m1 t1 t2 B1
  have hv : v = .int w := Option.some.inj hv
  subst hv
  have ec : H.2.2.1 + (u'.2.1 - H.2.2.1) = u'.2.1 := by omega
  have es : H.2.2.2 + (u'.2.2 - H.2.2.2) = u'.2.2 := by omega
  have rc : u'.2.1 ≤ room_1.cells := Nat.le_trans nc' (by show 91 + 9 * (k + 1) ≤ 600128; omega)
  have rs : u'.2.2 ≤ room_1.slots := Nat.le_trans ns' (by show 100000 + 40000 * (k + 1) ≤ 7301098; omega)
  refine lv_aload_n X.1 X.2.1 d0 rfl (lv_at hl 1 rfl) ?_
  refine la_arg C g2.2.2 hl (by omega) a1 ?_
  refine yc_V (d := 300) (y := y) (M := M) (as := [.int (xs (i + 1))]) (avs := [.int (xs (i + 1))]) (rest := []) (ci := 10) (k := 1) (b := 1) (bv := tr 1) (tr := tr) (H := H) (r := (some (.int w), (H1, u'))) rfl rfl X room_f d1 m1 k1.1 k1.2.1 k1.2.2.1 k1.2.2.2 rfl (by decide) (by decide) (Nat.lt_of_lt_of_le (by decide) n91) f1 B1 hw (hs _) g1 g2 hl.1 (Nat.le_of_ble_eq_true rfl) ⟨by show H.2.2.1 + (u'.2.1 - H.2.2.1) ≤ _; rw [ec]; exact rc, by show H.2.2.2 + (u'.2.2 - H.2.2.2) ≤ _; rw [es]; exact rs⟩ (fun tr1 Hh1 locs1 t1 r1 => ?_)
  show W p l e room_1 s m #[Value.ref b] below meth c Hh1 locs1 (H.2.2.1 + (u'.2.1 - H.2.2.1)) (H.2.2.2 + (u'.2.2 - H.2.2.2)) Q (F0 m (pc + 10) ls [.int w])
  rw [ec, es]
  have hl1 : lv_has ls 8 (lV tr1 b i) := by rw [lV_same t1 n91]; exact hl
  refine lv_aload_n X.1 X.2.1 d2 rfl (lv_at hl1 2 rfl) ?_
  refine la_arg C r1.2.2 hl1 (by omega) b1 ?_
  refine yc_V (d := 300) (y := y') (M := M') (as := [.int (xs (i + 1))]) (avs := [.int (xs (i + 1))]) (rest := [.int w]) (ci := 11) (k := 1) (b := 54) (bv := tr1 54) (tr := tr1) (H := (H1, u')) (r := (some (.int w), (H2, u'))) rfl rfl X room_f d3 m2 k2.1 k2.2.1 k2.2.2.1 k2.2.2.2 rfl (by decide) (by decide) (Nat.lt_of_lt_of_le (by decide) u91) o1 B2 w1 (hs _) (t1.st g1) r1 hl1.1 (Nat.le_of_ble_eq_true rfl) ⟨by show u'.2.1 + (u'.2.1 - u'.2.1) ≤ _; rw [Nat.sub_self]; exact rc, by show u'.2.2 + (u'.2.2 - u'.2.2) ≤ _; rw [Nat.sub_self]; exact rs⟩ (fun tr2 Hh2 locs2 t2 r2 => ?_)
  show W p l e room_1 s m #[Value.ref b] below meth c Hh2 locs2 (u'.2.1 + (u'.2.1 - u'.2.1)) (u'.2.2 + (u'.2.2 - u'.2.2)) Q (F0 m (pc + 20) ls [.int w, .int w])
  rw [Nat.sub_self, Nat.sub_self]
  have hl2 : lv_has ls 8 (lV tr2 b i) := by rw [lV_same t2 u91]; exact hl1
  refine lv_icmp_eq (tgt := 1396) X.1 X.2.1 d4 hoff (fun _ => ?_) (fun q => absurd rfl q)
  exact kk (H2, u') tr2 Hh2 locs2 ⟨t2.st (t1.st g1), r2, hI2, w2, l2, hl2⟩
set_option maxHeartbeats 4000000 in
theorem la_i2 {y y' i1 i2 : Nat} {M M' : zM} {off : Int} (C : lC p s m c cA dC dI tr0 b L xs) (hR : lR s cA dC dI tr0 k b i H tr Hh locs ls) (hk : k < 64) (hi : i + 5 ≤ L) (hst : jSt k y y' [.int (xs (i + 1)), .int (xs (i + 2))] H.1 H.2) (m1 : zMs[y]? = some M) (m2 : zMs[y']? = some M') (k1 : Cond.methodLink (zCn 12) i1 M.1 ∈ zT ∧ Cond.instanceMethod M.1 ∈ zT ∧ Cond.selects (zCls 10) M.1 M.1 ∈ zT ∧ zPn M.1 = some 2) (k2 : Cond.methodLink (zCn 12) i2 M'.1 ∈ zT ∧ Cond.instanceMethod M'.1 ∈ zT ∧ Cond.selects (zCls 11) M'.1 M'.1 ∈ zT ∧ zPn M'.1 = some 2) (ht : (∃ ty, M.2.2.2.2.1 = some ty ∧ ty ≠ .long)) (d0 : decode code pc = .ok (.aload_n 1, 1)) (d1 : decode code (pc + 13) = .ok (.invokevirtual i1, 3)) (d2 : decode code (pc + 16) = .ok (.aload_n 2, 1)) (d3 : decode code (pc + 29) = .ok (.invokevirtual i2, 3)) (d4 : decode code (pc + 32) = .ok (.if_icmp .eq off, 3)) (hoff : ((pc + 32 : Nat) : Int) + off = ((1396 : Nat) : Int)) (a1 : la_d (pc + 1) 1) (b1 : la_d (pc + 17) 1) (a2 : la_d (pc + 7) 2) (b2 : la_d (pc + 23) 2)
    (kk : ∀ (H' : zH) (tr' : Nat → Nat) (Hh' : Heap) (locs' : List Loc), lR s cA dC dI tr0 (k + 1) b i H' tr' Hh' locs' ls → W p l e room_1 s m #[Value.ref b] below meth c Hh' locs' H'.2.2.1 H'.2.2.2 Q (F0 m 1396 ls [])) : W p l e room_1 s m #[Value.ref b] below meth c Hh locs H.2.2.1 H.2.2.2 Q (F0 m pc ls []) := by
  have C' := C
  obtain ⟨X, hPX, hL, hX, hb⟩ := C'
  obtain ⟨g1, g2, hI, hw, hlg, hl⟩ := hR
  obtain ⟨n91, nc, ns, ⟨fs1, f1⟩, fs54, f54⟩ := jIV_1 hI
  obtain ⟨v, H1, H2, u', e1, e2, hI2⟩ := hst
  have B1 := y_eq e1
  have B2 := y_eq e2
  obtain ⟨n91', nc', ns', -, -⟩ := jIV_1 hI2
  have hs : ∀ (n : Nat), ∀ w ∈ ([.int (xs (i + 1)), .int (xs (i + 2))] : List Value), yok n w := fun n w hw9 => by
    simp only [List.mem_cons, List.not_mem_nil, or_false] at hw9; rcases hw9 with rfl | rfl <;> trivial
  have hs1 : ∀ w ∈ (Value.ref 1 :: [.int (xs (i + 1)), .int (xs (i + 2))] : List Value), yok H.2.1 w := fun w hw9 => by
    rcases List.mem_cons.mp hw9 with rfl | hw9
    · exact Or.inl ⟨by decide, Nat.lt_of_lt_of_le (by decide) n91⟩
    · exact hs _ w hw9
  obtain ⟨-, w1, w1n, -⟩ := zB_sh zMs_ok 300 _ _ _ _ B1 hw hs1
  have l1 := zB_lg zMs_ok 90 300 _ _ _ _ B1 hw hs1 (Nat.lt_of_lt_of_le (by decide) n91) hlg
  obtain ⟨fs', o1⟩ := zB_ob zMs_ok 11 54 300 _ _ _ _ B1 hw hs1 (Nat.lt_of_lt_of_le (by decide) n91) ⟨fs54, f54⟩
  obtain ⟨kc1, ks1⟩ := zB_kc B1 hw hs1
  have w1 : yH (H1, u') := w1
  have w1n : H.2.1 ≤ u'.1 := w1n
  have l1 : zLg 90 H1 := l1
  have o1 : H1 54 = .inr (11, fs') := o1
  have kc1 : H.2.2.1 ≤ u'.2.1 := kc1
  have ks1 : H.2.2.2 ≤ u'.2.2 := ks1
  have u91 : 91 ≤ u'.1 := Nat.le_trans n91 w1n
  have hs2 : ∀ w ∈ (Value.ref 54 :: [.int (xs (i + 1)), .int (xs (i + 2))] : List Value), yok u'.1 w := fun w hw9 => by
    rcases List.mem_cons.mp hw9 with rfl | hw9
    · exact Or.inl ⟨by decide, Nat.lt_of_lt_of_le (by decide) u91⟩
    · exact hs _ w hw9
  obtain ⟨-, w2, -, -⟩ := zB_sh zMs_ok 300 _ _ _ _ B2 w1 hs2
  have l2 := zB_lg zMs_ok 90 300 _ _ _ _ B2 w1 hs2 (Nat.lt_of_lt_of_le (by decide) u91) l1
  have w2 : yH (H2, u') := w2
  have l2 : zLg 90 H2 := l2
  obtain ⟨ty, t1, t2⟩ := ht
  obtain ⟨w, hv⟩ := zB_int m1 t1 t2 B1
  have hv : v = .int w := Option.some.inj hv
  subst hv
  have ec : H.2.2.1 + (u'.2.1 - H.2.2.1) = u'.2.1 := by omega
  have es : H.2.2.2 + (u'.2.2 - H.2.2.2) = u'.2.2 := by omega
  have rc : u'.2.1 ≤ room_1.cells := Nat.le_trans nc' (by show 91 + 9 * (k + 1) ≤ 600128; omega)
  have rs : u'.2.2 ≤ room_1.slots := Nat.le_trans ns' (by show 100000 + 40000 * (k + 1) ≤ 7301098; omega)
  refine lv_aload_n X.1 X.2.1 d0 rfl (lv_at hl 1 rfl) ?_
  refine la_arg C g2.2.2 hl (by omega) a1 ?_
  refine la_arg C g2.2.2 hl (by omega) a2 ?_
  refine yc_V (d := 300) (y := y) (M := M) (as := [.int (xs (i + 1)), .int (xs (i + 2))]) (avs := [.int (xs (i + 1)), .int (xs (i + 2))]) (rest := []) (ci := 10) (k := 2) (b := 1) (bv := tr 1) (tr := tr) (H := H) (r := (some (.int w), (H1, u'))) rfl rfl X room_f d1 m1 k1.1 k1.2.1 k1.2.2.1 k1.2.2.2 rfl (by decide) (by decide) (Nat.lt_of_lt_of_le (by decide) n91) f1 B1 hw (hs _) g1 g2 hl.1 (Nat.le_of_ble_eq_true rfl) ⟨by show H.2.2.1 + (u'.2.1 - H.2.2.1) ≤ _; rw [ec]; exact rc, by show H.2.2.2 + (u'.2.2 - H.2.2.2) ≤ _; rw [es]; exact rs⟩ (fun tr1 Hh1 locs1 t1 r1 => ?_)
  show W p l e room_1 s m #[Value.ref b] below meth c Hh1 locs1 (H.2.2.1 + (u'.2.1 - H.2.2.1)) (H.2.2.2 + (u'.2.2 - H.2.2.2)) Q (F0 m (pc + 16) ls [.int w])
  rw [ec, es]
  have hl1 : lv_has ls 8 (lV tr1 b i) := by rw [lV_same t1 n91]; exact hl
  refine lv_aload_n X.1 X.2.1 d2 rfl (lv_at hl1 2 rfl) ?_
  refine la_arg C r1.2.2 hl1 (by omega) b1 ?_
  refine la_arg C r1.2.2 hl1 (by omega) b2 ?_
  refine yc_V (d := 300) (y := y') (M := M') (as := [.int (xs (i + 1)), .int (xs (i + 2))]) (avs := [.int (xs (i + 1)), .int (xs (i + 2))]) (rest := [.int w]) (ci := 11) (k := 2) (b := 54) (bv := tr1 54) (tr := tr1) (H := (H1, u')) (r := (some (.int w), (H2, u'))) rfl rfl X room_f d3 m2 k2.1 k2.2.1 k2.2.2.1 k2.2.2.2 rfl (by decide) (by decide) (Nat.lt_of_lt_of_le (by decide) u91) o1 B2 w1 (hs _) (t1.st g1) r1 hl1.1 (Nat.le_of_ble_eq_true rfl) ⟨by show u'.2.1 + (u'.2.1 - u'.2.1) ≤ _; rw [Nat.sub_self]; exact rc, by show u'.2.2 + (u'.2.2 - u'.2.2) ≤ _; rw [Nat.sub_self]; exact rs⟩ (fun tr2 Hh2 locs2 t2 r2 => ?_)
  show W p l e room_1 s m #[Value.ref b] below meth c Hh2 locs2 (u'.2.1 + (u'.2.1 - u'.2.1)) (u'.2.2 + (u'.2.2 - u'.2.2)) Q (F0 m (pc + 32) ls [.int w, .int w])
  rw [Nat.sub_self, Nat.sub_self]
  have hl2 : lv_has ls 8 (lV tr2 b i) := by rw [lV_same t2 u91]; exact hl1
  refine lv_icmp_eq (tgt := 1396) X.1 X.2.1 d4 hoff (fun _ => ?_) (fun q => absurd rfl q)
  exact kk (H2, u') tr2 Hh2 locs2 ⟨t2.st (t1.st g1), r2, hI2, w2, l2, hl2⟩
set_option maxHeartbeats 4000000 in
theorem la_i3 {y y' i1 i2 : Nat} {M M' : zM} {off : Int} (C : lC p s m c cA dC dI tr0 b L xs) (hR : lR s cA dC dI tr0 k b i H tr Hh locs ls) (hk : k < 64) (hi : i + 5 ≤ L) (hst : jSt k y y' [.int (xs (i + 1)), .int (xs (i + 2)), .int (xs (i + 3))] H.1 H.2) (m1 : zMs[y]? = some M) (m2 : zMs[y']? = some M') (k1 : Cond.methodLink (zCn 12) i1 M.1 ∈ zT ∧ Cond.instanceMethod M.1 ∈ zT ∧ Cond.selects (zCls 10) M.1 M.1 ∈ zT ∧ zPn M.1 = some 3) (k2 : Cond.methodLink (zCn 12) i2 M'.1 ∈ zT ∧ Cond.instanceMethod M'.1 ∈ zT ∧ Cond.selects (zCls 11) M'.1 M'.1 ∈ zT ∧ zPn M'.1 = some 3) (ht : (∃ ty, M.2.2.2.2.1 = some ty ∧ ty ≠ .long)) (d0 : decode code pc = .ok (.aload_n 1, 1)) (d1 : decode code (pc + 19) = .ok (.invokevirtual i1, 3)) (d2 : decode code (pc + 22) = .ok (.aload_n 2, 1)) (d3 : decode code (pc + 41) = .ok (.invokevirtual i2, 3)) (d4 : decode code (pc + 44) = .ok (.if_icmp .eq off, 3)) (hoff : ((pc + 44 : Nat) : Int) + off = ((1396 : Nat) : Int)) (a1 : la_d (pc + 1) 1) (b1 : la_d (pc + 23) 1) (a2 : la_d (pc + 7) 2) (b2 : la_d (pc + 29) 2) (a3 : la_d (pc + 13) 3) (b3 : la_d (pc + 35) 3)
    (kk : ∀ (H' : zH) (tr' : Nat → Nat) (Hh' : Heap) (locs' : List Loc), lR s cA dC dI tr0 (k + 1) b i H' tr' Hh' locs' ls → W p l e room_1 s m #[Value.ref b] below meth c Hh' locs' H'.2.2.1 H'.2.2.2 Q (F0 m 1396 ls [])) : W p l e room_1 s m #[Value.ref b] below meth c Hh locs H.2.2.1 H.2.2.2 Q (F0 m pc ls []) := by
  have C' := C
  obtain ⟨X, hPX, hL, hX, hb⟩ := C'
  obtain ⟨g1, g2, hI, hw, hlg, hl⟩ := hR
  obtain ⟨n91, nc, ns, ⟨fs1, f1⟩, fs54, f54⟩ := jIV_1 hI
  obtain ⟨v, H1, H2, u', e1, e2, hI2⟩ := hst
  have B1 := y_eq e1
  have B2 := y_eq e2
  obtain ⟨n91', nc', ns', -, -⟩ := jIV_1 hI2
  have hs : ∀ (n : Nat), ∀ w ∈ ([.int (xs (i + 1)), .int (xs (i + 2)), .int (xs (i + 3))] : List Value), yok n w := fun n w hw9 => by
    simp only [List.mem_cons, List.not_mem_nil, or_false] at hw9; rcases hw9 with rfl | rfl | rfl <;> trivial
  have hs1 : ∀ w ∈ (Value.ref 1 :: [.int (xs (i + 1)), .int (xs (i + 2)), .int (xs (i + 3))] : List Value), yok H.2.1 w := fun w hw9 => by
    rcases List.mem_cons.mp hw9 with rfl | hw9
    · exact Or.inl ⟨by decide, Nat.lt_of_lt_of_le (by decide) n91⟩
    · exact hs _ w hw9
  obtain ⟨-, w1, w1n, -⟩ := zB_sh zMs_ok 300 _ _ _ _ B1 hw hs1
  have l1 := zB_lg zMs_ok 90 300 _ _ _ _ B1 hw hs1 (Nat.lt_of_lt_of_le (by decide) n91) hlg
  obtain ⟨fs', o1⟩ := zB_ob zMs_ok 11 54 300 _ _ _ _ B1 hw hs1 (Nat.lt_of_lt_of_le (by decide) n91) ⟨fs54, f54⟩
  obtain ⟨kc1, ks1⟩ := zB_kc B1 hw hs1
  have w1 : yH (H1, u') := w1
  have w1n : H.2.1 ≤ u'.1 := w1n
  have l1 : zLg 90 H1 := l1
  have o1 : H1 54 = .inr (11, fs') := o1
  have kc1 : H.2.2.1 ≤ u'.2.1 := kc1
  have ks1 : H.2.2.2 ≤ u'.2.2 := ks1
  have u91 : 91 ≤ u'.1 := Nat.le_trans n91 w1n
  have hs2 : ∀ w ∈ (Value.ref 54 :: [.int (xs (i + 1)), .int (xs (i + 2)), .int (xs (i + 3))] : List Value), yok u'.1 w := fun w hw9 => by
    rcases List.mem_cons.mp hw9 with rfl | hw9
    · exact Or.inl ⟨by decide, Nat.lt_of_lt_of_le (by decide) u91⟩
    · exact hs _ w hw9
  obtain ⟨-, w2, -, -⟩ := zB_sh zMs_ok 300 _ _ _ _ B2 w1 hs2
  have l2 := zB_lg zMs_ok 90 300 _ _ _ _ B2 w1 hs2 (Nat.lt_of_lt_of_le (by decide) u91) l1
  have w2 : yH (H2, u') := w2
  have l2 : zLg 90 H2 := l2
  obtain ⟨ty, t1, t2⟩ := ht
  obtain ⟨w, hv⟩ := zB_int m1 t1 t2 B1
  have hv : v = .int w := Option.some.inj hv
  subst hv
  have ec : H.2.2.1 + (u'.2.1 - H.2.2.1) = u'.2.1 := by omega
  have es : H.2.2.2 + (u'.2.2 - H.2.2.2) = u'.2.2 := by omega
  have rc : u'.2.1 ≤ room_1.cells := Nat.le_trans nc' (by show 91 + 9 * (k + 1) ≤ 600128; omega)
  have rs : u'.2.2 ≤ room_1.slots := Nat.le_trans ns' (by show 100000 + 40000 * (k + 1) ≤ 7301098; omega)
  refine lv_aload_n X.1 X.2.1 d0 rfl (lv_at hl 1 rfl) ?_
  refine la_arg C g2.2.2 hl (by omega) a1 ?_
  refine la_arg C g2.2.2 hl (by omega) a2 ?_
  refine la_arg C g2.2.2 hl (by omega) a3 ?_
  refine yc_V (d := 300) (y := y) (M := M) (as := [.int (xs (i + 1)), .int (xs (i + 2)), .int (xs (i + 3))]) (avs := [.int (xs (i + 1)), .int (xs (i + 2)), .int (xs (i + 3))]) (rest := []) (ci := 10) (k := 3) (b := 1) (bv := tr 1) (tr := tr) (H := H) (r := (some (.int w), (H1, u'))) rfl rfl X room_f d1 m1 k1.1 k1.2.1 k1.2.2.1 k1.2.2.2 rfl (by decide) (by decide) (Nat.lt_of_lt_of_le (by decide) n91) f1 B1 hw (hs _) g1 g2 hl.1 (Nat.le_of_ble_eq_true rfl) ⟨by show H.2.2.1 + (u'.2.1 - H.2.2.1) ≤ _; rw [ec]; exact rc, by show H.2.2.2 + (u'.2.2 - H.2.2.2) ≤ _; rw [es]; exact rs⟩ (fun tr1 Hh1 locs1 t1 r1 => ?_)
  show W p l e room_1 s m #[Value.ref b] below meth c Hh1 locs1 (H.2.2.1 + (u'.2.1 - H.2.2.1)) (H.2.2.2 + (u'.2.2 - H.2.2.2)) Q (F0 m (pc + 22) ls [.int w])
  rw [ec, es]
  have hl1 : lv_has ls 8 (lV tr1 b i) := by rw [lV_same t1 n91]; exact hl
  refine lv_aload_n X.1 X.2.1 d2 rfl (lv_at hl1 2 rfl) ?_
  refine la_arg C r1.2.2 hl1 (by omega) b1 ?_
  refine la_arg C r1.2.2 hl1 (by omega) b2 ?_
  refine la_arg C r1.2.2 hl1 (by omega) b3 ?_
  refine yc_V (d := 300) (y := y') (M := M') (as := [.int (xs (i + 1)), .int (xs (i + 2)), .int (xs (i + 3))]) (avs := [.int (xs (i + 1)), .int (xs (i + 2)), .int (xs (i + 3))]) (rest := [.int w]) (ci := 11) (k := 3) (b := 54) (bv := tr1 54) (tr := tr1) (H := (H1, u')) (r := (some (.int w), (H2, u'))) rfl rfl X room_f d3 m2 k2.1 k2.2.1 k2.2.2.1 k2.2.2.2 rfl (by decide) (by decide) (Nat.lt_of_lt_of_le (by decide) u91) o1 B2 w1 (hs _) (t1.st g1) r1 hl1.1 (Nat.le_of_ble_eq_true rfl) ⟨by show u'.2.1 + (u'.2.1 - u'.2.1) ≤ _; rw [Nat.sub_self]; exact rc, by show u'.2.2 + (u'.2.2 - u'.2.2) ≤ _; rw [Nat.sub_self]; exact rs⟩ (fun tr2 Hh2 locs2 t2 r2 => ?_)
  show W p l e room_1 s m #[Value.ref b] below meth c Hh2 locs2 (u'.2.1 + (u'.2.1 - u'.2.1)) (u'.2.2 + (u'.2.2 - u'.2.2)) Q (F0 m (pc + 44) ls [.int w, .int w])
  rw [Nat.sub_self, Nat.sub_self]
  have hl2 : lv_has ls 8 (lV tr2 b i) := by rw [lV_same t2 u91]; exact hl1
  refine lv_icmp_eq (tgt := 1396) X.1 X.2.1 d4 hoff (fun _ => ?_) (fun q => absurd rfl q)
  exact kk (H2, u') tr2 Hh2 locs2 ⟨t2.st (t1.st g1), r2, hI2, w2, l2, hl2⟩
set_option maxHeartbeats 4000000 in
theorem la_i4 {y y' i1 i2 : Nat} {M M' : zM} {off : Int} (C : lC p s m c cA dC dI tr0 b L xs) (hR : lR s cA dC dI tr0 k b i H tr Hh locs ls) (hk : k < 64) (hi : i + 5 ≤ L) (hst : jSt k y y' [.int (xs (i + 1)), .int (xs (i + 2)), .int (xs (i + 3)), .int (xs (i + 4))] H.1 H.2) (m1 : zMs[y]? = some M) (m2 : zMs[y']? = some M') (k1 : Cond.methodLink (zCn 12) i1 M.1 ∈ zT ∧ Cond.instanceMethod M.1 ∈ zT ∧ Cond.selects (zCls 10) M.1 M.1 ∈ zT ∧ zPn M.1 = some 4) (k2 : Cond.methodLink (zCn 12) i2 M'.1 ∈ zT ∧ Cond.instanceMethod M'.1 ∈ zT ∧ Cond.selects (zCls 11) M'.1 M'.1 ∈ zT ∧ zPn M'.1 = some 4) (ht : (∃ ty, M.2.2.2.2.1 = some ty ∧ ty ≠ .long)) (d0 : decode code pc = .ok (.aload_n 1, 1)) (d1 : decode code (pc + 25) = .ok (.invokevirtual i1, 3)) (d2 : decode code (pc + 28) = .ok (.aload_n 2, 1)) (d3 : decode code (pc + 53) = .ok (.invokevirtual i2, 3)) (d4 : decode code (pc + 56) = .ok (.if_icmp .eq off, 3)) (hoff : ((pc + 56 : Nat) : Int) + off = ((1396 : Nat) : Int)) (a1 : la_d (pc + 1) 1) (b1 : la_d (pc + 29) 1) (a2 : la_d (pc + 7) 2) (b2 : la_d (pc + 35) 2) (a3 : la_d (pc + 13) 3) (b3 : la_d (pc + 41) 3) (a4 : la_d (pc + 19) 4) (b4 : la_d (pc + 47) 4)
    (kk : ∀ (H' : zH) (tr' : Nat → Nat) (Hh' : Heap) (locs' : List Loc), lR s cA dC dI tr0 (k + 1) b i H' tr' Hh' locs' ls → W p l e room_1 s m #[Value.ref b] below meth c Hh' locs' H'.2.2.1 H'.2.2.2 Q (F0 m 1396 ls [])) : W p l e room_1 s m #[Value.ref b] below meth c Hh locs H.2.2.1 H.2.2.2 Q (F0 m pc ls []) := by
  have C' := C
  obtain ⟨X, hPX, hL, hX, hb⟩ := C'
  obtain ⟨g1, g2, hI, hw, hlg, hl⟩ := hR
  obtain ⟨n91, nc, ns, ⟨fs1, f1⟩, fs54, f54⟩ := jIV_1 hI
  obtain ⟨v, H1, H2, u', e1, e2, hI2⟩ := hst
  have B1 := y_eq e1
  have B2 := y_eq e2
  obtain ⟨n91', nc', ns', -, -⟩ := jIV_1 hI2
  have hs : ∀ (n : Nat), ∀ w ∈ ([.int (xs (i + 1)), .int (xs (i + 2)), .int (xs (i + 3)), .int (xs (i + 4))] : List Value), yok n w := fun n w hw9 => by
    simp only [List.mem_cons, List.not_mem_nil, or_false] at hw9; rcases hw9 with rfl | rfl | rfl | rfl <;> trivial
  have hs1 : ∀ w ∈ (Value.ref 1 :: [.int (xs (i + 1)), .int (xs (i + 2)), .int (xs (i + 3)), .int (xs (i + 4))] : List Value), yok H.2.1 w := fun w hw9 => by
    rcases List.mem_cons.mp hw9 with rfl | hw9
    · exact Or.inl ⟨by decide, Nat.lt_of_lt_of_le (by decide) n91⟩
    · exact hs _ w hw9
  obtain ⟨-, w1, w1n, -⟩ := zB_sh zMs_ok 300 _ _ _ _ B1 hw hs1
  have l1 := zB_lg zMs_ok 90 300 _ _ _ _ B1 hw hs1 (Nat.lt_of_lt_of_le (by decide) n91) hlg
  obtain ⟨fs', o1⟩ := zB_ob zMs_ok 11 54 300 _ _ _ _ B1 hw hs1 (Nat.lt_of_lt_of_le (by decide) n91) ⟨fs54, f54⟩
  obtain ⟨kc1, ks1⟩ := zB_kc B1 hw hs1
  have w1 : yH (H1, u') := w1
  have w1n : H.2.1 ≤ u'.1 := w1n
  have l1 : zLg 90 H1 := l1
  have o1 : H1 54 = .inr (11, fs') := o1
  have kc1 : H.2.2.1 ≤ u'.2.1 := kc1
  have ks1 : H.2.2.2 ≤ u'.2.2 := ks1
  have u91 : 91 ≤ u'.1 := Nat.le_trans n91 w1n
  have hs2 : ∀ w ∈ (Value.ref 54 :: [.int (xs (i + 1)), .int (xs (i + 2)), .int (xs (i + 3)), .int (xs (i + 4))] : List Value), yok u'.1 w := fun w hw9 => by
    rcases List.mem_cons.mp hw9 with rfl | hw9
    · exact Or.inl ⟨by decide, Nat.lt_of_lt_of_le (by decide) u91⟩
    · exact hs _ w hw9
  obtain ⟨-, w2, -, -⟩ := zB_sh zMs_ok 300 _ _ _ _ B2 w1 hs2
  have l2 := zB_lg zMs_ok 90 300 _ _ _ _ B2 w1 hs2 (Nat.lt_of_lt_of_le (by decide) u91) l1
  have w2 : yH (H2, u') := w2
  have l2 : zLg 90 H2 := l2
  obtain ⟨ty, t1, t2⟩ := ht
  obtain ⟨w, hv⟩ := zB_int m1 t1 t2 B1
  have hv : v = .int w := Option.some.inj hv
  subst hv
  have ec : H.2.2.1 + (u'.2.1 - H.2.2.1) = u'.2.1 := by omega
  have es : H.2.2.2 + (u'.2.2 - H.2.2.2) = u'.2.2 := by omega
  have rc : u'.2.1 ≤ room_1.cells := Nat.le_trans nc' (by show 91 + 9 * (k + 1) ≤ 600128; omega)
  have rs : u'.2.2 ≤ room_1.slots := Nat.le_trans ns' (by show 100000 + 40000 * (k + 1) ≤ 7301098; omega)
  refine lv_aload_n X.1 X.2.1 d0 rfl (lv_at hl 1 rfl) ?_
  refine la_arg C g2.2.2 hl (by omega) a1 ?_
  refine la_arg C g2.2.2 hl (by omega) a2 ?_
  refine la_arg C g2.2.2 hl (by omega) a3 ?_
  refine la_arg C g2.2.2 hl (by omega) a4 ?_
  refine yc_V (d := 300) (y := y) (M := M) (as := [.int (xs (i + 1)), .int (xs (i + 2)), .int (xs (i + 3)), .int (xs (i + 4))]) (avs := [.int (xs (i + 1)), .int (xs (i + 2)), .int (xs (i + 3)), .int (xs (i + 4))]) (rest := []) (ci := 10) (k := 4) (b := 1) (bv := tr 1) (tr := tr) (H := H) (r := (some (.int w), (H1, u'))) rfl rfl X room_f d1 m1 k1.1 k1.2.1 k1.2.2.1 k1.2.2.2 rfl (by decide) (by decide) (Nat.lt_of_lt_of_le (by decide) n91) f1 B1 hw (hs _) g1 g2 hl.1 (Nat.le_of_ble_eq_true rfl) ⟨by show H.2.2.1 + (u'.2.1 - H.2.2.1) ≤ _; rw [ec]; exact rc, by show H.2.2.2 + (u'.2.2 - H.2.2.2) ≤ _; rw [es]; exact rs⟩ (fun tr1 Hh1 locs1 t1 r1 => ?_)
  show W p l e room_1 s m #[Value.ref b] below meth c Hh1 locs1 (H.2.2.1 + (u'.2.1 - H.2.2.1)) (H.2.2.2 + (u'.2.2 - H.2.2.2)) Q (F0 m (pc + 28) ls [.int w])
  rw [ec, es]
  have hl1 : lv_has ls 8 (lV tr1 b i) := by rw [lV_same t1 n91]; exact hl
  refine lv_aload_n X.1 X.2.1 d2 rfl (lv_at hl1 2 rfl) ?_
  refine la_arg C r1.2.2 hl1 (by omega) b1 ?_
  refine la_arg C r1.2.2 hl1 (by omega) b2 ?_
  refine la_arg C r1.2.2 hl1 (by omega) b3 ?_
  refine la_arg C r1.2.2 hl1 (by omega) b4 ?_
  refine yc_V (d := 300) (y := y') (M := M') (as := [.int (xs (i + 1)), .int (xs (i + 2)), .int (xs (i + 3)), .int (xs (i + 4))]) (avs := [.int (xs (i + 1)), .int (xs (i + 2)), .int (xs (i + 3)), .int (xs (i + 4))]) (rest := [.int w]) (ci := 11) (k := 4) (b := 54) (bv := tr1 54) (tr := tr1) (H := (H1, u')) (r := (some (.int w), (H2, u'))) rfl rfl X room_f d3 m2 k2.1 k2.2.1 k2.2.2.1 k2.2.2.2 rfl (by decide) (by decide) (Nat.lt_of_lt_of_le (by decide) u91) o1 B2 w1 (hs _) (t1.st g1) r1 hl1.1 (Nat.le_of_ble_eq_true rfl) ⟨by show u'.2.1 + (u'.2.1 - u'.2.1) ≤ _; rw [Nat.sub_self]; exact rc, by show u'.2.2 + (u'.2.2 - u'.2.2) ≤ _; rw [Nat.sub_self]; exact rs⟩ (fun tr2 Hh2 locs2 t2 r2 => ?_)
  show W p l e room_1 s m #[Value.ref b] below meth c Hh2 locs2 (u'.2.1 + (u'.2.1 - u'.2.1)) (u'.2.2 + (u'.2.2 - u'.2.2)) Q (F0 m (pc + 56) ls [.int w, .int w])
  rw [Nat.sub_self, Nat.sub_self]
  have hl2 : lv_has ls 8 (lV tr2 b i) := by rw [lV_same t2 u91]; exact hl1
  refine lv_icmp_eq (tgt := 1396) X.1 X.2.1 d4 hoff (fun _ => ?_) (fun q => absurd rfl q)
  exact kk (H2, u') tr2 Hh2 locs2 ⟨t2.st (t1.st g1), r2, hI2, w2, l2, hl2⟩
set_option maxHeartbeats 4000000 in
theorem la_l0 {y y' i1 i2 : Nat} {M M' : zM} {off : Int} (C : lC p s m c cA dC dI tr0 b L xs) (hR : lR s cA dC dI tr0 k b i H tr Hh locs ls) (hk : k < 64) (hi : i + 5 ≤ L) (hst : jSt k y y' [] H.1 H.2) (m1 : zMs[y]? = some M) (m2 : zMs[y']? = some M') (k1 : Cond.methodLink (zCn 12) i1 M.1 ∈ zT ∧ Cond.instanceMethod M.1 ∈ zT ∧ Cond.selects (zCls 10) M.1 M.1 ∈ zT ∧ zPn M.1 = some 0) (k2 : Cond.methodLink (zCn 12) i2 M'.1 ∈ zT ∧ Cond.instanceMethod M'.1 ∈ zT ∧ Cond.selects (zCls 11) M'.1 M'.1 ∈ zT ∧ zPn M'.1 = some 0) (ht : (M.2.2.2.2.1 = some .long ∧ M.2.2.2.2.2.all (fun q => decide (q.2.1 ≠ .ireturn)) = true)) (d0 : decode code pc = .ok (.aload_n 1, 1)) (d1 : decode code (pc + 1) = .ok (.invokevirtual i1, 3)) (d2 : decode code (pc + 4) = .ok (.aload_n 2, 1)) (d3 : decode code (pc + 5) = .ok (.invokevirtual i2, 3)) (d4 : decode code (pc + 8) = .ok (.lcmp, 1)) (d5 : decode code (pc + 9) = .ok (.ifCond .eq off, 3)) (hoff : ((pc + 9 : Nat) : Int) + off = ((1396 : Nat) : Int))
    (kk : ∀ (H' : zH) (tr' : Nat → Nat) (Hh' : Heap) (locs' : List Loc), lR s cA dC dI tr0 (k + 1) b i H' tr' Hh' locs' ls → W p l e room_1 s m #[Value.ref b] below meth c Hh' locs' H'.2.2.1 H'.2.2.2 Q (F0 m 1396 ls [])) : W p l e room_1 s m #[Value.ref b] below meth c Hh locs H.2.2.1 H.2.2.2 Q (F0 m pc ls []) := by
  have C' := C
  obtain ⟨X, hPX, hL, hX, hb⟩ := C'
  obtain ⟨g1, g2, hI, hw, hlg, hl⟩ := hR
  obtain ⟨n91, nc, ns, ⟨fs1, f1⟩, fs54, f54⟩ := jIV_1 hI
  obtain ⟨v, H1, H2, u', e1, e2, hI2⟩ := hst
  have B1 := y_eq e1
  have B2 := y_eq e2
  obtain ⟨n91', nc', ns', -, -⟩ := jIV_1 hI2
  have hs : ∀ (n : Nat), ∀ w ∈ ([] : List Value), yok n w := fun n w hw9 => by
    exact absurd hw9 List.not_mem_nil
  have hs1 : ∀ w ∈ (Value.ref 1 :: [] : List Value), yok H.2.1 w := fun w hw9 => by
    rcases List.mem_cons.mp hw9 with rfl | hw9
    · exact Or.inl ⟨by decide, Nat.lt_of_lt_of_le (by decide) n91⟩
    · exact hs _ w hw9
  obtain ⟨-, w1, w1n, -⟩ := zB_sh zMs_ok 300 _ _ _ _ B1 hw hs1
  have l1 := zB_lg zMs_ok 90 300 _ _ _ _ B1 hw hs1 (Nat.lt_of_lt_of_le (by decide) n91) hlg
  obtain ⟨fs', o1⟩ := zB_ob zMs_ok 11 54 300 _ _ _ _ B1 hw hs1 (Nat.lt_of_lt_of_le (by decide) n91) ⟨fs54, f54⟩
  obtain ⟨kc1, ks1⟩ := zB_kc B1 hw hs1
  have w1 : yH (H1, u') := w1
  have w1n : H.2.1 ≤ u'.1 := w1n
  have l1 : zLg 90 H1 := l1
  have o1 : H1 54 = .inr (11, fs') := o1
  have kc1 : H.2.2.1 ≤ u'.2.1 := kc1
  have ks1 : H.2.2.2 ≤ u'.2.2 := ks1
  have u91 : 91 ≤ u'.1 := Nat.le_trans n91 w1n
  have hs2 : ∀ w ∈ (Value.ref 54 :: [] : List Value), yok u'.1 w := fun w hw9 => by
    rcases List.mem_cons.mp hw9 with rfl | hw9
    · exact Or.inl ⟨by decide, Nat.lt_of_lt_of_le (by decide) u91⟩
    · exact hs _ w hw9
  obtain ⟨-, w2, -, -⟩ := zB_sh zMs_ok 300 _ _ _ _ B2 w1 hs2
  have l2 := zB_lg zMs_ok 90 300 _ _ _ _ B2 w1 hs2 (Nat.lt_of_lt_of_le (by decide) u91) l1
  have w2 : yH (H2, u') := w2
  have l2 : zLg 90 H2 := l2
  obtain ⟨w, hv⟩ := zB_long m1 ht.1 ht.2 B1
  have hv : v = .long w := Option.some.inj hv
  subst hv
  have ec : H.2.2.1 + (u'.2.1 - H.2.2.1) = u'.2.1 := by omega
  have es : H.2.2.2 + (u'.2.2 - H.2.2.2) = u'.2.2 := by omega
  have rc : u'.2.1 ≤ room_1.cells := Nat.le_trans nc' (by show 91 + 9 * (k + 1) ≤ 600128; omega)
  have rs : u'.2.2 ≤ room_1.slots := Nat.le_trans ns' (by show 100000 + 40000 * (k + 1) ≤ 7301098; omega)
  refine lv_aload_n X.1 X.2.1 d0 rfl (lv_at hl 1 rfl) ?_
  refine yc_V (d := 300) (y := y) (M := M) (as := []) (avs := []) (rest := []) (ci := 10) (k := 0) (b := 1) (bv := tr 1) (tr := tr) (H := H) (r := (some (.long w), (H1, u'))) rfl rfl X room_f d1 m1 k1.1 k1.2.1 k1.2.2.1 k1.2.2.2 rfl (by decide) (by decide) (Nat.lt_of_lt_of_le (by decide) n91) f1 B1 hw (hs _) g1 g2 hl.1 (Nat.le_of_ble_eq_true rfl) ⟨by show H.2.2.1 + (u'.2.1 - H.2.2.1) ≤ _; rw [ec]; exact rc, by show H.2.2.2 + (u'.2.2 - H.2.2.2) ≤ _; rw [es]; exact rs⟩ (fun tr1 Hh1 locs1 t1 r1 => ?_)
  show W p l e room_1 s m #[Value.ref b] below meth c Hh1 locs1 (H.2.2.1 + (u'.2.1 - H.2.2.1)) (H.2.2.2 + (u'.2.2 - H.2.2.2)) Q (F0 m (pc + 4) ls [.long w])
  rw [ec, es]
  have hl1 : lv_has ls 8 (lV tr1 b i) := by rw [lV_same t1 n91]; exact hl
  refine lv_aload_n X.1 X.2.1 d2 rfl (lv_at hl1 2 rfl) ?_
  refine yc_V (d := 300) (y := y') (M := M') (as := []) (avs := []) (rest := [.long w]) (ci := 11) (k := 0) (b := 54) (bv := tr1 54) (tr := tr1) (H := (H1, u')) (r := (some (.long w), (H2, u'))) rfl rfl X room_f d3 m2 k2.1 k2.2.1 k2.2.2.1 k2.2.2.2 rfl (by decide) (by decide) (Nat.lt_of_lt_of_le (by decide) u91) o1 B2 w1 (hs _) (t1.st g1) r1 hl1.1 (Nat.le_of_ble_eq_true rfl) ⟨by show u'.2.1 + (u'.2.1 - u'.2.1) ≤ _; rw [Nat.sub_self]; exact rc, by show u'.2.2 + (u'.2.2 - u'.2.2) ≤ _; rw [Nat.sub_self]; exact rs⟩ (fun tr2 Hh2 locs2 t2 r2 => ?_)
  show W p l e room_1 s m #[Value.ref b] below meth c Hh2 locs2 (u'.2.1 + (u'.2.1 - u'.2.1)) (u'.2.2 + (u'.2.2 - u'.2.2)) Q (F0 m (pc + 8) ls [.long w, .long w])
  rw [Nat.sub_self, Nat.sub_self]
  have hl2 : lv_has ls 8 (lV tr2 b i) := by rw [lV_same t2 u91]; exact hl1
  refine W.lcmp X.1 X.2.1 d4 ?_
  rw [lg_self]
  refine lv_if_eq (tgt := 1396) X.1 X.2.1 d5 hoff (fun _ => ?_) (fun q => absurd rfl q)
  exact kk (H2, u') tr2 Hh2 locs2 ⟨t2.st (t1.st g1), r2, hI2, w2, l2, hl2⟩
end LAW1
