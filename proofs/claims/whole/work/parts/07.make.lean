/-! what is made; arraycopy; Object's constructor; what stays well scoped -/
theorem z_cat_map (tr : Nat → Nat) (r : List Value) : ((r.map (z_v tr)).map fun v => v.category).sum = (r.map fun v => v.category).sum := by
  rw [List.map_map]
  congr 1
  exact List.map_congr_left fun v _ => z_v_cat tr v
theorem z_up_lt {tr : Nat → Nat} {n q : Nat} (hn : n < 1000) : ∀ k, k < n ∨ 1000 ≤ k → z_up tr n q k = tr k := fun k hk => z_up_n tr q (by omega)
theorem z_RA {s : State} {c1 c2 : ClassId} {t : Nat} (h1 : va_RA s c1 (z_ty t)) (h2 : va_RA s c2 (z_ty t)) : c1 = c2 := by
  have key : ∀ c, va_RA s c (z_ty t) → s.vm.findClass ("[" ++ (z_ty t).toString) = some c := by
    intro c h
    unfold z_ty at h ⊢
    split <;> simp_all [va_RA]
  exact Option.some.inj ((key c1 h1).symm.trans (key c2 h2))
theorem z_tys_at {cA : Nat → ClassId} {t : Nat} (ht : t ≤ 4) : (z_tys cA)[t]? = some (cA t, z_ty t) := by
  rcases (show t = 0 ∨ t = 1 ∨ t = 2 ∨ t = 3 ∨ t = 4 by omega) with rfl | rfl | rfl | rfl | rfl <;> rfl
theorem z_a0_at {t N : Nat} (ht : t ≤ 4) : ∃ a0 : vp_A, z_a0 t N = .inl (t, a0) ∧ ∀ cA : ClassId, vp_cell cA a0 = arrV cA N (fun _ => defaultValue (z_ty t)) := by
  rcases (show t = 0 ∨ t = 1 ∨ t = 2 ∨ t = 3 ∨ t = 4 by omega) with rfl | rfl | rfl | rfl | rfl
  · exact ⟨(N, .inl (fun _ => 0)), rfl, fun _ => rfl⟩
  · exact ⟨(N, .inr (.inl (fun _ => 0))), rfl, fun _ => rfl⟩
  · exact ⟨(N, .inl (fun _ => 0)), rfl, fun _ => rfl⟩
  · exact ⟨(N, .inl (fun _ => 0)), rfl, fun _ => rfl⟩
  · exact ⟨(N, .inl (fun _ => 0)), rfl, fun _ => rfl⟩
theorem z_bytes (t : Nat) : componentBytes (z_ty t) ≤ 8 := by
  unfold z_ty
  split <;> decide
section ZA
variable {p : Program} {l : Launch} {e : Env} {R : Room} {s : State} {m : MethodId} {args : Array Value} {below : List Frame} {meth : Method} {c : Code} {cA dC : Nat → ClassId} {dI : Nat → Nat → Nat} {B0 : Nat} {tr0 : Nat → Nat} {own nL kc0 ks0 n0 : Nat} {cc : ByteArray} {Q : State → Prop} {pc : Nat} {S S' : zS} {P : Prop} {x : zX}
theorem zs_newarray (X : zCx p s m args c R cA dC dI B0 tr0 own cc nL) {t : Nat} {at_ : ArrayType} (hx : x.2.1 = t) (ht : t ≤ 4) (hty : newarray.typeOf at_ = z_ty t) (hwd : Cond.arrayClass (z_ty t) ∈ zT) (hd : decode cc pc = .ok (.newarray at_, 2)) (hz : zplain (.newarray at_) x S = some (P, S')) (hP : P) (hw : zwf S) (h0 : n0 ≤ S.2.2.2.1 ∧ kc0 ≤ S.2.2.2.2.1 ∧ ks0 ≤ S.2.2.2.2.2) (hR : S'.2.2.2.2.1 - kc0 ≤ R.cells ∧ S'.2.2.2.2.2 - ks0 ≤ R.slots) (kk : zGoal p l e R s m args below meth c cA dC dI B0 tr0 nL kc0 ks0 n0 Q (pc + 2) S') : zGoal p l e R s m args below meth c cA dC dI B0 tr0 nL kc0 ks0 n0 Q pc S := by
  obtain ⟨L, st, h, n, kc, ks⟩ := S
  simp only [zplain, znewa, hx] at hz
  split at hz
  · rename_i i r
    cases hz
    obtain ⟨⟨f1, f2⟩, f3⟩ := hP
    simp only at f3 h0 hR
    intro tr Hh locs ls h1 h2 h3
    obtain ⟨a0, ea, hv⟩ := z_a0_at (t := t) (N := i.toNatClampNeg) ht
    refine va_newa X.1 X.2.1 (by rw [hty]; exact X.2.2.2.2.1 _ hwd) hty X.2.2.2.2.2.2.1 h2.1 h2.2.1 h2.2.2 (fun q hq => Nat.le_trans X.2.2.2.2.2.2.2.1 hq) (a0 := a0) hv f1 rfl (Nat.le_trans (Nat.mul_le_mul f2 (z_bytes t)) (by decide)) (by dsimp only; omega) (by dsimp only; omega) hd (fun q cA' H1 g1 g2 g3 g4 => ?_)
    have ecA : cA' = cA t := z_RA (g1.2 5 (cA', z_ty t) rfl).2 (X.2.2.2.2.2.2.1.2 t _ (z_tys_at ht)).2
    subst ecA
    have hsame := z_up_lt (tr := tr) (q := q) f3
    have ew : zw cA (z_up tr n q) (z_up h n (z_a0 t i.toNatClampNeg)) (n + 1) = zw cA tr h n ++ [(q, .inl (cA t, a0))] := by
      rw [zw_push cA tr (z_up tr n q) h n _ q (fun k hk => hsame k (Or.inl hk)) (z_up_s tr n q) (fun k hk => z_e_same (hw.2.2.2 k hk) hsame), ea]
      rfl
    have k2 := kk (z_up tr n q) H1 locs ls (fun k hk => by rw [hsame k (by rcases hk with hk | hk <;> omega)]; exact h1 k hk) ⟨by rw [ew]; exact g2, by rw [ew]; exact g3, g4⟩ (zl_same hw.1 hsame h3)
    have e1 : (r.map (z_v (z_up tr n q))) = r.map (z_v tr) := z_map_same (n := n) (fun v hv => hw.2.1 v (List.mem_cons_of_mem _ hv)) hsame
    simp only [List.map_cons, z_v, z_up_s, e1] at k2
    rw [show kc + 1 - kc0 = kc - kc0 + 1 by omega, show ks + i.toNatClampNeg - ks0 = ks - ks0 + i.toNatClampNeg by omega] at k2
    exact k2
  · cases hz
theorem zs_new (X : zCx p s m args c R cA dC dI B0 tr0 own cc nL) {i ci : Nat} {C : String} {T : u_T} {N : Nat} (hx : x.2.1 = ci) (hc : vwCl[ci]? = some (C, T, N)) (hw1 : Cond.classLink (zCn own) i C ∈ zT) (hw2 : Cond.instantiable C N ∈ zT) (hw3 : Cond.initialized C ∈ zT) (hd : decode cc pc = .ok (.new i, 3)) (hz : zplain (.new i) x S = some (P, S')) (hP : P) (hw : zwf S) (h0 : n0 ≤ S.2.2.2.1 ∧ kc0 ≤ S.2.2.2.2.1 ∧ ks0 ≤ S.2.2.2.2.2) (hR : S'.2.2.2.2.1 - kc0 ≤ R.cells ∧ S'.2.2.2.2.2 - ks0 ≤ R.slots) (kk : zGoal p l e R s m args below meth c cA dC dI B0 tr0 nL kc0 ks0 n0 Q (pc + 3) S') : zGoal p l e R s m args below meth c cA dC dI B0 tr0 nL kc0 ks0 n0 Q pc S := by
  obtain ⟨L, r, h, n, kc, ks⟩ := S
  simp only [zplain, znew, hx] at hz
  cases hz
  obtain ⟨f1, f3⟩ := hP
  simp only at f3 h0 hR
  obtain ⟨q, hq, hl, hdv⟩ := z_nf_ok ci f1
  have hq2 : q = (C, T, N) := Option.some.inj (hq.symm.trans hc)
  subst hq2
  simp only at hl hdv
  intro tr Hh locs ls h1 h2 h3
  have hin := z_cl _ (List.mem_of_getElem? hc)
  have hty : ∀ j, j < N → parseFieldDescriptor (T j).2.2.1 = some ((parseFieldDescriptor (T j).2.2.1).getD .int) := fun j hj => by
    obtain ⟨y, hy⟩ := Option.isSome_iff_exists.mp (hin.2.1 j hj)
    rw [hy]; rfl
  refine va_new X.1 X.2.1 X.2.2.2.2.1 hin.1 _ hty X.2.2.2.1 (X.2.2.2.2.1 _ hw1) (X.2.2.2.2.1 _ hw2) (X.2.2.2.2.1 _ hw3) X.2.2.2.2.2.2.1 h2.1 h2.2.1 h2.2.2 (fun q hq => Nat.le_trans X.2.2.2.2.2.2.2.1 hq) hc (fs := z_nf ci) hdv (by dsimp only; omega) (by dsimp only; omega) hd (fun q H1 g2 g3 g4 => ?_)
  have hsame := z_up_lt (tr := tr) (q := q) f3
  have ew : zw cA (z_up tr n q) (z_up h n (zO ci (z_nf ci))) (n + 1) = zw cA tr h n ++ [(q, .inr (ci, z_nf ci))] := by
    rw [zw_push cA tr (z_up tr n q) h n _ q (fun k hk => hsame k (Or.inl hk)) (z_up_s tr n q) (fun k hk => z_e_same (hw.2.2.2 k hk) hsame)]
    simp only [z_e, z_nf_tr]
  have k2 := kk (z_up tr n q) H1 locs ls (fun k hk => by rw [hsame k (by rcases hk with hk | hk <;> omega)]; exact h1 k hk) ⟨by rw [ew]; exact g2, by rw [ew]; exact g3, g4⟩ (zl_same hw.1 hsame h3)
  have e1 : (r.map (z_v (z_up tr n q))) = r.map (z_v tr) := z_map_same (n := n) (fun v hv => hw.2.1 v hv) hsame
  simp only [List.map_cons, z_v, z_up_s, e1] at k2
  rw [show kc + 1 - kc0 = kc - kc0 + 1 by omega, show ks + (z_nf ci).length - ks0 = ks - ks0 + N by omega] at k2
  exact k2
theorem zs_copy (X : zCx p s m args c R cA dC dI B0 tr0 own cc nL) {i : Nat} (hx : x.1 = 999) (hw1 : Cond.methodLink (zCn own) i arraycopyName ∈ zT) (hw2 : Cond.native arraycopyName ∈ zT) (hw3 : Cond.static arraycopyName ∈ zT) (hw4 : Cond.initialized "java/lang/System" ∈ zT) (hd : decode cc pc = .ok (.invokestatic i, 3)) (hz : zplain (.invokestatic i) x S = some (P, S')) (hP : P) (hw : zwf S) (h0 : n0 ≤ S.2.2.2.1 ∧ kc0 ≤ S.2.2.2.2.1 ∧ ks0 ≤ S.2.2.2.2.2) (hR : S'.2.2.2.2.1 - kc0 ≤ R.cells ∧ S'.2.2.2.2.2 - ks0 ≤ R.slots) (kk : zGoal p l e R s m args below meth c cA dC dI B0 tr0 nL kc0 ks0 n0 Q (pc + 3) S') : zGoal p l e R s m args below meth c cA dC dI B0 tr0 nL kc0 ks0 n0 Q pc S := by
  obtain ⟨L, st, H⟩ := S
  simp only [zplain, zcopy, hx] at hz
  split at hz
  · rename_i n dp b sp a r
    have hsa : a < H.2.1 ∨ 1000 ≤ a := hw.2.1 (.ref a) (by simp)
    have hsb : b < H.2.1 ∨ 1000 ≤ b := hw.2.1 (.ref b) (by simp)
    have hnw : nativeFrameWords "java/lang/System" "arraycopy" 5 ≤ 150 := by decide +kernel
    split at hz
    · rename_i n0 f n1 g q1 q2
      cases hz
      obtain ⟨⟨f1, f2, f3⟩, f4, f5, f6, f7, f8⟩ := hP
      intro tr Hh locs ls h1 h2 h3
      have ha : a < H.2.1 := hsa.resolve_right (Nat.not_le.mpr f1)
      have hb : b < H.2.1 := hsb.resolve_right (Nat.not_le.mpr f2)
      refine va_copyi X.1 X.2.1 (X.2.2.1.trans h3.1.symm) X.2.2.2.1 (X.2.2.2.2.1 _ hw1) (X.2.2.2.2.1 _ hw2) (X.2.2.2.2.1 _ hw3) (X.2.2.2.2.1 _ hw4) X.2.2.2.2.2.2.1 h2.1 h2.2.1 h2.2.2 a b 0 0 (zw_at' ha q1) (zw_at' hb q2) rfl rfl rfl f4 f5 f6 f7 f8 (fun _ _ => rfl) (Nat.le_of_succ_le X.2.2.2.2.2.2.2.2.2.2.1) (by rw [z_cat_map]; have := X.2.2.2.2.2.2.2.2.2.2.2; omega) hd (fun H1 locs1 g1 g2 g3 => kk tr H1 locs1 ls h1 ⟨by rw [← zw_set cA tr H.1 H.2.1 _ hb]; exact g1, by rw [← zw_set cA tr H.1 H.2.1 _ hb]; exact g2, g3⟩ h3)
    · rename_i n0 f n1 g q1 q2
      cases hz
      obtain ⟨⟨f1, f2, f3⟩, f4, f5, f6, f7, f8⟩ := hP
      intro tr Hh locs ls h1 h2 h3
      have ha : a < H.2.1 := hsa.resolve_right (Nat.not_le.mpr f1)
      have hb : b < H.2.1 := hsb.resolve_right (Nat.not_le.mpr f2)
      refine va_copyl X.1 X.2.1 (X.2.2.1.trans h3.1.symm) X.2.2.2.1 (X.2.2.2.2.1 _ hw1) (X.2.2.2.2.1 _ hw2) (X.2.2.2.2.1 _ hw3) (X.2.2.2.2.1 _ hw4) X.2.2.2.2.2.2.1 h2.1 h2.2.1 h2.2.2 a b 1 1 (zw_at' ha q1) (zw_at' hb q2) rfl rfl rfl f4 f5 f6 f7 f8 (fun _ _ => rfl) (Nat.le_of_succ_le X.2.2.2.2.2.2.2.2.2.2.1) (by rw [z_cat_map]; have := X.2.2.2.2.2.2.2.2.2.2.2; omega) hd (fun H1 locs1 g1 g2 g3 => kk tr H1 locs1 ls h1 ⟨by rw [← zw_set cA tr H.1 H.2.1 _ hb]; exact g1, by rw [← zw_set cA tr H.1 H.2.1 _ hb]; exact g2, g3⟩ h3)
    · cases hz
  · cases hz
theorem zs_obj (X : zCx p s m args c R cA dC dI B0 tr0 own cc nL) {i : Nat} (hx : x.1 = 998) (hw1 : Cond.methodLink (zCn own) i Lib.objectInit ∈ zT) (hw2 : Cond.instanceMethod Lib.objectInit ∈ zT) (hw3 : Cond.code Lib.objectInit ⟨#[0xb1]⟩ 1 none ∈ zT) (hd : decode cc pc = .ok (.invokespecial i, 3)) (hz : zplain (.invokespecial i) x S = some (P, S')) (hP : P) (hw : zwf S) (h0 : n0 ≤ S.2.2.2.1 ∧ kc0 ≤ S.2.2.2.2.1 ∧ ks0 ≤ S.2.2.2.2.2) (hR : S'.2.2.2.2.1 - kc0 ≤ R.cells ∧ S'.2.2.2.2.2 - ks0 ≤ R.slots) (kk : zGoal p l e R s m args below meth c cA dC dI B0 tr0 nL kc0 ks0 n0 Q (pc + 3) S') : zGoal p l e R s m args below meth c cA dC dI B0 tr0 nL kc0 ks0 n0 Q pc S := by
  obtain ⟨L, st, H⟩ := S
  simp only [zplain, zobj, hx] at hz
  split at hz
  · rename_i a r
    cases hz
    intro tr Hh locs ls h1 h2 h3
    exact W.objInit X.1 X.2.1 X.2.2.2.1 (X.2.2.2.2.1 _ hw1) (X.2.2.2.2.1 _ hw2) (X.2.2.2.2.1 _ hw3) rfl (h3.1.trans X.2.2.1.symm) rfl hd (Nat.le_of_succ_le X.2.2.2.2.2.2.2.2.2.2.1) (Nat.le_trans (Nat.add_le_add_right (lv_room (by rw [z_cat_map]; exact hP)) 12) (by have := X.2.2.2.2.2.2.2.2.2.2.2; omega)) (kk tr Hh locs ls h1 h2 h3)
  · cases hz
theorem zs_chi (X : zCx p s m args c R cA dC dI B0 tr0 own cc nL) {i : Nat} (hx : x.1 = 997) (hw1 : Cond.methodLink (zCn own) i y_ci ∈ zT) (hd : decode cc pc = .ok (.invokestatic i, 3)) (hz : zplain (.invokestatic i) x S = some (P, S')) (hP : P) (hw : zwf S) (h0 : n0 ≤ S.2.2.2.1 ∧ kc0 ≤ S.2.2.2.2.1 ∧ ks0 ≤ S.2.2.2.2.2) (hR : S'.2.2.2.2.1 - kc0 ≤ R.cells ∧ S'.2.2.2.2.2 - ks0 ≤ R.slots) (kk : zGoal p l e R s m args below meth c cA dC dI B0 tr0 nL kc0 ks0 n0 Q (pc + 3) S') : zGoal p l e R s m args below meth c cA dC dI B0 tr0 nL kc0 ks0 n0 Q pc S := by
  obtain ⟨L, st, H⟩ := S
  simp only [zplain, zchi, hx] at hz
  split at hz
  · rename_i n j r
    cases hz
    obtain ⟨f1, f2, f3⟩ := hP
    intro tr Hh locs ls h1 h2 h3
    have hr : ((((r.map (z_v tr))).map fun v => v.category).sum) ≤ 8 := by rw [z_cat_map]; exact f1
    refine va_csv (W.runS (As := [.int j, .int n]) ⟨X.1, X.2.1, X.2.2.1, X.2.2.2.1, X.2.2.2.2.1⟩ (c_ci l j n (fun q => B0 ≤ q) f2 f3) ⟨callB_of 2 X.2.2.2.2.1 (z_T_good (fun w hw => (List.mem_cons.mp hw).elim (fun e => e ▸ w_ci) id)) rfl rfl rfl (X.2.2.2.2.1 _ i_ci) (X.2.2.2.2.1 _ hw1) (by decide +kernel) ⟨by have := X.2.2.2.2.2.2.2.2.2.2.1; exact this, by have := X.2.2.2.2.2.2.2.2.2.2.2; show 8 + (2 + 11) + 40 ≤ R.locals; omega⟩, X.2.2.2.2.1 _ s_ci⟩ ⟨fun a U g mk q => ⟨q.1, va_Zq.moved (u := U) (U := U.calling g mk a) (Vm.Alike.refl U.vm) q.2⟩, fun U hU hW => ⟨rfl, by show va_Zq _ _ _ _ U U.heap; rw [hU]; exact va_Zq.moved hW.alike (va_Zq.kept X.2.2.2.2.2.2.2.2.1.2.2.2.2 (fun a g1 g2 => h2.2.2.2.1 a g1 g2))⟩⟩ rfl rfl h3.1 rfl (lv_room hr) hd ⟨Nat.le_trans (Nat.le_of_eq (Nat.add_zero _)) hR.1, Nat.le_trans (Nat.le_of_eq (Nat.add_zero _)) hR.2⟩) (fun _ => kk tr Hh locs ls h1 h2 h3)
  · cases hz
theorem zs_mx (X : zCx p s m args c R cA dC dI B0 tr0 own cc nL) {i : Nat} (hx : x.1 = 994) (hw1 : Cond.methodLink (zCn own) i Lib.Math.max.name ∈ zT) (hw2 : Cond.static Lib.Math.max.name ∈ zT) (hw3 : Cond.initialized "java/lang/Math" ∈ zT) (hw4 : Cond.code Lib.Math.max.name Lib.Math.max.code 2 (some .int) ∈ zT) (hd : decode cc pc = .ok (.invokestatic i, 3)) (hz : zplain (.invokestatic i) x S = some (P, S')) (hP : P) (hw : zwf S) (h0 : n0 ≤ S.2.2.2.1 ∧ kc0 ≤ S.2.2.2.2.1 ∧ ks0 ≤ S.2.2.2.2.2) (hR : S'.2.2.2.2.1 - kc0 ≤ R.cells ∧ S'.2.2.2.2.2 - ks0 ≤ R.slots) (kk : zGoal p l e R s m args below meth c cA dC dI B0 tr0 nL kc0 ks0 n0 Q (pc + 3) S') : zGoal p l e R s m args below meth c cA dC dI B0 tr0 nL kc0 ks0 n0 Q pc S := by
  obtain ⟨L, st, H⟩ := S
  simp only [zplain, zmx, hx] at hz
  split at hz
  · rename_i b a r
    cases hz
    intro tr Hh locs ls h1 h2 h3
    have hr : ((((r.map (z_v tr))).map fun v => v.category).sum) ≤ 8 := by rw [z_cat_map]; exact hP
    exact va_mmax X.1 X.2.1 (X.2.2.1.trans h3.1.symm) X.2.2.2.1 (X.2.2.2.2.1 _ hw1) (X.2.2.2.2.1 _ hw2) (X.2.2.2.2.1 _ hw3) (X.2.2.2.2.1 _ hw4) (Nat.le_of_succ_le X.2.2.2.2.2.2.2.2.2.2.1) (by have := X.2.2.2.2.2.2.2.2.2.2.2; omega) hR.1 hR.2 hd (kk tr Hh locs ls h1 h2 h3)
  · cases hz
theorem zs_mn (X : zCx p s m args c R cA dC dI B0 tr0 own cc nL) {i : Nat} (hx : x.1 = 995) (hw1 : Cond.methodLink (zCn own) i Lib.Math.min.name ∈ zT) (hw2 : Cond.static Lib.Math.min.name ∈ zT) (hw3 : Cond.initialized "java/lang/Math" ∈ zT) (hw4 : Cond.code Lib.Math.min.name Lib.Math.min.code 2 (some .int) ∈ zT) (hd : decode cc pc = .ok (.invokestatic i, 3)) (hz : zplain (.invokestatic i) x S = some (P, S')) (hP : P) (hw : zwf S) (h0 : n0 ≤ S.2.2.2.1 ∧ kc0 ≤ S.2.2.2.2.1 ∧ ks0 ≤ S.2.2.2.2.2) (hR : S'.2.2.2.2.1 - kc0 ≤ R.cells ∧ S'.2.2.2.2.2 - ks0 ≤ R.slots) (kk : zGoal p l e R s m args below meth c cA dC dI B0 tr0 nL kc0 ks0 n0 Q (pc + 3) S') : zGoal p l e R s m args below meth c cA dC dI B0 tr0 nL kc0 ks0 n0 Q pc S := by
  obtain ⟨L, st, H⟩ := S
  simp only [zplain, zmn, hx] at hz
  split at hz
  · rename_i b a r
    cases hz
    intro tr Hh locs ls h1 h2 h3
    have hr : ((((r.map (z_v tr))).map fun v => v.category).sum) ≤ 8 := by rw [z_cat_map]; exact hP
    exact va_mmin X.1 X.2.1 (X.2.2.1.trans h3.1.symm) X.2.2.2.1 (X.2.2.2.2.1 _ hw1) (X.2.2.2.2.1 _ hw2) (X.2.2.2.2.1 _ hw3) (X.2.2.2.2.1 _ hw4) (Nat.le_of_succ_le X.2.2.2.2.2.2.2.2.2.2.1) (by have := X.2.2.2.2.2.2.2.2.2.2.2; omega) hR.1 hR.2 hd (kk tr Hh locs ls h1 h2 h3)
  · cases hz
theorem zs_mxl (X : zCx p s m args c R cA dC dI B0 tr0 own cc nL) {i : Nat} (hx : x.1 = 996) (hw1 : Cond.methodLink (zCn own) i Lib.MathLoose.max_long.x ∈ zT) (hw2 : Cond.static Lib.MathLoose.max_long.x ∈ zT) (hw3 : Cond.initialized "java/lang/Math" ∈ zT) (hw4 : Cond.code Lib.MathLoose.max_long.x Lib.MathLoose.max_long.code 4 (some .long) ∈ zT) (hd : decode cc pc = .ok (.invokestatic i, 3)) (hz : zplain (.invokestatic i) x S = some (P, S')) (hP : P) (hw : zwf S) (h0 : n0 ≤ S.2.2.2.1 ∧ kc0 ≤ S.2.2.2.2.1 ∧ ks0 ≤ S.2.2.2.2.2) (hR : S'.2.2.2.2.1 - kc0 ≤ R.cells ∧ S'.2.2.2.2.2 - ks0 ≤ R.slots) (kk : zGoal p l e R s m args below meth c cA dC dI B0 tr0 nL kc0 ks0 n0 Q (pc + 3) S') : zGoal p l e R s m args below meth c cA dC dI B0 tr0 nL kc0 ks0 n0 Q pc S := by
  obtain ⟨L, st, H⟩ := S
  simp only [zplain, zmxl, hx] at hz
  split at hz
  · rename_i b a r
    cases hz
    intro tr Hh locs ls h1 h2 h3
    have hr : ((((r.map (z_v tr))).map fun v => v.category).sum) ≤ 8 := by rw [z_cat_map]; exact hP
    exact va_mmax_long X.1 X.2.1 (X.2.2.1.trans h3.1.symm) X.2.2.2.1 (X.2.2.2.2.1 _ hw1) (X.2.2.2.2.1 _ hw2) (X.2.2.2.2.1 _ hw3) (X.2.2.2.2.1 _ hw4) (Nat.le_of_succ_le X.2.2.2.2.2.2.2.2.2.2.1) (by have := X.2.2.2.2.2.2.2.2.2.2.2; omega) hR.1 hR.2 hd (kk tr Hh locs ls h1 h2 h3)
  · cases hz
end ZA
def zGrow (S S' : zS) : Prop := zwf S' ∧ S'.1.length = S.1.length ∧ S.2.2.2.1 ≤ S'.2.2.2.1 ∧ S.2.2.2.2.1 ≤ S'.2.2.2.2.1 ∧ S.2.2.2.2.2 ≤ S'.2.2.2.2.2
theorem z_cut_mem {L : List Value} {i : Nat} {v : Value} (h : v ∈ z_cut L i) : v ∈ L ∨ v = .null := by
  unfold z_cut at h
  split at h
  · exact Or.inl h
  · split at h
    · exact List.mem_or_eq_of_mem_set h
    · exact List.mem_or_eq_of_mem_set h
    · exact Or.inl h
theorem z_set_ok {n : Nat} {L : List Value} {i : Nat} {w : Value} (hL : ∀ v ∈ L, zok n v) (hw : zok n w) : (∀ v ∈ z_set L i w, zok n v) ∧ (z_set L i w).length = L.length := by
  refine ⟨fun v hv => ?_, by rw [z_set, List.length_set, z_cut_len]⟩
  rcases List.mem_or_eq_of_mem_set hv with h | rfl
  · rcases z_cut_mem h with h | rfl
    · exact hL v h
    · trivial
  · exact hw
theorem z_set2_ok {n : Nat} {L : List Value} {i : Nat} {w : Value} (hL : ∀ v ∈ L, zok n v) (hw : zok n w) : (∀ v ∈ z_set2 L i w, zok n v) ∧ (z_set2 L i w).length = L.length := by
  refine ⟨fun v hv => ?_, by rw [z_set2, List.length_set, List.length_set, z_cut_len]⟩
  rcases List.mem_or_eq_of_mem_set hv with h | rfl
  · rcases List.mem_or_eq_of_mem_set h with h | rfl
    · rcases z_cut_mem h with h | rfl
      · exact hL v h
      · trivial
    · exact hw
  · trivial
theorem zg_st {L : List Value} {st st' : List Value} {H : zH} (hw : zwf (L, st, H)) (h : ∀ v ∈ st', zok H.2.1 v) : zGrow (L, st, H) (L, st', H) := ⟨⟨hw.1, h, hw.2.2⟩, rfl, Nat.le_refl _, Nat.le_refl _, Nat.le_refl _⟩
theorem zg_lo {L L' : List Value} {st st' : List Value} {H : zH} (hw : zwf (L, st, H)) (h : ∀ v ∈ st', zok H.2.1 v) (hL : (∀ v ∈ L', zok H.2.1 v) ∧ L'.length = L.length) : zGrow (L, st, H) (L', st', H) := ⟨⟨hL.1, h, hw.2.2⟩, hL.2, Nat.le_refl _, Nat.le_refl _, Nat.le_refl _⟩
theorem zg_up {L : List Value} {st st' : List Value} {H : zH} {a : Nat} {e : zE} (hw : zwf (L, st, H)) (h : ∀ v ∈ st', zok H.2.1 v) (he : zokE H.2.1 e) : zGrow (L, st, H) (L, st', (z_up H.1 a e, H.2)) := by
  refine ⟨⟨hw.1, h, hw.2.2.1, fun k hk => ?_⟩, rfl, Nat.le_refl _, Nat.le_refl _, Nat.le_refl _⟩
  by_cases hka : k = a
  · subst hka
    show zokE _ (z_up H.1 k e k)
    rw [z_up_s]
    exact he
  · show zokE _ (z_up H.1 a e k)
    rw [z_up_n H.1 e hka]
    exact hw.2.2.2 k hk
theorem zg_new {L : List Value} {st st' : List Value} {h : Nat → zE} {n kc ks j : Nat} {e : zE} (hw : zwf (L, st, (h, (n, kc, ks)))) (hn : n < 1000) (hst : ∀ v ∈ st', zok n v) (he : zokE (n + 1) e) : zGrow (L, st, (h, (n, kc, ks))) (L, .ref n :: st', (z_up h n e, (n + 1, kc + 1, ks + j))) := by
  refine ⟨⟨fun v hv => (hw.1 v hv).mono (Nat.le_succ n), fun v hv => ?_, hn, fun k hk => ?_⟩, rfl, Nat.le_succ n, Nat.le_succ kc, Nat.le_add_right ks j⟩
  · rcases List.mem_cons.mp hv with rfl | hv
    · exact Or.inl (Nat.lt_succ_self n)
    · exact (hst v hv).mono (Nat.le_succ n)
  · by_cases hka : k = n
    · subst hka
      show zokE _ (z_up h k e k)
      rw [z_up_s]
      exact he
    · show zokE _ (z_up h n e k)
      rw [z_up_n h e hka]
      exact (hw.2.2.2 k (show k < n by have : k < n + 1 := hk; omega)).mono (Nat.le_succ n)
theorem z_cell_ok {H : zH} {a : Nat} (hw : zwH H) (ha : a < H.2.1 ∨ 1000 ≤ a) {o : Nat × List Value} (h : z_cell H.1 a = .inr o) : ∀ v ∈ o.2, zok H.2.1 v := by
  unfold z_cell at h
  by_cases hb : 1000 ≤ a
  · rw [if_pos hb] at h
    rcases z_sE_o h with ⟨i, -, -, rfl⟩ | rfl
    · intro v hv
      simp only [List.mem_cons, List.not_mem_nil, or_false] at hv
      rcases hv with rfl | rfl
      · exact Or.inr (show 1000 ≤ 1101 + i by omega)
      · trivial
    · intro v hv; cases hv
  · rw [if_neg hb] at h
    have := hw.2 a (by omega)
    rw [h] at this
    exact this.2
theorem zplain_grow {I : Instr} {x : zX} {S S' : zS} {P : Prop} (hx : zok 0 x.2.2.2.1) (hz : zplain I x S = some (P, S')) (hP : P) (hw : zwf S) : zGrow S S' := by
  have tl : ∀ {v : Value} {r : List Value}, S.2.1 = v :: r → ∀ u ∈ r, zok S.2.2.2.1 u := fun {v r} e u hu => hw.2.1 u (by rw [e]; exact List.mem_cons_of_mem _ hu)
  have cn : ∀ {v : Value} {r : List Value} {n : Nat}, zok n v → (∀ u ∈ r, zok n u) → ∀ u ∈ v :: r, zok n u := fun {v r n} h1 h2 u hu => (List.mem_cons.mp hu).elim (fun e => by rw [e]; exact h1) (h2 u)
  cases I <;> simp only [zplain] at hz
  all_goals try (first
    | (cases hz; done)
    | (obtain ⟨L, st, H⟩ := S; cases hz; exact zg_st hw (cn (hx.mono (Nat.zero_le _)) hw.2.1))
    | (obtain ⟨L, a, b, r, H, rfl, -, rfl⟩ := zbin_inv hz; exact zg_st hw (cn trivial (fun u hu => hw.2.1 u (List.mem_cons_of_mem _ (List.mem_cons_of_mem _ hu)))))
    | (obtain ⟨L, a, b, r, H, rfl, -, rfl⟩ := zbinl_inv hz; exact zg_st hw (cn trivial (fun u hu => hw.2.1 u (List.mem_cons_of_mem _ (List.mem_cons_of_mem _ hu)))))
    | (obtain ⟨L, a, b, r, H, rfl, rfl⟩ := zbinm_inv hz; exact zg_st hw (cn trivial (fun u hu => hw.2.1 u (List.mem_cons_of_mem _ (List.mem_cons_of_mem _ hu)))))
    | (obtain ⟨L, a, r, H, rfl, rfl⟩ := zun_inv hz; exact zg_st hw (cn trivial (fun u hu => hw.2.1 u (List.mem_cons_of_mem _ hu))))
    | (obtain ⟨L, st, H, y, rfl, q, rfl⟩ := zld_inv0 hz; exact zg_st hw (cn trivial hw.2.1))
    | (obtain ⟨L, st, H, y, rfl, q, rfl⟩ := zld_inv1 hz; exact zg_st hw (cn trivial hw.2.1))
    | (obtain ⟨L, st, H, y, rfl, q, rfl⟩ := zld_inv2 hz; exact zg_st hw (cn (hw.1 _ (List.mem_of_getElem? q)) hw.2.1))
    | (obtain ⟨L, y, r, H, rfl, rfl, rfl⟩ := zst_inv0 hz; exact zg_lo hw (fun u hu => hw.2.1 u (List.mem_cons_of_mem _ hu)) (z_set_ok hw.1 trivial))
    | (obtain ⟨L, y, r, H, rfl, rfl, rfl⟩ := zst_inv1 hz; exact zg_lo hw (fun u hu => hw.2.1 u (List.mem_cons_of_mem _ hu)) (z_set2_ok hw.1 trivial))
    | (obtain ⟨L, y, r, H, rfl, rfl, rfl⟩ := zst_inv2 hz; exact zg_lo hw (fun u hu => hw.2.1 u (List.mem_cons_of_mem _ hu)) (z_set_ok hw.1 (hw.2.1 (.ref y) List.mem_cons_self)))
    | (obtain ⟨L, a, r, H, o, v, rfl, q1, q2, rfl, rfl⟩ := zget_inv hz; exact zg_st hw (cn (z_cell_ok hw.2.2 (hw.2.1 (.ref a) List.mem_cons_self) q1 v (List.mem_of_getElem? q2)) (fun u hu => hw.2.1 u (List.mem_cons_of_mem _ hu))))
    | (obtain ⟨L, i, a, r, H, t1, N, f, rfl, q1, rfl, rfl⟩ := zald_inv hz; exact zg_st hw (cn trivial (fun u hu => hw.2.1 u (List.mem_cons_of_mem _ (List.mem_cons_of_mem _ hu)))))
    | (obtain ⟨L, i, a, r, H, t1, N, f, rfl, q1, rfl, rfl⟩ := zaldl_inv hz; exact zg_st hw (cn trivial (fun u hu => hw.2.1 u (List.mem_cons_of_mem _ (List.mem_cons_of_mem _ hu)))))
    | (obtain ⟨L, y, i, a, r, H, t1, N, f, rfl, q1, rfl, rfl⟩ := zast_inv hz; exact zg_up hw (fun u hu => hw.2.1 u (List.mem_cons_of_mem _ (List.mem_cons_of_mem _ (List.mem_cons_of_mem _ hu)))) trivial)
    | (obtain ⟨L, y, i, a, r, H, t1, N, f, rfl, q1, rfl, rfl⟩ := zastl_inv hz; exact zg_up hw (fun u hu => hw.2.1 u (List.mem_cons_of_mem _ (List.mem_cons_of_mem _ (List.mem_cons_of_mem _ hu)))) trivial)
    | (obtain ⟨L, a, r, H, q, rfl, q1, rfl, rfl⟩ := zlen_inv hz; exact zg_st hw (cn trivial (fun u hu => hw.2.1 u (List.mem_cons_of_mem _ hu)))))
  case iinc i n =>
    obtain ⟨L, st, H⟩ := S
    split at hz
    · cases hz; exact zg_lo hw hw.2.1 (z_set_ok hw.1 trivial)
    · cases hz
  case l2i =>
    obtain ⟨L, st, H⟩ := S
    split at hz
    · rename_i y r q
      simp only at q
      subst q
      cases hz; exact zg_st hw (cn trivial (fun u hu => hw.2.1 u (List.mem_cons_of_mem _ hu)))
    · cases hz
  case putfield i =>
    obtain ⟨L, v, a, r, H, o, rfl, q1, rfl, rfl⟩ := zput_inv hz
    have hsc : a < H.2.1 ∨ 1000 ≤ a := hw.2.1 (.ref a) (by simp)
    have ha := hw.2.2.2 a (show a < H.2.1 by have := hP.2.1; omega)
    rw [show (L, v :: Value.ref a :: r, H).2.2.1 a = .inr o from q1] at ha
    refine zg_up hw (fun u hu => hw.2.1 u (List.mem_cons_of_mem _ (List.mem_cons_of_mem _ hu))) ⟨ha.1, fun u hu => ?_⟩
    rcases List.mem_or_eq_of_mem_set hu with h | rfl
    · exact ha.2 u h
    · exact hw.2.1 _ List.mem_cons_self
  case bastore =>
    split at hz
    · obtain ⟨L, y, i, a, r, H, t1, N, f, rfl, q1, rfl, rfl⟩ := zast_inv hz; exact zg_up hw (fun u hu => hw.2.1 u (List.mem_cons_of_mem _ (List.mem_cons_of_mem _ (List.mem_cons_of_mem _ hu)))) trivial
    · obtain ⟨L, y, i, a, r, H, t1, N, f, rfl, q1, rfl, rfl⟩ := zast_inv hz; exact zg_up hw (fun u hu => hw.2.1 u (List.mem_cons_of_mem _ (List.mem_cons_of_mem _ (List.mem_cons_of_mem _ hu)))) trivial
  case newarray a =>
    obtain ⟨L, st, h, n, kc, ks⟩ := S
    simp only [znewa] at hz
    split at hz
    · cases hz
      refine zg_new hw hP.2 (fun u hu => hw.2.1 u (List.mem_cons_of_mem _ hu)) ?_
      unfold z_a0
      split <;> trivial
    · cases hz
  case new i =>
    obtain ⟨L, st, h, n, kc, ks⟩ := S
    simp only [znew] at hz
    cases hz
    exact zg_new hw hP.2 hw.2.1 ⟨Nat.lt_trans hP.1 (by decide), fun v hv => z_nf_ok2 _ v hv _⟩
  case dup =>
    obtain ⟨L, st, H⟩ := S
    simp only [zdup] at hz
    split at hz
    · cases hz; exact zg_st hw (cn (hw.2.1 _ List.mem_cons_self) hw.2.1)
    · cases hz
  case pop =>
    obtain ⟨L, st, H⟩ := S
    simp only [zpop] at hz
    split at hz
    · cases hz; exact zg_st hw (fun u hu => hw.2.1 u (List.mem_cons_of_mem _ hu))
    · cases hz
  case pop2 =>
    obtain ⟨L, st, H⟩ := S
    simp only [zpop2] at hz
    split at hz
    · cases hz; exact zg_st hw (fun u hu => hw.2.1 u (List.mem_cons_of_mem _ hu))
    · cases hz
  case dup2 =>
    obtain ⟨L, st, H⟩ := S
    simp only [zdup2] at hz
    split at hz
    · cases hz; exact zg_st hw (cn (hw.2.1 _ List.mem_cons_self) (cn (hw.2.1 _ (List.mem_cons_of_mem _ List.mem_cons_self)) hw.2.1))
    · cases hz
  case invokestatic i =>
    split at hz
    rotate_left
    · obtain ⟨L, st, H⟩ := S
      simp only [zchi] at hz
      split at hz
      · cases hz; exact zg_st hw (fun u hu => hw.2.1 u (List.mem_cons_of_mem _ (List.mem_cons_of_mem _ hu)))
      · cases hz
    · obtain ⟨L, st, H⟩ := S
      simp only [zmxl] at hz
      split at hz
      · cases hz; exact zg_st hw (cn trivial (fun u hu => hw.2.1 u (List.mem_cons_of_mem _ (List.mem_cons_of_mem _ hu))))
      · cases hz
    · obtain ⟨L, st, H⟩ := S
      simp only [zmn] at hz
      split at hz
      · cases hz; exact zg_st hw (cn trivial (fun u hu => hw.2.1 u (List.mem_cons_of_mem _ (List.mem_cons_of_mem _ hu))))
      · cases hz
    · obtain ⟨L, st, H⟩ := S
      simp only [zmx] at hz
      split at hz
      · cases hz; exact zg_st hw (cn trivial (fun u hu => hw.2.1 u (List.mem_cons_of_mem _ (List.mem_cons_of_mem _ hu))))
      · cases hz
    · cases hz
    · obtain ⟨L, st, H⟩ := S
      simp only [zcopy] at hz
      split at hz
      · split at hz
        · cases hz; exact zg_up hw (fun u hu => hw.2.1 u (List.mem_cons_of_mem _ (List.mem_cons_of_mem _ (List.mem_cons_of_mem _ (List.mem_cons_of_mem _ (List.mem_cons_of_mem _ hu)))))) trivial
        · cases hz; exact zg_up hw (fun u hu => hw.2.1 u (List.mem_cons_of_mem _ (List.mem_cons_of_mem _ (List.mem_cons_of_mem _ (List.mem_cons_of_mem _ (List.mem_cons_of_mem _ hu)))))) trivial
        · cases hz
      · cases hz
  case invokespecial i =>
    split at hz
    · obtain ⟨L, st, H⟩ := S
      simp only [zobj] at hz
      split at hz
      · cases hz; exact zg_st hw (fun u hu => hw.2.1 u (List.mem_cons_of_mem _ hu))
      · cases hz
    · cases hz
