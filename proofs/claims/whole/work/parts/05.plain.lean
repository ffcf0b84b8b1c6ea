/-! class names by number; the relation between the two machines; plain instructions -/
def zCnL : List String := [RX0, RX1, RX2, RX3, RX4, RX5, RX6, RX7, RX8, RX9, RX10, RX11, "InnRegisterLaw", "java/lang/Math", "java/lang/Integer", "java/lang/Long", "java/lang/String", "java/lang/StringLatin1", "java/lang/StringUTF16", "java/util/Arrays", "java/lang/Object", "java/lang/Character"]
def zCn (k : Nat) : String := zCnL.getD k ""
def zRl (cA dC : Nat → ClassId) (dI : Nat → Nat → Nat) (B0 : Nat) (s : State) (tr : Nat → Nat) (h : zH) (H : Heap) (locs : List Loc) : Prop := va_P (dC, dI) vwCl (zw cA tr h.1 h.2.1) H ∧ va_D (fun q => B0 ≤ q) (zw cA tr h.1 h.2.1) ∧ va_S (fun q => B0 ≤ q) s.heap H locs
def zCx (p : Program) (s : State) (m : MethodId) (args : Array Value) (c : Code) (R : Room) (cA dC : Nat → ClassId) (dI : Nat → Nat → Nat) (B0 : Nat) (tr0 : Nat → Nat) (own : Nat) (cc : ByteArray) (nL : Nat) : Prop :=
  p.tables.exec = Jvm.exec ∧ c.code = cc ∧ c.maxLocals = nL ∧ s.vm.findClass (zCn own) = some m.cls ∧ (∀ w ∈ zT, w.before args s = true) ∧ zNs s ∧ va_K (dC, dI) vwCl (z_tys cA) s ∧ B0 ≤ s.heap.size ∧ zSt tr0 (fun q => B0 ≤ q) s s.heap ∧ zSr tr0 s ∧ 2 ≤ R.frames ∧ 200 ≤ R.locals
def zGoal (p : Program) (l : Launch) (e : Env) (R : Room) (s : State) (m : MethodId) (args : Array Value) (below : List Frame) (meth : Method) (c : Code) (cA dC : Nat → ClassId) (dI : Nat → Nat → Nat) (B0 : Nat) (tr0 : Nat → Nat) (nL kc0 ks0 n0 : Nat) (Q : State → Prop) (pc : Nat) (S : zS) : Prop :=
  ∀ (tr : Nat → Nat) (H : Heap) (locs : List Loc) (ls : Array Slot), (∀ k, k < n0 ∨ 1000 ≤ k → tr k = tr0 k) → zRl cA dC dI B0 s tr S.2.2 H locs → lv_has ls nL (zl tr S.1) → W p l e R s m args below meth c H locs (S.2.2.2.2.1 - kc0) (S.2.2.2.2.2 - ks0) Q (F0 m pc ls (S.2.1.map (z_v tr)))
theorem zbin_inv {S S' : zS} {P : Int32 → Int32 → Prop} {f : Int32 → Int32 → Int32} {P' : Prop} (h : zbin S P f = some (P', S')) : ∃ L x y r H, S = (L, .int y :: .int x :: r, H) ∧ P' = P x y ∧ S' = (L, .int (f x y) :: r, H) := by
  obtain ⟨L, st, H⟩ := S
  unfold zbin at h
  split at h
  · rename_i y x r q
    cases h
    simp only at q
    subst q
    exact ⟨L, x, y, r, H, rfl, rfl, rfl⟩
  · cases h
theorem zbinl_inv {S S' : zS} {P : Int64 → Int64 → Prop} {f : Int64 → Int64 → Value} {P' : Prop} (h : zbinl S P f = some (P', S')) : ∃ L x y r H, S = (L, .long y :: .long x :: r, H) ∧ P' = P x y ∧ S' = (L, f x y :: r, H) := by
  obtain ⟨L, st, H⟩ := S
  unfold zbinl at h
  split at h
  · rename_i y x r q
    cases h
    simp only at q
    subst q
    exact ⟨L, x, y, r, H, rfl, rfl, rfl⟩
  · cases h
theorem zbinm_inv {S S' : zS} {f : Int64 → Int32 → Int64} {P' : Prop} (h : zbinm S f = some (P', S')) : ∃ L x y r H, S = (L, .int y :: .long x :: r, H) ∧ S' = (L, .long (f x y) :: r, H) := by
  obtain ⟨L, st, H⟩ := S
  unfold zbinm at h
  split at h
  · rename_i y x r q
    cases h
    simp only at q
    subst q
    exact ⟨L, x, y, r, H, rfl, rfl⟩
  · cases h
theorem zun_inv {S S' : zS} {f : Int32 → Value} {P' : Prop} (h : zun S f = some (P', S')) : ∃ L x r H, S = (L, .int x :: r, H) ∧ S' = (L, f x :: r, H) := by
  obtain ⟨L, st, H⟩ := S
  unfold zun at h
  split at h
  · rename_i x r q
    cases h
    simp only at q
    subst q
    exact ⟨L, x, r, H, rfl, rfl⟩
  · cases h
theorem zld_inv0 {S S' : zS} {P' : Prop} {i : Nat} (h : zld S i 0 = some (P', S')) : ∃ L st H y, S = (L, st, H) ∧ L[i]? = some (.int y) ∧ S' = (L, .int y :: st, H) := by
  obtain ⟨L, st, H⟩ := S
  unfold zld at h
  split at h
  · rename_i y q _
    cases h
    exact ⟨L, st, H, y, rfl, q, rfl⟩
  · rename_i q; cases q
  · rename_i q; cases q
  · cases h
theorem zld_inv1 {S S' : zS} {P' : Prop} {i : Nat} (h : zld S i 1 = some (P', S')) : ∃ L st H y, S = (L, st, H) ∧ L[i]? = some (.long y) ∧ S' = (L, .long y :: st, H) := by
  obtain ⟨L, st, H⟩ := S
  unfold zld at h
  split at h
  · rename_i q; cases q
  · rename_i y q _
    cases h
    exact ⟨L, st, H, y, rfl, q, rfl⟩
  · rename_i q; cases q
  · cases h
theorem zld_inv2 {S S' : zS} {P' : Prop} {i : Nat} (h : zld S i 2 = some (P', S')) : ∃ L st H y, S = (L, st, H) ∧ L[i]? = some (.ref y) ∧ S' = (L, .ref y :: st, H) := by
  obtain ⟨L, st, H⟩ := S
  unfold zld at h
  split at h
  · rename_i q; cases q
  · rename_i q; cases q
  · rename_i y q _
    cases h
    exact ⟨L, st, H, y, rfl, q, rfl⟩
  · cases h
theorem zst_inv0 {S S' : zS} {P' : Prop} {i : Nat} (h : zst S i 0 = some (P', S')) : ∃ L y r H, S = (L, .int y :: r, H) ∧ P' = (i < L.length) ∧ S' = (z_set L i (.int y), r, H) := by
  obtain ⟨L, st, H⟩ := S
  unfold zst at h
  split at h
  · rename_i y r q _
    cases h
    simp only at q
    subst q
    exact ⟨L, y, r, H, rfl, rfl, rfl⟩
  · rename_i q; cases q
  · rename_i q; cases q
  · cases h
theorem zst_inv1 {S S' : zS} {P' : Prop} {i : Nat} (h : zst S i 1 = some (P', S')) : ∃ L y r H, S = (L, .long y :: r, H) ∧ P' = (i + 1 < L.length) ∧ S' = (z_set2 L i (.long y), r, H) := by
  obtain ⟨L, st, H⟩ := S
  unfold zst at h
  split at h
  · rename_i q; cases q
  · rename_i y r q _
    cases h
    simp only at q
    subst q
    exact ⟨L, y, r, H, rfl, rfl, rfl⟩
  · rename_i q; cases q
  · cases h
theorem zst_inv2 {S S' : zS} {P' : Prop} {i : Nat} (h : zst S i 2 = some (P', S')) : ∃ L y r H, S = (L, .ref y :: r, H) ∧ P' = (i < L.length) ∧ S' = (z_set L i (.ref y), r, H) := by
  obtain ⟨L, st, H⟩ := S
  unfold zst at h
  split at h
  · rename_i q; cases q
  · rename_i q; cases q
  · rename_i y r q _
    cases h
    simp only at q
    subst q
    exact ⟨L, y, r, H, rfl, rfl, rfl⟩
  · cases h
section ZP
variable {p : Program} {l : Launch} {e : Env} {R : Room} {s : State} {m : MethodId} {args : Array Value} {below : List Frame} {meth : Method} {c : Code} {cA dC : Nat → ClassId} {dI : Nat → Nat → Nat} {B0 : Nat} {tr0 : Nat → Nat} {own nL kc0 ks0 n0 : Nat} {cc : ByteArray} {Q : State → Prop} {pc : Nat} {S S' : zS} {P : Prop} {x : zX}
theorem zs_iadd (X : zCx p s m args c R cA dC dI B0 tr0 own cc nL)  (hd : decode cc pc = .ok (.iadd, 1)) (hz : zplain (.iadd) x S = some (P, S')) (hP : P) (hS : S.1.length ≤ nL) (kk : zGoal p l e R s m args below meth c cA dC dI B0 tr0 nL kc0 ks0 n0 Q (pc + 1) S') : zGoal p l e R s m args below meth c cA dC dI B0 tr0 nL kc0 ks0 n0 Q pc S := by
  obtain ⟨L, a, b, r, H, rfl, -, rfl⟩ := zbin_inv hz
  intro tr Hh locs ls h1 h2 h3
  exact lv_iadd X.1 X.2.1 hd (kk tr Hh locs ls h1 h2 h3)
theorem zs_isub (X : zCx p s m args c R cA dC dI B0 tr0 own cc nL)  (hd : decode cc pc = .ok (.isub, 1)) (hz : zplain (.isub) x S = some (P, S')) (hP : P) (hS : S.1.length ≤ nL) (kk : zGoal p l e R s m args below meth c cA dC dI B0 tr0 nL kc0 ks0 n0 Q (pc + 1) S') : zGoal p l e R s m args below meth c cA dC dI B0 tr0 nL kc0 ks0 n0 Q pc S := by
  obtain ⟨L, a, b, r, H, rfl, -, rfl⟩ := zbin_inv hz
  intro tr Hh locs ls h1 h2 h3
  exact lv_isub X.1 X.2.1 hd (kk tr Hh locs ls h1 h2 h3)
theorem zs_imul (X : zCx p s m args c R cA dC dI B0 tr0 own cc nL)  (hd : decode cc pc = .ok (.imul, 1)) (hz : zplain (.imul) x S = some (P, S')) (hP : P) (hS : S.1.length ≤ nL) (kk : zGoal p l e R s m args below meth c cA dC dI B0 tr0 nL kc0 ks0 n0 Q (pc + 1) S') : zGoal p l e R s m args below meth c cA dC dI B0 tr0 nL kc0 ks0 n0 Q pc S := by
  obtain ⟨L, a, b, r, H, rfl, -, rfl⟩ := zbin_inv hz
  intro tr Hh locs ls h1 h2 h3
  exact lv_imul X.1 X.2.1 hd (kk tr Hh locs ls h1 h2 h3)
theorem zs_iand (X : zCx p s m args c R cA dC dI B0 tr0 own cc nL)  (hd : decode cc pc = .ok (.iand, 1)) (hz : zplain (.iand) x S = some (P, S')) (hP : P) (hS : S.1.length ≤ nL) (kk : zGoal p l e R s m args below meth c cA dC dI B0 tr0 nL kc0 ks0 n0 Q (pc + 1) S') : zGoal p l e R s m args below meth c cA dC dI B0 tr0 nL kc0 ks0 n0 Q pc S := by
  obtain ⟨L, a, b, r, H, rfl, -, rfl⟩ := zbin_inv hz
  intro tr Hh locs ls h1 h2 h3
  exact lv_iand X.1 X.2.1 hd (kk tr Hh locs ls h1 h2 h3)
theorem zs_ior (X : zCx p s m args c R cA dC dI B0 tr0 own cc nL)  (hd : decode cc pc = .ok (.ior, 1)) (hz : zplain (.ior) x S = some (P, S')) (hP : P) (hS : S.1.length ≤ nL) (kk : zGoal p l e R s m args below meth c cA dC dI B0 tr0 nL kc0 ks0 n0 Q (pc + 1) S') : zGoal p l e R s m args below meth c cA dC dI B0 tr0 nL kc0 ks0 n0 Q pc S := by
  obtain ⟨L, a, b, r, H, rfl, -, rfl⟩ := zbin_inv hz
  intro tr Hh locs ls h1 h2 h3
  exact lv_ior X.1 X.2.1 hd (kk tr Hh locs ls h1 h2 h3)
theorem zs_ixor (X : zCx p s m args c R cA dC dI B0 tr0 own cc nL)  (hd : decode cc pc = .ok (.ixor, 1)) (hz : zplain (.ixor) x S = some (P, S')) (hP : P) (hS : S.1.length ≤ nL) (kk : zGoal p l e R s m args below meth c cA dC dI B0 tr0 nL kc0 ks0 n0 Q (pc + 1) S') : zGoal p l e R s m args below meth c cA dC dI B0 tr0 nL kc0 ks0 n0 Q pc S := by
  obtain ⟨L, a, b, r, H, rfl, -, rfl⟩ := zbin_inv hz
  intro tr Hh locs ls h1 h2 h3
  exact lv_ixor X.1 X.2.1 hd (kk tr Hh locs ls h1 h2 h3)
theorem zs_ishl (X : zCx p s m args c R cA dC dI B0 tr0 own cc nL)  (hd : decode cc pc = .ok (.ishl, 1)) (hz : zplain (.ishl) x S = some (P, S')) (hP : P) (hS : S.1.length ≤ nL) (kk : zGoal p l e R s m args below meth c cA dC dI B0 tr0 nL kc0 ks0 n0 Q (pc + 1) S') : zGoal p l e R s m args below meth c cA dC dI B0 tr0 nL kc0 ks0 n0 Q pc S := by
  obtain ⟨L, a, b, r, H, rfl, -, rfl⟩ := zbin_inv hz
  intro tr Hh locs ls h1 h2 h3
  exact lv_ishl X.1 X.2.1 hd (kk tr Hh locs ls h1 h2 h3)
theorem zs_ishr (X : zCx p s m args c R cA dC dI B0 tr0 own cc nL)  (hd : decode cc pc = .ok (.ishr, 1)) (hz : zplain (.ishr) x S = some (P, S')) (hP : P) (hS : S.1.length ≤ nL) (kk : zGoal p l e R s m args below meth c cA dC dI B0 tr0 nL kc0 ks0 n0 Q (pc + 1) S') : zGoal p l e R s m args below meth c cA dC dI B0 tr0 nL kc0 ks0 n0 Q pc S := by
  obtain ⟨L, a, b, r, H, rfl, -, rfl⟩ := zbin_inv hz
  intro tr Hh locs ls h1 h2 h3
  exact lv_ishr X.1 X.2.1 hd (kk tr Hh locs ls h1 h2 h3)
theorem zs_idiv (X : zCx p s m args c R cA dC dI B0 tr0 own cc nL)  (hd : decode cc pc = .ok (.idiv, 1)) (hz : zplain (.idiv) x S = some (P, S')) (hP : P) (hS : S.1.length ≤ nL) (kk : zGoal p l e R s m args below meth c cA dC dI B0 tr0 nL kc0 ks0 n0 Q (pc + 1) S') : zGoal p l e R s m args below meth c cA dC dI B0 tr0 nL kc0 ks0 n0 Q pc S := by
  obtain ⟨L, a, b, r, H, rfl, rfl, rfl⟩ := zbin_inv hz
  intro tr Hh locs ls h1 h2 h3
  exact lv_idiv X.1 X.2.1 hd hP (kk tr Hh locs ls h1 h2 h3)
theorem zs_irem (X : zCx p s m args c R cA dC dI B0 tr0 own cc nL)  (hd : decode cc pc = .ok (.irem, 1)) (hz : zplain (.irem) x S = some (P, S')) (hP : P) (hS : S.1.length ≤ nL) (kk : zGoal p l e R s m args below meth c cA dC dI B0 tr0 nL kc0 ks0 n0 Q (pc + 1) S') : zGoal p l e R s m args below meth c cA dC dI B0 tr0 nL kc0 ks0 n0 Q pc S := by
  obtain ⟨L, a, b, r, H, rfl, rfl, rfl⟩ := zbin_inv hz
  intro tr Hh locs ls h1 h2 h3
  exact lv_irem X.1 X.2.1 hd hP (kk tr Hh locs ls h1 h2 h3)
theorem zs_iushr (X : zCx p s m args c R cA dC dI B0 tr0 own cc nL)  (hd : decode cc pc = .ok (.iushr, 1)) (hz : zplain (.iushr) x S = some (P, S')) (hP : P) (hS : S.1.length ≤ nL) (kk : zGoal p l e R s m args below meth c cA dC dI B0 tr0 nL kc0 ks0 n0 Q (pc + 1) S') : zGoal p l e R s m args below meth c cA dC dI B0 tr0 nL kc0 ks0 n0 Q pc S := by
  obtain ⟨L, a, b, r, H, rfl, -, rfl⟩ := zbin_inv hz
  intro tr Hh locs ls h1 h2 h3
  exact lv_iushr X.1 X.2.1 hd rfl (kk tr Hh locs ls h1 h2 h3)
theorem zs_ladd (X : zCx p s m args c R cA dC dI B0 tr0 own cc nL)  (hd : decode cc pc = .ok (.ladd, 1)) (hz : zplain (.ladd) x S = some (P, S')) (hP : P) (hS : S.1.length ≤ nL) (kk : zGoal p l e R s m args below meth c cA dC dI B0 tr0 nL kc0 ks0 n0 Q (pc + 1) S') : zGoal p l e R s m args below meth c cA dC dI B0 tr0 nL kc0 ks0 n0 Q pc S := by
  obtain ⟨L, a, b, r, H, rfl, -, rfl⟩ := zbinl_inv hz
  intro tr Hh locs ls h1 h2 h3
  exact lv_ladd X.1 X.2.1 hd (kk tr Hh locs ls h1 h2 h3)
theorem zs_lsub (X : zCx p s m args c R cA dC dI B0 tr0 own cc nL)  (hd : decode cc pc = .ok (.lsub, 1)) (hz : zplain (.lsub) x S = some (P, S')) (hP : P) (hS : S.1.length ≤ nL) (kk : zGoal p l e R s m args below meth c cA dC dI B0 tr0 nL kc0 ks0 n0 Q (pc + 1) S') : zGoal p l e R s m args below meth c cA dC dI B0 tr0 nL kc0 ks0 n0 Q pc S := by
  obtain ⟨L, a, b, r, H, rfl, -, rfl⟩ := zbinl_inv hz
  intro tr Hh locs ls h1 h2 h3
  exact lv_lsub X.1 X.2.1 hd (kk tr Hh locs ls h1 h2 h3)
theorem zs_lmul (X : zCx p s m args c R cA dC dI B0 tr0 own cc nL)  (hd : decode cc pc = .ok (.lmul, 1)) (hz : zplain (.lmul) x S = some (P, S')) (hP : P) (hS : S.1.length ≤ nL) (kk : zGoal p l e R s m args below meth c cA dC dI B0 tr0 nL kc0 ks0 n0 Q (pc + 1) S') : zGoal p l e R s m args below meth c cA dC dI B0 tr0 nL kc0 ks0 n0 Q pc S := by
  obtain ⟨L, a, b, r, H, rfl, -, rfl⟩ := zbinl_inv hz
  intro tr Hh locs ls h1 h2 h3
  exact lv_lmul X.1 X.2.1 hd (kk tr Hh locs ls h1 h2 h3)
theorem zs_land (X : zCx p s m args c R cA dC dI B0 tr0 own cc nL)  (hd : decode cc pc = .ok (.land, 1)) (hz : zplain (.land) x S = some (P, S')) (hP : P) (hS : S.1.length ≤ nL) (kk : zGoal p l e R s m args below meth c cA dC dI B0 tr0 nL kc0 ks0 n0 Q (pc + 1) S') : zGoal p l e R s m args below meth c cA dC dI B0 tr0 nL kc0 ks0 n0 Q pc S := by
  obtain ⟨L, a, b, r, H, rfl, -, rfl⟩ := zbinl_inv hz
  intro tr Hh locs ls h1 h2 h3
  exact lv_land X.1 X.2.1 hd (kk tr Hh locs ls h1 h2 h3)
theorem zs_lor (X : zCx p s m args c R cA dC dI B0 tr0 own cc nL)  (hd : decode cc pc = .ok (.lor, 1)) (hz : zplain (.lor) x S = some (P, S')) (hP : P) (hS : S.1.length ≤ nL) (kk : zGoal p l e R s m args below meth c cA dC dI B0 tr0 nL kc0 ks0 n0 Q (pc + 1) S') : zGoal p l e R s m args below meth c cA dC dI B0 tr0 nL kc0 ks0 n0 Q pc S := by
  obtain ⟨L, a, b, r, H, rfl, -, rfl⟩ := zbinl_inv hz
  intro tr Hh locs ls h1 h2 h3
  exact lv_lor X.1 X.2.1 hd (kk tr Hh locs ls h1 h2 h3)
theorem zs_lxor (X : zCx p s m args c R cA dC dI B0 tr0 own cc nL)  (hd : decode cc pc = .ok (.lxor, 1)) (hz : zplain (.lxor) x S = some (P, S')) (hP : P) (hS : S.1.length ≤ nL) (kk : zGoal p l e R s m args below meth c cA dC dI B0 tr0 nL kc0 ks0 n0 Q (pc + 1) S') : zGoal p l e R s m args below meth c cA dC dI B0 tr0 nL kc0 ks0 n0 Q pc S := by
  obtain ⟨L, a, b, r, H, rfl, -, rfl⟩ := zbinl_inv hz
  intro tr Hh locs ls h1 h2 h3
  exact lv_lxor X.1 X.2.1 hd (kk tr Hh locs ls h1 h2 h3)
theorem zs_lcmp (X : zCx p s m args c R cA dC dI B0 tr0 own cc nL)  (hd : decode cc pc = .ok (.lcmp, 1)) (hz : zplain (.lcmp) x S = some (P, S')) (hP : P) (hS : S.1.length ≤ nL) (kk : zGoal p l e R s m args below meth c cA dC dI B0 tr0 nL kc0 ks0 n0 Q (pc + 1) S') : zGoal p l e R s m args below meth c cA dC dI B0 tr0 nL kc0 ks0 n0 Q pc S := by
  obtain ⟨L, a, b, r, H, rfl, -, rfl⟩ := zbinl_inv hz
  intro tr Hh locs ls h1 h2 h3
  exact W.lcmp X.1 X.2.1 hd (kk tr Hh locs ls h1 h2 h3)
theorem zs_ldiv (X : zCx p s m args c R cA dC dI B0 tr0 own cc nL)  (hd : decode cc pc = .ok (.ldiv, 1)) (hz : zplain (.ldiv) x S = some (P, S')) (hP : P) (hS : S.1.length ≤ nL) (kk : zGoal p l e R s m args below meth c cA dC dI B0 tr0 nL kc0 ks0 n0 Q (pc + 1) S') : zGoal p l e R s m args below meth c cA dC dI B0 tr0 nL kc0 ks0 n0 Q pc S := by
  obtain ⟨L, a, b, r, H, rfl, rfl, rfl⟩ := zbinl_inv hz
  intro tr Hh locs ls h1 h2 h3
  exact lv_ldiv X.1 X.2.1 hd hP (kk tr Hh locs ls h1 h2 h3)
theorem zs_lrem (X : zCx p s m args c R cA dC dI B0 tr0 own cc nL)  (hd : decode cc pc = .ok (.lrem, 1)) (hz : zplain (.lrem) x S = some (P, S')) (hP : P) (hS : S.1.length ≤ nL) (kk : zGoal p l e R s m args below meth c cA dC dI B0 tr0 nL kc0 ks0 n0 Q (pc + 1) S') : zGoal p l e R s m args below meth c cA dC dI B0 tr0 nL kc0 ks0 n0 Q pc S := by
  obtain ⟨L, a, b, r, H, rfl, rfl, rfl⟩ := zbinl_inv hz
  intro tr Hh locs ls h1 h2 h3
  exact lv_lrem X.1 X.2.1 hd hP (kk tr Hh locs ls h1 h2 h3)
theorem zs_lshl (X : zCx p s m args c R cA dC dI B0 tr0 own cc nL)  (hd : decode cc pc = .ok (.lshl, 1)) (hz : zplain (.lshl) x S = some (P, S')) (hP : P) (hS : S.1.length ≤ nL) (kk : zGoal p l e R s m args below meth c cA dC dI B0 tr0 nL kc0 ks0 n0 Q (pc + 1) S') : zGoal p l e R s m args below meth c cA dC dI B0 tr0 nL kc0 ks0 n0 Q pc S := by
  obtain ⟨L, a, b, r, H, rfl, rfl⟩ := zbinm_inv hz
  intro tr Hh locs ls h1 h2 h3
  exact lv_lshl X.1 X.2.1 hd rfl (kk tr Hh locs ls h1 h2 h3)
theorem zs_lushr (X : zCx p s m args c R cA dC dI B0 tr0 own cc nL)  (hd : decode cc pc = .ok (.lushr, 1)) (hz : zplain (.lushr) x S = some (P, S')) (hP : P) (hS : S.1.length ≤ nL) (kk : zGoal p l e R s m args below meth c cA dC dI B0 tr0 nL kc0 ks0 n0 Q (pc + 1) S') : zGoal p l e R s m args below meth c cA dC dI B0 tr0 nL kc0 ks0 n0 Q pc S := by
  obtain ⟨L, a, b, r, H, rfl, rfl⟩ := zbinm_inv hz
  intro tr Hh locs ls h1 h2 h3
  exact lv_lushr X.1 X.2.1 hd rfl (kk tr Hh locs ls h1 h2 h3)
theorem zs_ineg (X : zCx p s m args c R cA dC dI B0 tr0 own cc nL)  (hd : decode cc pc = .ok (.ineg, 1)) (hz : zplain (.ineg) x S = some (P, S')) (hP : P) (hS : S.1.length ≤ nL) (kk : zGoal p l e R s m args below meth c cA dC dI B0 tr0 nL kc0 ks0 n0 Q (pc + 1) S') : zGoal p l e R s m args below meth c cA dC dI B0 tr0 nL kc0 ks0 n0 Q pc S := by
  obtain ⟨L, a, r, H, rfl, rfl⟩ := zun_inv hz
  intro tr Hh locs ls h1 h2 h3
  exact lv_ineg X.1 X.2.1 hd (kk tr Hh locs ls h1 h2 h3)
theorem zs_i2l (X : zCx p s m args c R cA dC dI B0 tr0 own cc nL)  (hd : decode cc pc = .ok (.i2l, 1)) (hz : zplain (.i2l) x S = some (P, S')) (hP : P) (hS : S.1.length ≤ nL) (kk : zGoal p l e R s m args below meth c cA dC dI B0 tr0 nL kc0 ks0 n0 Q (pc + 1) S') : zGoal p l e R s m args below meth c cA dC dI B0 tr0 nL kc0 ks0 n0 Q pc S := by
  obtain ⟨L, a, r, H, rfl, rfl⟩ := zun_inv hz
  intro tr Hh locs ls h1 h2 h3
  exact lv_i2l X.1 X.2.1 hd rfl (kk tr Hh locs ls h1 h2 h3)
theorem zs_i2b (X : zCx p s m args c R cA dC dI B0 tr0 own cc nL)  (hd : decode cc pc = .ok (.i2b, 1)) (hz : zplain (.i2b) x S = some (P, S')) (hP : P) (hS : S.1.length ≤ nL) (kk : zGoal p l e R s m args below meth c cA dC dI B0 tr0 nL kc0 ks0 n0 Q (pc + 1) S') : zGoal p l e R s m args below meth c cA dC dI B0 tr0 nL kc0 ks0 n0 Q pc S := by
  obtain ⟨L, a, r, H, rfl, rfl⟩ := zun_inv hz
  intro tr Hh locs ls h1 h2 h3
  exact lv_i2b X.1 X.2.1 hd rfl (kk tr Hh locs ls h1 h2 h3)
theorem zs_i2s (X : zCx p s m args c R cA dC dI B0 tr0 own cc nL)  (hd : decode cc pc = .ok (.i2s, 1)) (hz : zplain (.i2s) x S = some (P, S')) (hP : P) (hS : S.1.length ≤ nL) (kk : zGoal p l e R s m args below meth c cA dC dI B0 tr0 nL kc0 ks0 n0 Q (pc + 1) S') : zGoal p l e R s m args below meth c cA dC dI B0 tr0 nL kc0 ks0 n0 Q pc S := by
  obtain ⟨L, a, r, H, rfl, rfl⟩ := zun_inv hz
  intro tr Hh locs ls h1 h2 h3
  exact lv_i2s X.1 X.2.1 hd rfl (kk tr Hh locs ls h1 h2 h3)
theorem zs_i2c (X : zCx p s m args c R cA dC dI B0 tr0 own cc nL)  (hd : decode cc pc = .ok (.i2c, 1)) (hz : zplain (.i2c) x S = some (P, S')) (hP : P) (hS : S.1.length ≤ nL) (kk : zGoal p l e R s m args below meth c cA dC dI B0 tr0 nL kc0 ks0 n0 Q (pc + 1) S') : zGoal p l e R s m args below meth c cA dC dI B0 tr0 nL kc0 ks0 n0 Q pc S := by
  obtain ⟨L, a, r, H, rfl, rfl⟩ := zun_inv hz
  intro tr Hh locs ls h1 h2 h3
  exact lv_i2c X.1 X.2.1 hd rfl (kk tr Hh locs ls h1 h2 h3)
theorem zs_l2i (X : zCx p s m args c R cA dC dI B0 tr0 own cc nL)  (hd : decode cc pc = .ok (.l2i, 1)) (hz : zplain (.l2i) x S = some (P, S')) (hP : P) (hS : S.1.length ≤ nL) (kk : zGoal p l e R s m args below meth c cA dC dI B0 tr0 nL kc0 ks0 n0 Q (pc + 1) S') : zGoal p l e R s m args below meth c cA dC dI B0 tr0 nL kc0 ks0 n0 Q pc S := by
  obtain ⟨L, st, H⟩ := S
  simp only [zplain] at hz
  split at hz
  · rename_i a r
    cases hz
    intro tr Hh locs ls h1 h2 h3
    exact lv_l2i X.1 X.2.1 hd rfl (kk tr Hh locs ls h1 h2 h3)
  · cases hz
theorem zs_iload (X : zCx p s m args c R cA dC dI B0 tr0 own cc nL) {i : Nat} (hd : decode cc pc = .ok (.iload i, 2)) (hz : zplain (.iload i) x S = some (P, S')) (hP : P) (hS : S.1.length ≤ nL) (kk : zGoal p l e R s m args below meth c cA dC dI B0 tr0 nL kc0 ks0 n0 Q (pc + 2) S') : zGoal p l e R s m args below meth c cA dC dI B0 tr0 nL kc0 ks0 n0 Q pc S := by
  obtain ⟨L, st, H, y, rfl, q, rfl⟩ := zld_inv0 hz
  intro tr Hh locs ls h1 h2 h3
  exact lv_iload X.1 X.2.1 hd (zl_at h3 q (by simp)) (kk tr Hh locs ls h1 h2 h3)
theorem zs_iload_n (X : zCx p s m args c R cA dC dI B0 tr0 own cc nL) {i : Fin 4} (hd : decode cc pc = .ok (.iload_n i, 1)) (hz : zplain (.iload_n i) x S = some (P, S')) (hP : P) (hS : S.1.length ≤ nL) (kk : zGoal p l e R s m args below meth c cA dC dI B0 tr0 nL kc0 ks0 n0 Q (pc + 1) S') : zGoal p l e R s m args below meth c cA dC dI B0 tr0 nL kc0 ks0 n0 Q pc S := by
  obtain ⟨L, st, H, y, rfl, q, rfl⟩ := zld_inv0 hz
  intro tr Hh locs ls h1 h2 h3
  exact lv_iload_n X.1 X.2.1 hd rfl (zl_at h3 q (by simp)) (kk tr Hh locs ls h1 h2 h3)
theorem zs_istore (X : zCx p s m args c R cA dC dI B0 tr0 own cc nL) {i : Nat} (hd : decode cc pc = .ok (.istore i, 2)) (hz : zplain (.istore i) x S = some (P, S')) (hP : P) (hS : S.1.length ≤ nL) (kk : zGoal p l e R s m args below meth c cA dC dI B0 tr0 nL kc0 ks0 n0 Q (pc + 2) S') : zGoal p l e R s m args below meth c cA dC dI B0 tr0 nL kc0 ks0 n0 Q pc S := by
  obtain ⟨L, y, r, H, rfl, rfl, rfl⟩ := zst_inv0 hz
  intro tr Hh locs ls h1 h2 h3
  exact lv_istore X.1 X.2.1 hd h3 (Nat.lt_of_lt_of_le hP hS) rfl (fun ls' h' => kk tr Hh locs ls' h1 h2 (zl_sub h' zl_set))
theorem zs_istore_n (X : zCx p s m args c R cA dC dI B0 tr0 own cc nL) {i : Fin 4} (hd : decode cc pc = .ok (.istore_n i, 1)) (hz : zplain (.istore_n i) x S = some (P, S')) (hP : P) (hS : S.1.length ≤ nL) (kk : zGoal p l e R s m args below meth c cA dC dI B0 tr0 nL kc0 ks0 n0 Q (pc + 1) S') : zGoal p l e R s m args below meth c cA dC dI B0 tr0 nL kc0 ks0 n0 Q pc S := by
  obtain ⟨L, y, r, H, rfl, rfl, rfl⟩ := zst_inv0 hz
  intro tr Hh locs ls h1 h2 h3
  exact lv_istore_n X.1 X.2.1 hd rfl h3 (Nat.lt_of_lt_of_le hP hS) rfl (fun ls' h' => kk tr Hh locs ls' h1 h2 (zl_sub h' zl_set))
theorem zs_lload (X : zCx p s m args c R cA dC dI B0 tr0 own cc nL) {i : Nat} (hd : decode cc pc = .ok (.lload i, 2)) (hz : zplain (.lload i) x S = some (P, S')) (hP : P) (hS : S.1.length ≤ nL) (kk : zGoal p l e R s m args below meth c cA dC dI B0 tr0 nL kc0 ks0 n0 Q (pc + 2) S') : zGoal p l e R s m args below meth c cA dC dI B0 tr0 nL kc0 ks0 n0 Q pc S := by
  obtain ⟨L, st, H, y, rfl, q, rfl⟩ := zld_inv1 hz
  intro tr Hh locs ls h1 h2 h3
  exact lv_lload X.1 X.2.1 hd (zl_at h3 q (by simp)) (kk tr Hh locs ls h1 h2 h3)
theorem zs_lload_n (X : zCx p s m args c R cA dC dI B0 tr0 own cc nL) {i : Fin 4} (hd : decode cc pc = .ok (.lload_n i, 1)) (hz : zplain (.lload_n i) x S = some (P, S')) (hP : P) (hS : S.1.length ≤ nL) (kk : zGoal p l e R s m args below meth c cA dC dI B0 tr0 nL kc0 ks0 n0 Q (pc + 1) S') : zGoal p l e R s m args below meth c cA dC dI B0 tr0 nL kc0 ks0 n0 Q pc S := by
  obtain ⟨L, st, H, y, rfl, q, rfl⟩ := zld_inv1 hz
  intro tr Hh locs ls h1 h2 h3
  exact lv_lload_n X.1 X.2.1 hd rfl (zl_at h3 q (by simp)) (kk tr Hh locs ls h1 h2 h3)
theorem zs_lstore (X : zCx p s m args c R cA dC dI B0 tr0 own cc nL) {i : Nat} (hd : decode cc pc = .ok (.lstore i, 2)) (hz : zplain (.lstore i) x S = some (P, S')) (hP : P) (hS : S.1.length ≤ nL) (kk : zGoal p l e R s m args below meth c cA dC dI B0 tr0 nL kc0 ks0 n0 Q (pc + 2) S') : zGoal p l e R s m args below meth c cA dC dI B0 tr0 nL kc0 ks0 n0 Q pc S := by
  obtain ⟨L, y, r, H, rfl, rfl, rfl⟩ := zst_inv1 hz
  intro tr Hh locs ls h1 h2 h3
  exact lv_lstore X.1 X.2.1 hd h3 (Nat.lt_of_lt_of_le hP hS) rfl (fun ls' h' => kk tr Hh locs ls' h1 h2 (zl_sub h' zl_set2))
theorem zs_lstore_n (X : zCx p s m args c R cA dC dI B0 tr0 own cc nL) {i : Fin 4} (hd : decode cc pc = .ok (.lstore_n i, 1)) (hz : zplain (.lstore_n i) x S = some (P, S')) (hP : P) (hS : S.1.length ≤ nL) (kk : zGoal p l e R s m args below meth c cA dC dI B0 tr0 nL kc0 ks0 n0 Q (pc + 1) S') : zGoal p l e R s m args below meth c cA dC dI B0 tr0 nL kc0 ks0 n0 Q pc S := by
  obtain ⟨L, y, r, H, rfl, rfl, rfl⟩ := zst_inv1 hz
  intro tr Hh locs ls h1 h2 h3
  exact lv_lstore_n X.1 X.2.1 hd rfl h3 (Nat.lt_of_lt_of_le hP hS) rfl (fun ls' h' => kk tr Hh locs ls' h1 h2 (zl_sub h' zl_set2))
theorem zs_aload (X : zCx p s m args c R cA dC dI B0 tr0 own cc nL) {i : Nat} (hd : decode cc pc = .ok (.aload i, 2)) (hz : zplain (.aload i) x S = some (P, S')) (hP : P) (hS : S.1.length ≤ nL) (kk : zGoal p l e R s m args below meth c cA dC dI B0 tr0 nL kc0 ks0 n0 Q (pc + 2) S') : zGoal p l e R s m args below meth c cA dC dI B0 tr0 nL kc0 ks0 n0 Q pc S := by
  obtain ⟨L, st, H, y, rfl, q, rfl⟩ := zld_inv2 hz
  intro tr Hh locs ls h1 h2 h3
  exact lv_aload X.1 X.2.1 hd (zl_at h3 q (by simp)) (kk tr Hh locs ls h1 h2 h3)
theorem zs_aload_n (X : zCx p s m args c R cA dC dI B0 tr0 own cc nL) {i : Fin 4} (hd : decode cc pc = .ok (.aload_n i, 1)) (hz : zplain (.aload_n i) x S = some (P, S')) (hP : P) (hS : S.1.length ≤ nL) (kk : zGoal p l e R s m args below meth c cA dC dI B0 tr0 nL kc0 ks0 n0 Q (pc + 1) S') : zGoal p l e R s m args below meth c cA dC dI B0 tr0 nL kc0 ks0 n0 Q pc S := by
  obtain ⟨L, st, H, y, rfl, q, rfl⟩ := zld_inv2 hz
  intro tr Hh locs ls h1 h2 h3
  exact lv_aload_n X.1 X.2.1 hd rfl (zl_at h3 q (by simp)) (kk tr Hh locs ls h1 h2 h3)
theorem zs_astore (X : zCx p s m args c R cA dC dI B0 tr0 own cc nL) {i : Nat} (hd : decode cc pc = .ok (.astore i, 2)) (hz : zplain (.astore i) x S = some (P, S')) (hP : P) (hS : S.1.length ≤ nL) (kk : zGoal p l e R s m args below meth c cA dC dI B0 tr0 nL kc0 ks0 n0 Q (pc + 2) S') : zGoal p l e R s m args below meth c cA dC dI B0 tr0 nL kc0 ks0 n0 Q pc S := by
  obtain ⟨L, y, r, H, rfl, rfl, rfl⟩ := zst_inv2 hz
  intro tr Hh locs ls h1 h2 h3
  exact lv_astore X.1 X.2.1 hd h3 (Nat.lt_of_lt_of_le hP hS) rfl (fun ls' h' => kk tr Hh locs ls' h1 h2 (zl_sub h' zl_set))
theorem zs_astore_n (X : zCx p s m args c R cA dC dI B0 tr0 own cc nL) {i : Fin 4} (hd : decode cc pc = .ok (.astore_n i, 1)) (hz : zplain (.astore_n i) x S = some (P, S')) (hP : P) (hS : S.1.length ≤ nL) (kk : zGoal p l e R s m args below meth c cA dC dI B0 tr0 nL kc0 ks0 n0 Q (pc + 1) S') : zGoal p l e R s m args below meth c cA dC dI B0 tr0 nL kc0 ks0 n0 Q pc S := by
  obtain ⟨L, y, r, H, rfl, rfl, rfl⟩ := zst_inv2 hz
  intro tr Hh locs ls h1 h2 h3
  exact lv_astore_n X.1 X.2.1 hd rfl h3 (Nat.lt_of_lt_of_le hP hS) rfl (fun ls' h' => kk tr Hh locs ls' h1 h2 (zl_sub h' zl_set))
theorem zs_iinc (X : zCx p s m args c R cA dC dI B0 tr0 own cc nL) {i : Nat} {n : Int} (hx : x.2.2.2.1 = .int (Int32.ofInt n)) (hd : decode cc pc = .ok (.iinc i n, 3)) (hz : zplain (.iinc i n) x S = some (P, S')) (hP : P) (hS : S.1.length ≤ nL) (kk : zGoal p l e R s m args below meth c cA dC dI B0 tr0 nL kc0 ks0 n0 Q (pc + 3) S') : zGoal p l e R s m args below meth c cA dC dI B0 tr0 nL kc0 ks0 n0 Q pc S := by
  obtain ⟨L, st, H⟩ := S
  simp only [zplain, hx] at hz
  split at hz
  · rename_i y k q q2
    cases q2
    cases hz
    intro tr Hh locs ls h1 h2 h3
    obtain ⟨j, hj⟩ := List.getElem?_of_mem (zl_mem.mpr ⟨_, q, by simp, rfl⟩ : (i, z_v tr (.int y)) ∈ zl tr L)
    exact lv_iinc X.1 X.2.1 hd h3 hj rfl (Nat.lt_of_lt_of_le hP hS) rfl (fun ls' h' => kk tr Hh locs ls' h1 h2 (zl_sub h' zl_set))
  · cases hz
theorem zs_iconst (X : zCx p s m args c R cA dC dI B0 tr0 own cc nL) {n : Int} (hx : x.2.2.2.1 = .int (Int32.ofInt n)) (hd : decode cc pc = .ok (.iconst n, 1)) (hz : zplain (.iconst n) x S = some (P, S')) (hP : P) (hS : S.1.length ≤ nL) (kk : zGoal p l e R s m args below meth c cA dC dI B0 tr0 nL kc0 ks0 n0 Q (pc + 1) S') : zGoal p l e R s m args below meth c cA dC dI B0 tr0 nL kc0 ks0 n0 Q pc S := by
  obtain ⟨L, st, H⟩ := S
  simp only [zplain, zpu, hx] at hz
  cases hz
  intro tr Hh locs ls h1 h2 h3
  exact lv_iconst X.1 X.2.1 hd rfl (kk tr Hh locs ls h1 h2 h3)
theorem zs_bipush (X : zCx p s m args c R cA dC dI B0 tr0 own cc nL) {n : Int} (hx : x.2.2.2.1 = .int ((Int8.ofInt n).toInt32)) (hd : decode cc pc = .ok (.bipush n, 2)) (hz : zplain (.bipush n) x S = some (P, S')) (hP : P) (hS : S.1.length ≤ nL) (kk : zGoal p l e R s m args below meth c cA dC dI B0 tr0 nL kc0 ks0 n0 Q (pc + 2) S') : zGoal p l e R s m args below meth c cA dC dI B0 tr0 nL kc0 ks0 n0 Q pc S := by
  obtain ⟨L, st, H⟩ := S
  simp only [zplain, zpu, hx] at hz
  cases hz
  intro tr Hh locs ls h1 h2 h3
  exact lv_bipush X.1 X.2.1 hd rfl (kk tr Hh locs ls h1 h2 h3)
theorem zs_sipush (X : zCx p s m args c R cA dC dI B0 tr0 own cc nL) {n : Int} (hx : x.2.2.2.1 = .int ((Int16.ofInt n).toInt32)) (hd : decode cc pc = .ok (.sipush n, 3)) (hz : zplain (.sipush n) x S = some (P, S')) (hP : P) (hS : S.1.length ≤ nL) (kk : zGoal p l e R s m args below meth c cA dC dI B0 tr0 nL kc0 ks0 n0 Q (pc + 3) S') : zGoal p l e R s m args below meth c cA dC dI B0 tr0 nL kc0 ks0 n0 Q pc S := by
  obtain ⟨L, st, H⟩ := S
  simp only [zplain, zpu, hx] at hz
  cases hz
  intro tr Hh locs ls h1 h2 h3
  exact lv_sipush X.1 X.2.1 hd rfl (kk tr Hh locs ls h1 h2 h3)
theorem zs_lconst (X : zCx p s m args c R cA dC dI B0 tr0 own cc nL) {n : Fin 2} (hx : x.2.2.2.1 = .long (Int64.ofNat (n : Nat))) (hd : decode cc pc = .ok (.lconst n, 1)) (hz : zplain (.lconst n) x S = some (P, S')) (hP : P) (hS : S.1.length ≤ nL) (kk : zGoal p l e R s m args below meth c cA dC dI B0 tr0 nL kc0 ks0 n0 Q (pc + 1) S') : zGoal p l e R s m args below meth c cA dC dI B0 tr0 nL kc0 ks0 n0 Q pc S := by
  obtain ⟨L, st, H⟩ := S
  simp only [zplain, zpu, hx] at hz
  cases hz
  intro tr Hh locs ls h1 h2 h3
  exact lv_lconst X.1 X.2.1 hd rfl (kk tr Hh locs ls h1 h2 h3)
theorem zs_ldci (X : zCx p s m args c R cA dC dI B0 tr0 own cc nL) {n : Nat} {k : Int32} (hx : x.2.2.2.1 = .int k) (hk : Cond.constant (zCn own) n k ∈ zT) (hd : decode cc pc = .ok (.ldc n, 2)) (hz : zplain (.ldc n) x S = some (P, S')) (hP : P) (hS : S.1.length ≤ nL) (kk : zGoal p l e R s m args below meth c cA dC dI B0 tr0 nL kc0 ks0 n0 Q (pc + 2) S') : zGoal p l e R s m args below meth c cA dC dI B0 tr0 nL kc0 ks0 n0 Q pc S := by
  obtain ⟨L, st, H⟩ := S
  simp only [zplain, zpu, hx] at hz
  cases hz
  intro tr Hh locs ls h1 h2 h3
  exact lv_ldc X.1 X.2.1 X.2.2.2.1 (X.2.2.2.2.1 _ hk) hd (kk tr Hh locs ls h1 h2 h3)
theorem zs_ldcw (X : zCx p s m args c R cA dC dI B0 tr0 own cc nL) {n : Nat} {k : Int32} (hx : x.2.2.2.1 = .int k) (hk : Cond.constant (zCn own) n k ∈ zT) (hd : decode cc pc = .ok (.ldc_w n, 3)) (hz : zplain (.ldc_w n) x S = some (P, S')) (hP : P) (hS : S.1.length ≤ nL) (kk : zGoal p l e R s m args below meth c cA dC dI B0 tr0 nL kc0 ks0 n0 Q (pc + 3) S') : zGoal p l e R s m args below meth c cA dC dI B0 tr0 nL kc0 ks0 n0 Q pc S := by
  obtain ⟨L, st, H⟩ := S
  simp only [zplain, zpu, hx] at hz
  cases hz
  intro tr Hh locs ls h1 h2 h3
  exact lv_ldcw X.1 X.2.1 X.2.2.2.1 (X.2.2.2.2.1 _ hk) hd (kk tr Hh locs ls h1 h2 h3)
theorem zs_ldc2 (X : zCx p s m args c R cA dC dI B0 tr0 own cc nL) {n : Nat} {k : Int64} (hx : x.2.2.2.1 = .long k) (hk : Cond.constantLong (zCn own) n k ∈ zT) (hd : decode cc pc = .ok (.ldc2_w n, 3)) (hz : zplain (.ldc2_w n) x S = some (P, S')) (hP : P) (hS : S.1.length ≤ nL) (kk : zGoal p l e R s m args below meth c cA dC dI B0 tr0 nL kc0 ks0 n0 Q (pc + 3) S') : zGoal p l e R s m args below meth c cA dC dI B0 tr0 nL kc0 ks0 n0 Q pc S := by
  obtain ⟨L, st, H⟩ := S
  simp only [zplain, zpu, hx] at hz
  cases hz
  intro tr Hh locs ls h1 h2 h3
  exact lv_ldc2 X.1 X.2.1 X.2.2.2.1 (X.2.2.2.2.1 _ hk) hd (kk tr Hh locs ls h1 h2 h3)
theorem zs_dup (X : zCx p s m args c R cA dC dI B0 tr0 own cc nL)  (hd : decode cc pc = .ok (.dup, 1)) (hz : zplain (.dup) x S = some (P, S')) (hP : P) (hS : S.1.length ≤ nL) (kk : zGoal p l e R s m args below meth c cA dC dI B0 tr0 nL kc0 ks0 n0 Q (pc + 1) S') : zGoal p l e R s m args below meth c cA dC dI B0 tr0 nL kc0 ks0 n0 Q pc S := by
  obtain ⟨L, st, H⟩ := S
  simp only [zplain, zdup] at hz
  split at hz
  · rename_i v r
    cases hz
    intro tr Hh locs ls h1 h2 h3
    exact lv_dup X.1 X.2.1 hd (by rw [z_v_cat]; exact hP) (kk tr Hh locs ls h1 h2 h3)
  · cases hz
theorem zs_pop (X : zCx p s m args c R cA dC dI B0 tr0 own cc nL)  (hd : decode cc pc = .ok (.pop, 1)) (hz : zplain (.pop) x S = some (P, S')) (hP : P) (hS : S.1.length ≤ nL) (kk : zGoal p l e R s m args below meth c cA dC dI B0 tr0 nL kc0 ks0 n0 Q (pc + 1) S') : zGoal p l e R s m args below meth c cA dC dI B0 tr0 nL kc0 ks0 n0 Q pc S := by
  obtain ⟨L, st, H⟩ := S
  simp only [zplain, zpop] at hz
  split at hz
  · rename_i v r
    cases hz
    intro tr Hh locs ls h1 h2 h3
    exact lv_pop X.1 X.2.1 hd (by rw [z_v_cat]; exact hP) (kk tr Hh locs ls h1 h2 h3)
  · cases hz
theorem zs_pop2 (X : zCx p s m args c R cA dC dI B0 tr0 own cc nL)  (hd : decode cc pc = .ok (.pop2, 1)) (hz : zplain (.pop2) x S = some (P, S')) (hP : P) (hS : S.1.length ≤ nL) (kk : zGoal p l e R s m args below meth c cA dC dI B0 tr0 nL kc0 ks0 n0 Q (pc + 1) S') : zGoal p l e R s m args below meth c cA dC dI B0 tr0 nL kc0 ks0 n0 Q pc S := by
  obtain ⟨L, st, H⟩ := S
  simp only [zplain, zpop2] at hz
  split at hz
  · rename_i v r
    cases hz
    intro tr Hh locs ls h1 h2 h3
    exact lv_pop2_2 X.1 X.2.1 hd (by rw [z_v_cat]; exact hP) (kk tr Hh locs ls h1 h2 h3)
  · cases hz
theorem zs_dup2 (X : zCx p s m args c R cA dC dI B0 tr0 own cc nL)  (hd : decode cc pc = .ok (.dup2, 1)) (hz : zplain (.dup2) x S = some (P, S')) (hP : P) (hS : S.1.length ≤ nL) (kk : zGoal p l e R s m args below meth c cA dC dI B0 tr0 nL kc0 ks0 n0 Q (pc + 1) S') : zGoal p l e R s m args below meth c cA dC dI B0 tr0 nL kc0 ks0 n0 Q pc S := by
  obtain ⟨L, st, H⟩ := S
  simp only [zplain, zdup2] at hz
  split at hz
  · rename_i v w r
    cases hz
    intro tr Hh locs ls h1 h2 h3
    exact lv_dup2_11 X.1 X.2.1 hd (by rw [z_v_cat]; exact hP.1) (by rw [z_v_cat]; exact hP.2) (kk tr Hh locs ls h1 h2 h3)
  · cases hz
end ZP
