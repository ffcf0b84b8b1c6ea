/-! what a row of a method's code must keep to -/
def zCls (ci : Nat) : String := if ci = 200 then "java/lang/String" else zCn ci
def zMl (own i : Nat) (y : MethodName) : Prop := Cond.methodLink (zCn own) i y ∈ zT ∨ ∃ host, Cond.methodLinkNest (zCn own) i y host ∈ zN
def zPn (y : MethodName) : Option Nat := (parseMethodDescriptor y.desc).map (fun d => d.parameters.length)
def zswT (pc lo : Int) (l : List Int) : List (Int × Nat) := match l with
  | [] => []
  | o :: r => (lo, (pc + o).toNat) :: zswT pc (lo + 1) r
def zck (Ms : List zM) (own : Nat) (ini : Prop) (I : Instr) (x : zX) (pc len : Nat) : Prop := match I with
  | .iconst n => len = 1 ∧ x.2.2.2.1 = .int (Int32.ofInt n)
  | .bipush n => len = 2 ∧ x.2.2.2.1 = .int (Int8.ofInt n).toInt32
  | .sipush n => len = 3 ∧ x.2.2.2.1 = .int (Int16.ofInt n).toInt32
  | .lconst n => len = 1 ∧ x.2.2.2.1 = .long (Int64.ofNat (n : Nat))
  | .ldc i => len = 2 ∧ ((∃ k, x.2.2.2.1 = .int k ∧ Cond.constant (zCn own) i k ∈ zT) ∨ ∃ (tx : String) (a : Nat), x.2.2.2.1 = .ref a ∧ (zCn own, i, tx, a) ∈ z_strs)
  | .ldc_w i => len = 3 ∧ ∃ k, x.2.2.2.1 = .int k ∧ Cond.constant (zCn own) i k ∈ zT
  | .ldc2_w i => len = 3 ∧ ∃ k, x.2.2.2.1 = .long k ∧ Cond.constantLong (zCn own) i k ∈ zT
  | .getstatic i => len = 3 ∧ ∃ C n d, ((x.2.2.2.1 = .ref 1000 ∧ C = "InnRegister" ∧ n = "POWER" ∧ d = "[I") ∨ (x.2.2.2.1 = .int 1 ∧ C = "java/lang/String" ∧ n = "COMPACT_STRINGS" ∧ d = "Z")) ∧ (Cond.fieldLink (zCn own) i C n d ∈ zT ∨ ∃ host, Cond.fieldLinkNest (zCn own) i C n d host ∈ zN)
  | .iload _ => len = 2
  | .lload _ => len = 2
  | .aload _ => len = 2
  | .istore _ => len = 2
  | .lstore _ => len = 2
  | .astore _ => len = 2
  | .iinc _ n => len = 3 ∧ x.2.2.2.1 = .int (Int32.ofInt n)
  | .getfield i => len = 3 ∧ ((∃ C T N, vwCl[x.2.1]? = some (C, T, N) ∧ x.2.2.1 < N ∧ zFk own i T x.2.2.1) ∨ (x.2.1 = 200 ∧ ((x.2.2.1 = 0 ∧ Cond.fieldLink (zCn own) i "java/lang/String" "value" "[B" ∈ zT) ∨ (x.2.2.1 = 1 ∧ Cond.fieldLink (zCn own) i "java/lang/String" "coder" "B" ∈ zT))))
  | .putfield i => len = 3 ∧ ∃ C T N ty, vwCl[x.2.1]? = some (C, T, N) ∧ x.2.2.1 < N ∧ x.1 = zkd ty ∧ parseFieldDescriptor (T x.2.2.1).2.2.1 = some ty ∧ (((T x.2.2.1).2.2.2 = false ∧ zFk own i T x.2.2.1) ∨ ((T x.2.2.1).2.2.2 = true ∧ ini ∧ (T x.2.2.1).1 = zCn own ∧ Cond.fieldLink (zCn own) i (T x.2.2.1).1 (T x.2.2.1).2.1 (T x.2.2.1).2.2.1 ∈ zT))
  | .baload => len = 1 ∧ (x.2.1 = 2 ∨ x.2.1 = 4)
  | .bastore => len = 1 ∧ (x.2.1 = 2 ∨ x.2.1 = 4)
  | .newarray a => len = 2 ∧ x.2.1 ≤ 4 ∧ newarray.typeOf a = z_ty x.2.1 ∧ Cond.arrayClass (z_ty x.2.1) ∈ zT
  | .new i => len = 3 ∧ ∃ C T N, vwCl[x.2.1]? = some (C, T, N) ∧ Cond.classLink (zCn own) i C ∈ zT ∧ Cond.instantiable C N ∈ zT ∧ Cond.initialized C ∈ zT
  | .invokestatic i => len = 3 ∧ ((x.1 = 999 ∧ Cond.methodLink (zCn own) i arraycopyName ∈ zT ∧ Cond.native arraycopyName ∈ zT ∧ Cond.static arraycopyName ∈ zT ∧ Cond.initialized "java/lang/System" ∈ zT) ∨ (x.1 = 997 ∧ Cond.methodLink (zCn own) i y_ci ∈ zT) ∨ (x.1 = 994 ∧ Cond.methodLink (zCn own) i Lib.Math.max.name ∈ zT ∧ Cond.static Lib.Math.max.name ∈ zT ∧ Cond.initialized "java/lang/Math" ∈ zT ∧ Cond.code Lib.Math.max.name Lib.Math.max.code 2 (some .int) ∈ zT) ∨ (x.1 = 995 ∧ Cond.methodLink (zCn own) i Lib.Math.min.name ∈ zT ∧ Cond.static Lib.Math.min.name ∈ zT ∧ Cond.initialized "java/lang/Math" ∈ zT ∧ Cond.code Lib.Math.min.name Lib.Math.min.code 2 (some .int) ∈ zT) ∨ (x.1 = 996 ∧ Cond.methodLink (zCn own) i Lib.MathLoose.max_long.x ∈ zT ∧ Cond.static Lib.MathLoose.max_long.x ∈ zT ∧ Cond.initialized "java/lang/Math" ∈ zT ∧ Cond.code Lib.MathLoose.max_long.x Lib.MathLoose.max_long.code 4 (some .long) ∈ zT) ∨ (x.1 < 900 ∧ ∃ M, Ms[x.1]? = some M ∧ zMl own i M.1 ∧ Cond.static M.1 ∈ zT ∧ zPn M.1 = some x.2.1))
  | .invokespecial i => len = 3 ∧ ((x.1 = 998 ∧ Cond.methodLink (zCn own) i Lib.objectInit ∈ zT ∧ Cond.instanceMethod Lib.objectInit ∈ zT ∧ Cond.code Lib.objectInit ⟨#[0xb1]⟩ 1 none ∈ zT) ∨ (x.1 ≠ 998 ∧ ∃ M k, Ms[x.1]? = some M ∧ x.2.1 = k + 1 ∧ zMl own i M.1 ∧ Cond.instanceMethod M.1 ∈ zT ∧ M.1.name = "<init>" ∧ M.2.2.2.2.1 = none ∧ zPn M.1 = some k))
  | .invokevirtual i => len = 3 ∧ ∃ M k, Ms[x.1]? = some M ∧ x.2.1 = k + 1 ∧ zMl own i M.1 ∧ Cond.instanceMethod M.1 ∈ zT ∧ Cond.selects (zCls x.2.2.1) M.1 M.1 ∈ zT ∧ M.1.cls = zCls x.2.2.1 ∧ (x.2.2.1 < 12 ∨ x.2.2.1 = 200) ∧ zPn M.1 = some k
  | .goto off => len = 3 ∧ (pc : Int) + off = (x.1 : Int)
  | .ifCond _ off => len = 3 ∧ (pc : Int) + off = (x.1 : Int)
  | .if_icmp _ off => len = 3 ∧ (pc : Int) + off = (x.1 : Int)
  | .tableswitch d lo hi offs => (pc : Int) + d = (x.1 : Int) ∧ x.2.2.2.2 = zswT pc lo offs.toList ∧ (∀ o ∈ offs.toList, 0 ≤ (pc : Int) + o) ∧ hi = lo + offs.toList.length - 1
  | .lookupswitch d ps => (pc : Int) + d = (x.1 : Int) ∧ x.2.2.2.2 = ps.toList.map (fun q => (q.1, ((pc : Int) + q.2).toNat)) ∧ (∀ q ∈ ps.toList, 0 ≤ (pc : Int) + q.2) ∧ (ps.toList.zip (ps.toList.drop 1)).all (fun (a, next) => a.1 < next.1) = true
  | _ => len = 1
theorem zswT_at (pc : Int) (a : Int32) (d : Nat) : ∀ (l : List Int) (lo : Int), (∀ o ∈ l, 0 ≤ pc + o) → ((a.toInt < lo ∨ lo + l.length - 1 < a.toInt) → zsw (zswT pc lo l) a d = d) ∧ (¬ a.toInt < lo → ¬ lo + l.length - 1 < a.toInt → ∃ o, l[(a.toInt - lo).toNat]? = some o ∧ pc + o = (zsw (zswT pc lo l) a d : Int)) := by
  intro l
  induction l with
  | nil => intro lo _; exact ⟨fun _ => rfl, fun h1 h2 => by simp only [List.length_nil] at h2; omega⟩
  | cons o r ih =>
    intro lo h
    obtain ⟨i1, i2⟩ := ih (lo + 1) (fun q hq => h q (List.mem_cons_of_mem _ hq))
    simp only [List.length_cons] at i1 i2 ⊢
    by_cases e : a.toInt = lo
    · refine ⟨fun q => by omega, fun _ _ => ⟨o, by rw [e]; simp, ?_⟩⟩
      simp only [zswT, zsw, e, if_true]
      have := h o List.mem_cons_self
      omega
    · have e2 : zsw (zswT pc lo (o :: r)) a d = zsw (zswT pc (lo + 1) r) a d := by simp only [zswT, zsw, e, if_false]
      rw [e2]
      refine ⟨fun q => i1 (by omega), fun q1 q2 => ?_⟩
      obtain ⟨o', q3, q4⟩ := i2 (by omega) (by omega)
      refine ⟨o', ?_, q4⟩
      rw [show (a.toInt - lo).toNat = (a.toInt - (lo + 1)).toNat + 1 by omega, List.getElem?_cons_succ]
      exact q3
theorem zswL_at (pc : Int) (a : Int32) (d0 : Int) (d : Nat) (hd : pc + d0 = (d : Int)) : ∀ (l : List (Int × Int)), (∀ q ∈ l, 0 ≤ pc + q.2) → pc + Op.lookupswitch.offset l d0 a.toInt = (zsw (l.map (fun q => (q.1, (pc + q.2).toNat))) a d : Int) := by
  intro l
  induction l with
  | nil => intro _; exact hd
  | cons q r ih =>
    intro h
    obtain ⟨k, o⟩ := q
    rw [Op.lookupswitch.offset_cons]
    simp only [List.map_cons, zsw]
    have ho := h (k, o) List.mem_cons_self
    simp only at ho
    by_cases e : a.toInt = k
    · rw [if_pos (by first | exact e | exact e.symm), if_pos e]; omega
    · rw [if_neg (by first | exact e | exact fun z => e z.symm), if_neg e]
      exact ih (fun q hq => h q (List.mem_cons_of_mem _ hq))
section ZK
variable {p : Program} {l : Launch} {e : Env} {R : Room} {s : State} {m : MethodId} {args : Array Value} {below : List Frame} {meth : Method} {c : Code} {cA dC : Nat → ClassId} {dI : Nat → Nat → Nat} {B0 : Nat} {tr0 : Nat → Nat} {own nL kc0 ks0 n0 : Nat} {cc : ByteArray} {Q : State → Prop} {pc : Nat} {S S' : zS} {P : Prop} {x : zX} {Ms : List zM} {I : Instr} {len : Nat} {ini : Prop}
theorem zplain_ok (X : zCx p s m args c R cA dC dI B0 tr0 own cc nL) (hd : decode cc pc = .ok (I, len)) (hk : zck Ms own ini I x pc len) (hin : ini → meth.name = "<init>") (hz : zplain I x S = some (P, S')) (hP : P) (hw : zwf S) (hS : S.1.length ≤ nL) (h0 : n0 ≤ S.2.2.2.1 ∧ kc0 ≤ S.2.2.2.2.1 ∧ ks0 ≤ S.2.2.2.2.2) (hR : S'.2.2.2.2.1 - kc0 ≤ R.cells ∧ S'.2.2.2.2.2 - ks0 ≤ R.slots) (kk : zGoal p l e R s m args below meth c cA dC dI B0 tr0 nL kc0 ks0 n0 Q (pc + len) S') : zGoal p l e R s m args below meth c cA dC dI B0 tr0 nL kc0 ks0 n0 Q pc S := by
  cases I <;> simp only [zck] at hk <;> try (cases hz; done)
  case iadd => subst hk; exact zs_iadd X hd hz hP hS kk
  case isub => subst hk; exact zs_isub X hd hz hP hS kk
  case imul => subst hk; exact zs_imul X hd hz hP hS kk
  case iand => subst hk; exact zs_iand X hd hz hP hS kk
  case ior => subst hk; exact zs_ior X hd hz hP hS kk
  case ixor => subst hk; exact zs_ixor X hd hz hP hS kk
  case ishl => subst hk; exact zs_ishl X hd hz hP hS kk
  case ishr => subst hk; exact zs_ishr X hd hz hP hS kk
  case idiv => subst hk; exact zs_idiv X hd hz hP hS kk
  case irem => subst hk; exact zs_irem X hd hz hP hS kk
  case iushr => subst hk; exact zs_iushr X hd hz hP hS kk
  case ladd => subst hk; exact zs_ladd X hd hz hP hS kk
  case lsub => subst hk; exact zs_lsub X hd hz hP hS kk
  case lmul => subst hk; exact zs_lmul X hd hz hP hS kk
  case land => subst hk; exact zs_land X hd hz hP hS kk
  case lor => subst hk; exact zs_lor X hd hz hP hS kk
  case lxor => subst hk; exact zs_lxor X hd hz hP hS kk
  case lcmp => subst hk; exact zs_lcmp X hd hz hP hS kk
  case ldiv => subst hk; exact zs_ldiv X hd hz hP hS kk
  case lrem => subst hk; exact zs_lrem X hd hz hP hS kk
  case lshl => subst hk; exact zs_lshl X hd hz hP hS kk
  case lushr => subst hk; exact zs_lushr X hd hz hP hS kk
  case ineg => subst hk; exact zs_ineg X hd hz hP hS kk
  case i2l => subst hk; exact zs_i2l X hd hz hP hS kk
  case i2b => subst hk; exact zs_i2b X hd hz hP hS kk
  case i2s => subst hk; exact zs_i2s X hd hz hP hS kk
  case i2c => subst hk; exact zs_i2c X hd hz hP hS kk
  case l2i => subst hk; exact zs_l2i X hd hz hP hS kk
  case dup => subst hk; exact zs_dup X hd hz hP hS kk
  case pop => subst hk; exact zs_pop X hd hz hP hS kk
  case pop2 => subst hk; exact zs_pop2 X hd hz hP hS kk
  case dup2 => subst hk; exact zs_dup2 X hd hz hP hS kk
  case iload i => subst hk; exact zs_iload X hd hz hP hS kk
  case iload_n i => subst hk; exact zs_iload_n X hd hz hP hS kk
  case lload i => subst hk; exact zs_lload X hd hz hP hS kk
  case lload_n i => subst hk; exact zs_lload_n X hd hz hP hS kk
  case aload i => subst hk; exact zs_aload X hd hz hP hS kk
  case aload_n i => subst hk; exact zs_aload_n X hd hz hP hS kk
  case istore i => subst hk; exact zs_istore X hd hz hP hS kk
  case istore_n i => subst hk; exact zs_istore_n X hd hz hP hS kk
  case lstore i => subst hk; exact zs_lstore X hd hz hP hS kk
  case lstore_n i => subst hk; exact zs_lstore_n X hd hz hP hS kk
  case astore i => subst hk; exact zs_astore X hd hz hP hS kk
  case astore_n i => subst hk; exact zs_astore_n X hd hz hP hS kk
  case iconst n => obtain ⟨rfl, hx⟩ := hk; exact zs_iconst X hx hd hz hP hS kk
  case bipush n => obtain ⟨rfl, hx⟩ := hk; exact zs_bipush X hx hd hz hP hS kk
  case sipush n => obtain ⟨rfl, hx⟩ := hk; exact zs_sipush X hx hd hz hP hS kk
  case lconst n => obtain ⟨rfl, hx⟩ := hk; exact zs_lconst X hx hd hz hP hS kk
  case iinc i n => obtain ⟨rfl, hx⟩ := hk; exact zs_iinc X hx hd hz hP hS kk
  case ldc i =>
    obtain ⟨rfl, ⟨k, h1, h2⟩ | ⟨tx, a, h1, h2⟩⟩ := hk
    · exact zs_ldci X h1 h2 hd hz hP hS kk
    · exact zs_ldcS X h1 h2 hd hz hP hw kk
  case ldc_w i => obtain ⟨rfl, k, h1, h2⟩ := hk; exact zs_ldcw X h1 h2 hd hz hP hS kk
  case ldc2_w i => obtain ⟨rfl, k, h1, h2⟩ := hk; exact zs_ldc2 X h1 h2 hd hz hP hS kk
  case getstatic i => obtain ⟨rfl, C, n, d, h1, h2⟩ := hk; exact zs_getstatic X rfl h1 h2 hd hz hP hw kk
  case getfield i =>
    obtain ⟨rfl, ⟨C, T, N, h1, h2, h3⟩ | ⟨h1, h2⟩⟩ := hk
    · exact zs_getfield X rfl rfl h1 h2 h3 hd hz hP hw kk
    · exact zs_getstr X h1 rfl h2 hd hz hP hw kk
  case putfield i =>
    obtain ⟨rfl, C, T, N, ty, h1, h2, h3, h4, ⟨h5, h6⟩ | ⟨h5, h6, h7, h8⟩⟩ := hk
    · exact zs_putfield (kd := 0) X h3 rfl rfl h1 h2 h6 h4 h5 hd hz hP hw kk
    · exact zs_putfinal (kd := 0) X h3 rfl rfl h1 h2 h8 h4 h5 (hin h6) h7 hd hz hP hw kk
  case iaload => subst hk; exact zs_iaload X hd hz hP hw kk
  case caload => subst hk; exact zs_caload X hd hz hP hw kk
  case baload => obtain ⟨rfl, h1⟩ := hk; exact zs_baload X h1 hd hz hP hw kk
  case laload => subst hk; exact zs_laload X hd hz hP hw kk
  case iastore => subst hk; exact zs_iastore X hd hz hP hw kk
  case castore => subst hk; exact zs_castore X hd hz hP hw kk
  case lastore => subst hk; exact zs_lastore X hd hz hP hw kk
  case bastore =>
    obtain ⟨rfl, h1 | h1⟩ := hk
    · exact zs_bastore2 X h1 hd hz hP hw kk
    · exact zs_bastore4 X h1 hd hz hP hw kk
  case arraylength => subst hk; exact zs_arraylength X hd hz hP hw kk
  case newarray a => obtain ⟨rfl, h1, h2, h3⟩ := hk; exact zs_newarray X rfl h1 h2 h3 hd hz hP hw h0 hR kk
  case new i => obtain ⟨rfl, C, T, N, h1, h2, h3, h4⟩ := hk; exact zs_new X rfl h1 h2 h3 h4 hd hz hP hw h0 hR kk
  case invokestatic i =>
    obtain ⟨rfl, ⟨h1, h2, h3, h4, h5⟩ | ⟨h1, h2⟩ | ⟨h1, h2, h3, h4, h5⟩ | ⟨h1, h2, h3, h4, h5⟩ | ⟨h1, h2, h3, h4, h5⟩ | ⟨h1, -⟩⟩ := hk
    · exact zs_copy X h1 h2 h3 h4 h5 hd hz hP hw h0 hR kk
    · exact zs_chi X h1 h2 hd hz hP hw h0 hR kk
    · exact zs_mx X h1 h2 h3 h4 h5 hd hz hP hw h0 hR kk
    · exact zs_mn X h1 h2 h3 h4 h5 hd hz hP hw h0 hR kk
    · exact zs_mxl X h1 h2 h3 h4 h5 hd hz hP hw h0 hR kk
    · simp only [zplain] at hz
      split at hz <;> first | omega | (cases hz)
  case invokespecial i =>
    obtain ⟨rfl, ⟨h1, h2, h3, h4⟩ | ⟨h1, -⟩⟩ := hk
    · exact zs_obj X h1 h2 h3 h4 hd hz hP hw h0 hR kk
    · simp only [zplain] at hz
      cases hz
theorem zjump_ok {q : Nat × List Value} (X : zCx p s m args c R cA dC dI B0 tr0 own cc nL) (hd : decode cc pc = .ok (I, len)) (hk : zck Ms own ini I x pc len) (hz : zjump I x (pc + len) S.2.1 = some q) (kk : zGoal p l e R s m args below meth c cA dC dI B0 tr0 nL kc0 ks0 n0 Q q.1 (S.1, q.2, S.2.2)) : zGoal p l e R s m args below meth c cA dC dI B0 tr0 nL kc0 ks0 n0 Q pc S := by
  obtain ⟨L, st, H⟩ := S
  cases I <;> simp only [zjump] at hz <;> try (cases hz; done)
  case goto off =>
    cases hz
    obtain ⟨rfl, h1⟩ := hk
    intro tr Hh locs ls g1 g2 g3
    exact lv_goto X.1 X.2.1 hd h1 (kk tr Hh locs ls g1 g2 g3)
  case ifCond cd off =>
    split at hz
    · rename_i a r
      cases hz
      obtain ⟨rfl, h1⟩ := hk
      intro tr Hh locs ls g1 g2 g3
      have kk := kk tr Hh locs ls g1 g2 g3
      cases cd <;> simp only [zif] at kk
      · exact lv_if_eq X.1 X.2.1 hd h1 (fun h => by simpa only [if_pos h] using kk) (fun h => by simpa only [if_neg h] using kk)
      · exact lv_if_ne X.1 X.2.1 hd h1 (fun h => by simpa only [if_neg h] using kk) (fun h => by simpa only [if_pos h] using kk)
      · exact lv_if_lt X.1 X.2.1 hd h1 (fun h => by simpa only [if_pos h] using kk) (fun h => by simpa only [if_neg h] using kk)
      · exact lv_if_ge X.1 X.2.1 hd h1 (fun h => by simpa only [if_neg (Int32.not_lt.mpr h)] using kk) (fun h => by simpa only [if_pos (Int32.not_le.mp h)] using kk)
      · exact lv_if_gt X.1 X.2.1 hd h1 (fun h => by simpa only [if_pos h] using kk) (fun h => by simpa only [if_neg h] using kk)
      · exact lv_if_le X.1 X.2.1 hd h1 (fun h => by simpa only [if_neg (Int32.not_lt.mpr h)] using kk) (fun h => by simpa only [if_pos (Int32.not_le.mp h)] using kk)
    · cases hz
  case if_icmp cd off =>
    split at hz
    · rename_i b a r
      cases hz
      obtain ⟨rfl, h1⟩ := hk
      intro tr Hh locs ls g1 g2 g3
      have kk := kk tr Hh locs ls g1 g2 g3
      cases cd <;> simp only [zif] at kk
      · exact lv_icmp_eq X.1 X.2.1 hd h1 (fun h => by simpa only [if_pos h] using kk) (fun h => by simpa only [if_neg h] using kk)
      · exact lv_icmp_ne X.1 X.2.1 hd h1 (fun h => by simpa only [if_neg h] using kk) (fun h => by simpa only [if_pos h] using kk)
      · exact lv_icmp_lt X.1 X.2.1 hd h1 (fun h => by simpa only [if_pos h] using kk) (fun h => by simpa only [if_neg h] using kk)
      · exact lv_icmp_ge X.1 X.2.1 hd h1 (fun h => by simpa only [if_neg (Int32.not_lt.mpr h)] using kk) (fun h => by simpa only [if_pos (Int32.not_le.mp h)] using kk)
      · exact lv_icmp_gt X.1 X.2.1 hd h1 (fun h => by simpa only [if_pos h] using kk) (fun h => by simpa only [if_neg h] using kk)
      · exact lv_icmp_le X.1 X.2.1 hd h1 (fun h => by simpa only [if_neg (Int32.not_lt.mpr h)] using kk) (fun h => by simpa only [if_pos (Int32.not_le.mp h)] using kk)
    · cases hz
  case tableswitch d lo hi offs =>
    split at hz
    · rename_i a r
      cases hz
      obtain ⟨h1, h2, h3, h4⟩ := hk
      intro tr Hh locs ls g1 g2 g3
      have kk := kk tr Hh locs ls g1 g2 g3
      rw [h2] at kk
      obtain ⟨i1, i2⟩ := zswT_at pc a x.1 offs.toList lo h3
      rw [← h4] at i1 i2
      by_cases e : a.toInt < lo ∨ hi < a.toInt
      · rw [i1 e] at kk
        exact lv_tableOut X.1 X.2.1 hd e h1 kk
      · obtain ⟨o, q1, q2⟩ := i2 (fun z => e (Or.inl z)) (fun z => e (Or.inr z))
        exact lv_tableIn X.1 X.2.1 hd (fun z => e (Or.inl z)) (fun z => e (Or.inr z)) (by rw [← Array.getElem?_toList]; exact q1) q2 kk
    · cases hz
  case lookupswitch d ps =>
    split at hz
    · rename_i a r
      cases hz
      obtain ⟨h1, h2, h3, h4⟩ := hk
      intro tr Hh locs ls g1 g2 g3
      have kk := kk tr Hh locs ls g1 g2 g3
      rw [h2] at kk
      exact lv_lookup X.1 X.2.1 hd h4 rfl (zswL_at pc a d x.1 h1 ps.toList h3) kk
    · cases hz
end ZK
