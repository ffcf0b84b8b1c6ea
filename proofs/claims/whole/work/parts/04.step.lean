/-! the static cells: names from 1000 on -/
def z_pw (j : Nat) : Int32 := match j with
  | 0 => 1
  | 1 => 3
  | 2 => 9
  | 3 => 27
  | 4 => 81
  | 5 => 243
  | 6 => 729
  | _ => 2187
def z_strs : List (String × Nat × String × Nat) := [("InnRegister$Rule", 73, "ixcmktf", 1001), ("InnRegisterModel", 124, "-+?", 1002), ("InnRegisterModel", 153, "ixcmktf", 1001), ("InnRegisterModel", 158, "<>=", 1003), ("InnRegisterModel", 160, "+-", 1004), ("InnRegisterModel", 162, "*/", 1005), ("InnRegisterModel", 229, "hscrm", 1006)]
def z_slen : List Nat := [7, 3, 3, 2, 2, 5]
def z_sbyt : List (List Int32) := [[105, 120, 99, 109, 107, 116, 102], [45, 43, 63], [60, 62, 61], [43, 45], [42, 47], [104, 115, 99, 114, 109]]
def z_sE (a : Nat) : zE := match a with
  | 1000 => zI 0 8 z_pw
  | 1001 => zO 200 [.ref 1101, .int 0]
  | 1002 => zO 200 [.ref 1102, .int 0]
  | 1003 => zO 200 [.ref 1103, .int 0]
  | 1004 => zO 200 [.ref 1104, .int 0]
  | 1005 => zO 200 [.ref 1105, .int 0]
  | 1006 => zO 200 [.ref 1106, .int 0]
  | 1101 => zI 2 7 (fun j => [105, 120, 99, 109, 107, 116, 102].getD j 0)
  | 1102 => zI 2 3 (fun j => [45, 43, 63].getD j 0)
  | 1103 => zI 2 3 (fun j => [60, 62, 61].getD j 0)
  | 1104 => zI 2 2 (fun j => [43, 45].getD j 0)
  | 1105 => zI 2 2 (fun j => [42, 47].getD j 0)
  | 1106 => zI 2 5 (fun j => [104, 115, 99, 114, 109].getD j 0)
  | _ => zO 999 []
def z_cell (h : Nat → zE) (a : Nat) : zE := if 1000 ≤ a then z_sE a else h a
def zSt (tr : Nat → Nat) (A : Nat → Prop) (U : State) (H : Heap) : Prop :=
  va_Z "InnRegister" "POWER" "[I" (.ref (tr 1000)) A U H ∧ va_T .int (tr 1000) 8 (fun j => .int (z_pw j)) A U H ∧ va_Z "java/lang/String" "COMPACT_STRINGS" "Z" (.int 1) A U H ∧ vk_S 6 z_slen z_sbyt (fun j => tr (1001 + j)) (fun j => tr (1101 + j)) A U H ∧ va_Zq "jdk/internal/util/Preconditions" "SIOOBE_FORMATTER" "Ljava/util/function/BiFunction;" A U H
def zSr (tr : Nat → Nat) (U : State) : Prop := ∀ q ∈ z_strs, vk_R q.1 q.2.1 q.2.2.1 (tr q.2.2.2) U
theorem zSt.moved {tr : Nat → Nat} {A : Nat → Prop} {u U : State} {H : Heap} (hvm : u.vm.Alike U.vm) (h : zSt tr A u H) : zSt tr A U H := ⟨h.1.moved hvm, h.2.1.moved hvm, h.2.2.1.moved hvm, h.2.2.2.1.moved hvm, h.2.2.2.2.moved hvm⟩
theorem zSt.kept {tr : Nat → Nat} {A : Nat → Prop} {U : State} {H H1 : Heap} (h : zSt tr A U H) (hq : ∀ a : Nat, a < H.size → ¬ A a → H1[a]? = H[a]?) : zSt tr A U H1 := ⟨h.1.kept hq, h.2.1.kept hq, h.2.2.1.kept hq, h.2.2.2.1.kept hq, h.2.2.2.2.kept hq⟩
theorem zSt.narrow {tr : Nat → Nat} {A B : Nat → Prop} {U : State} {H : Heap} (h : zSt tr A U H) (hAB : ∀ q, B q → A q) : zSt tr B U H := ⟨h.1.narrow hAB, h.2.1.narrow hAB, h.2.2.1.narrow hAB, h.2.2.2.1.narrow hAB, h.2.2.2.2.narrow hAB⟩
theorem zSt.same {tr tr' : Nat → Nat} {A : Nat → Prop} {U : State} {H : Heap} (h : zSt tr A U H) (he : ∀ k, 1000 ≤ k → tr' k = tr k) : zSt tr' A U H := by
  obtain ⟨h1, h2, h3, h4, h5⟩ := h
  have e1 : tr' 1000 = tr 1000 := he _ (by decide)
  have e2 : (fun j => tr' (1001 + j)) = (fun j => tr (1001 + j)) := funext fun j => he _ (by omega)
  have e3 : (fun j => tr' (1101 + j)) = (fun j => tr (1101 + j)) := funext fun j => he _ (by omega)
  refine ⟨?_, ?_, h3, ?_, h5⟩
  · rw [e1]; exact h1
  · rw [e1]; exact h2
  · rw [e2, e3]; exact h4
theorem zSr.same {tr tr' : Nat → Nat} {U : State} (h : zSr tr U) (he : ∀ k, 1000 ≤ k → tr' k = tr k) : zSr tr' U := by
  intro q hq
  have hk : ∀ q ∈ z_strs, 1000 ≤ q.2.2.2 := by decide
  rw [he _ (hk q hq)]
  exact h q hq
theorem zSr.warm {tr : Nat → Nat} {s U : State} (hW : s.WarmedH U.vm) (h : zSr tr s) : zSr tr U := fun q hq => vk_R.warm hW (h q hq)
theorem z_cl : ∀ q ∈ vwCl, (∀ w ∈ u_ws q.1 q.2.1 q.2.2, w ∈ zT) ∧ (∀ k, k < q.2.2 → (parseFieldDescriptor (q.2.1 k).2.2.1).isSome = true) ∧ (∀ a, a < q.2.2 → ∀ b, b < q.2.2 → a ≠ b → (q.2.1 a).2.1 ≠ (q.2.1 b).2.1) := by decide +kernel
/-! one instruction on locals, stack, heap -/
def zpu (x : zX) (S : zS) : Option (Prop × zS) := some (True, (S.1, x.2.2.2.1 :: S.2.1, S.2.2))
def zld (S : zS) (i c : Nat) : Option (Prop × zS) := match S.1[i]?, c with
  | some (.int y), 0 => some (True, (S.1, .int y :: S.2.1, S.2.2))
  | some (.long y), 1 => some (True, (S.1, .long y :: S.2.1, S.2.2))
  | some (.ref y), 2 => some (True, (S.1, .ref y :: S.2.1, S.2.2))
  | _, _ => none
def zst (S : zS) (i c : Nat) : Option (Prop × zS) := match S.2.1, c with
  | .int y :: r, 0 => some (i < S.1.length, (z_set S.1 i (.int y), r, S.2.2))
  | .long y :: r, 1 => some (i + 1 < S.1.length, (z_set2 S.1 i (.long y), r, S.2.2))
  | .ref y :: r, 2 => some (i < S.1.length, (z_set S.1 i (.ref y), r, S.2.2))
  | _, _ => none
def zbin (S : zS) (P : Int32 → Int32 → Prop) (f : Int32 → Int32 → Int32) : Option (Prop × zS) := match S.2.1 with
  | .int y :: .int x :: r => some (P x y, (S.1, .int (f x y) :: r, S.2.2))
  | _ => none
def zbinl (S : zS) (P : Int64 → Int64 → Prop) (f : Int64 → Int64 → Value) : Option (Prop × zS) := match S.2.1 with
  | .long y :: .long x :: r => some (P x y, (S.1, f x y :: r, S.2.2))
  | _ => none
def zbinm (S : zS) (f : Int64 → Int32 → Int64) : Option (Prop × zS) := match S.2.1 with
  | .int y :: .long x :: r => some (True, (S.1, .long (f x y) :: r, S.2.2))
  | _ => none
def zun (S : zS) (f : Int32 → Value) : Option (Prop × zS) := match S.2.1 with
  | .int x :: r => some (True, (S.1, f x :: r, S.2.2))
  | _ => none
def zget (S : zS) (ci k : Nat) : Option (Prop × zS) := match S.2.1 with
  | .ref a :: r => (match z_cell S.2.2.1 a with
    | .inr o => (match o.2[k]? with
      | some v => some (o.1 = ci, (S.1, v :: r, S.2.2))
      | none => none)
    | .inl _ => none)
  | _ => none
def zfit (kd : Nat) (v : Value) : Prop := match kd, v with
  | 0, .int _ => True
  | 1, .long _ => True
  | 2, .int y => y = 0 ∨ y = 1
  | 3, .ref _ => True
  | _, _ => False
def zput (S : zS) (kd ci k : Nat) : Option (Prop × zS) := match S.2.1 with
  | v :: .ref a :: r => (match S.2.2.1 a with
    | .inr o => some (zfit kd v ∧ a < 1000 ∧ o.1 = ci ∧ k < o.2.length, (S.1, r, (z_up S.2.2.1 a (.inr (o.1, o.2.set k v)), S.2.2.2)))
    | .inl _ => none)
  | _ => none
def zald (S : zS) (t : Nat) : Option (Prop × zS) := match S.2.1 with
  | .int i :: .ref a :: r => (match z_cell S.2.2.1 a with
    | .inl (t1, N, .inl f) => some (t1 = t ∧ vp_in i N, (S.1, .int (f i.toNatClampNeg) :: r, S.2.2))
    | _ => none)
  | _ => none
def zaldl (S : zS) : Option (Prop × zS) := match S.2.1 with
  | .int i :: .ref a :: r => (match S.2.2.1 a with
    | .inl (t1, N, .inr (.inl f)) => some (t1 = 1 ∧ a < 1000 ∧ vp_in i N, (S.1, .long (f i.toNatClampNeg) :: r, S.2.2))
    | _ => none)
  | _ => none
def zast (S : zS) (t : Nat) (g : Int32 → Int32) : Option (Prop × zS) := match S.2.1 with
  | .int x :: .int i :: .ref a :: r => (match S.2.2.1 a with
    | .inl (t1, N, .inl f) => some (t1 = t ∧ a < 1000 ∧ vp_in i N, (S.1, r, (z_up S.2.2.1 a (.inl (t1, N, .inl (upd f i.toNatClampNeg (g x)))), S.2.2.2)))
    | _ => none)
  | _ => none
def zastl (S : zS) : Option (Prop × zS) := match S.2.1 with
  | .long x :: .int i :: .ref a :: r => (match S.2.2.1 a with
    | .inl (t1, N, .inr (.inl f)) => some (t1 = 1 ∧ a < 1000 ∧ vp_in i N, (S.1, r, (z_up S.2.2.1 a (.inl (t1, N, .inr (.inl (vp_updL f i.toNatClampNeg x)))), S.2.2.2)))
    | _ => none)
  | _ => none
def zlen (S : zS) : Option (Prop × zS) := match S.2.1 with
  | .ref a :: r => (match z_cell S.2.2.1 a with
    | .inl e => some (e.1 ≤ 4, (S.1, .int (Int32.ofNat e.2.1) :: r, S.2.2))
    | _ => none)
  | _ => none
def z_a0 (t N : Nat) : zE := match t with
  | 1 => .inl (1, N, .inr (.inl (fun _ => 0)))
  | t => .inl (t, N, .inl (fun _ => 0))
def znewa (S : zS) (t : Nat) : Option (Prop × zS) := match S.2.1 with
  | .int i :: r => some ((¬ i < 0 ∧ i.toNatClampNeg ≤ 100000) ∧ S.2.2.2.1 < 1000, (S.1, .ref S.2.2.2.1 :: r, (z_up S.2.2.1 S.2.2.2.1 (z_a0 t i.toNatClampNeg), (S.2.2.2.1 + 1, S.2.2.2.2.1 + 1, S.2.2.2.2.2 + i.toNatClampNeg))))
  | _ => none
def z_nf (ci : Nat) : List Value := match ci with
  | 0 => [.null, .null]
  | 1 => [.null, .null, .null, .null, .null, .null, .int 0]
  | 2 => [.null, .null, .null]
  | 3 => [.null, .int 0]
  | 4 => [.null, .null, .null, .null, .null, .null, .null, .null, .null, .null, .null, .int 0, .int 0, .int 0, .int 0]
  | 5 => [.null, .null, .null, .int 0, .int 0]
  | 6 => [.null, .int 0]
  | 7 => [.null, .null, .null, .int 0, .int 0, .int 0]
  | 8 => [.null, .int 0]
  | 9 => [.null, .null, .null, .int 0, .int 0, .int 0]
  | 10 => [.null, .null, .null, .null, .null, .null, .null, .null, .null, .null, .null, .null]
  | _ => [.int 0, .int 0, .null, .int 0, .int 0, .null, .null, .int 0, .int 0, .int 0, .int 0, .null, .int 0, .null, .null, .int 0, .int 0, .null, .null, .int 0, .null, .null, .null, .null, .null, .int 0, .null, .null, .null, .null, .null, .null, .null, .null, .null, .null, .null, .null, .null, .null, .null, .null, .null, .null, .int 0, .null, .null, .null, .null]
def znew (S : zS) (ci : Nat) : Option (Prop × zS) := some (ci < 12 ∧ S.2.2.2.1 < 1000, (S.1, .ref S.2.2.2.1 :: S.2.1, (z_up S.2.2.1 S.2.2.2.1 (zO ci (z_nf ci)), (S.2.2.2.1 + 1, S.2.2.2.2.1 + 1, S.2.2.2.2.2 + (z_nf ci).length))))
def zdup (S : zS) : Option (Prop × zS) := match S.2.1 with
  | v :: r => some (v.category = 1, (S.1, v :: v :: r, S.2.2))
  | _ => none
def zpop (S : zS) : Option (Prop × zS) := match S.2.1 with
  | v :: r => some (v.category = 1, (S.1, r, S.2.2))
  | _ => none
def zpop2 (S : zS) : Option (Prop × zS) := match S.2.1 with
  | v :: r => some (v.category = 2, (S.1, r, S.2.2))
  | _ => none
def zdup2 (S : zS) : Option (Prop × zS) := match S.2.1 with
  | v :: w :: r => some (v.category = 1 ∧ w.category = 1, (S.1, v :: w :: v :: w :: r, S.2.2))
  | _ => none
/-- System.arraycopy of ints or longs -/
def zcopy (S : zS) : Option (Prop × zS) := match S.2.1 with
  | .int n :: .int dp :: .ref b :: .int sp :: .ref a :: r => (match S.2.2.1 a, S.2.2.1 b with
    | .inl (0, n0, .inl f), .inl (0, n1, .inl g) => some ((a < 1000 ∧ b < 1000 ∧ (r.map fun v => v.category).sum ≤ 8) ∧ ¬ sp < 0 ∧ ¬ dp < 0 ∧ ¬ n < 0 ∧ sp.toNatClampNeg + n.toNatClampNeg ≤ n0 ∧ dp.toNatClampNeg + n.toNatClampNeg ≤ n1, (S.1, r, (z_up S.2.2.1 b (.inl (0, n1, .inl (va_cpy f g sp.toNatClampNeg dp.toNatClampNeg n.toNatClampNeg))), S.2.2.2)))
    | .inl (1, n0, .inr (.inl f)), .inl (1, n1, .inr (.inl g)) => some ((a < 1000 ∧ b < 1000 ∧ (r.map fun v => v.category).sum ≤ 8) ∧ ¬ sp < 0 ∧ ¬ dp < 0 ∧ ¬ n < 0 ∧ sp.toNatClampNeg + n.toNatClampNeg ≤ n0 ∧ dp.toNatClampNeg + n.toNatClampNeg ≤ n1, (S.1, r, (z_up S.2.2.1 b (.inl (1, n1, .inr (.inl (va_cpy f g sp.toNatClampNeg dp.toNatClampNeg n.toNatClampNeg)))), S.2.2.2)))
    | _, _ => none)
  | _ => none
/-- String's own look at an index -/
def zchi (S : zS) : Option (Prop × zS) := match S.2.1 with
  | .int n :: .int i :: r => some ((r.map fun v => v.category).sum ≤ 8 ∧ ¬ i < 0 ∧ i < n, (S.1, r, S.2.2))
  | _ => none
/-- Math.max, Math.min of ints, Math.max of longs -/
def zmx (S : zS) : Option (Prop × zS) := match S.2.1 with
  | .int y :: .int x :: r => some ((r.map fun v => v.category).sum ≤ 8, (S.1, .int (if x < y then y else x) :: r, S.2.2))
  | _ => none
def zmn (S : zS) : Option (Prop × zS) := match S.2.1 with
  | .int y :: .int x :: r => some ((r.map fun v => v.category).sum ≤ 8, (S.1, .int (if y < x then y else x) :: r, S.2.2))
  | _ => none
def zmxl (S : zS) : Option (Prop × zS) := match S.2.1 with
  | .long y :: .long x :: r => some ((r.map fun v => v.category).sum ≤ 8, (S.1, .long (if y < x then x else y) :: r, S.2.2))
  | _ => none
/-- Object's own constructor -/
def zobj (S : zS) : Option (Prop × zS) := match S.2.1 with
  | .ref _ :: r => some ((r.map fun v => v.category).sum ≤ 8, (S.1, r, S.2.2))
  | _ => none
def zplain (I : Instr) (x : zX) (S : zS) : Option (Prop × zS) := match I with
  | .iconst _ => zpu x S
  | .bipush _ => zpu x S
  | .sipush _ => zpu x S
  | .lconst _ => zpu x S
  | .ldc _ => zpu x S
  | .ldc_w _ => zpu x S
  | .ldc2_w _ => zpu x S
  | .getstatic _ => zpu x S
  | .iload i => zld S i 0
  | .iload_n i => zld S i 0
  | .lload i => zld S i 1
  | .lload_n i => zld S i 1
  | .aload i => zld S i 2
  | .aload_n i => zld S i 2
  | .istore i => zst S i 0
  | .istore_n i => zst S i 0
  | .lstore i => zst S i 1
  | .lstore_n i => zst S i 1
  | .astore i => zst S i 2
  | .astore_n i => zst S i 2
  | .iinc i _ => (match S.1[i]?, x.2.2.2.1 with
    | some (.int y), .int n => some (i < S.1.length, (z_set S.1 i (.int (y + n)), S.2))
    | _, _ => none)
  | .iadd => zbin S (fun _ _ => True) (fun x y => x + y)
  | .isub => zbin S (fun _ _ => True) (fun x y => x - y)
  | .imul => zbin S (fun _ _ => True) (fun x y => x * y)
  | .iand => zbin S (fun _ _ => True) (fun x y => x &&& y)
  | .ior => zbin S (fun _ _ => True) (fun x y => x ||| y)
  | .ixor => zbin S (fun _ _ => True) (fun x y => x ^^^ y)
  | .ishl => zbin S (fun _ _ => True) (fun x y => x <<< (y &&& 31))
  | .ishr => zbin S (fun _ _ => True) (fun x y => x >>> (y &&& 31))
  | .iushr => zbin S (fun _ _ => True) (fun x y => (x.toUInt32 >>> (y.toUInt32 &&& Int32.toUInt32 31)).toInt32)
  | .idiv => zbin S (fun _ y => ¬ y = 0) (fun x y => x / y)
  | .irem => zbin S (fun _ y => ¬ y = 0) (fun x y => x - x / y * y)
  | .ladd => zbinl S (fun _ _ => True) (fun x y => .long (x + y))
  | .lsub => zbinl S (fun _ _ => True) (fun x y => .long (x - y))
  | .lmul => zbinl S (fun _ _ => True) (fun x y => .long (x * y))
  | .land => zbinl S (fun _ _ => True) (fun x y => .long (x &&& y))
  | .lor => zbinl S (fun _ _ => True) (fun x y => .long (x ||| y))
  | .lxor => zbinl S (fun _ _ => True) (fun x y => .long (x ^^^ y))
  | .ldiv => zbinl S (fun _ y => ¬ y = 0) (fun x y => .long (x / y))
  | .lrem => zbinl S (fun _ y => ¬ y = 0) (fun x y => .long (x - x / y * y))
  | .lcmp => zbinl S (fun _ _ => True) (fun x y => .int (lg_cmp x y))
  | .lshl => zbinm S (fun x y => x <<< (y.toInt64 &&& 63))
  | .lushr => zbinm S (fun x y => (x.toUInt64 >>> (y.toInt64.toUInt64 &&& Int64.toUInt64 63)).toInt64)
  | .ineg => zun S (fun x => .int (-x))
  | .i2l => zun S (fun x => .long x.toInt64)
  | .i2b => zun S (fun x => .int x.toInt8.toInt32)
  | .i2s => zun S (fun x => .int x.toInt16.toInt32)
  | .i2c => zun S (fun x => .int (x.toUInt32 % 65536).toInt32)
  | .l2i => (match S.2.1 with
    | .long x :: r => some (True, (S.1, .int x.toInt32 :: r, S.2.2))
    | _ => none)
  | .getfield _ => zget S x.2.1 x.2.2.1
  | .putfield _ => zput S x.1 x.2.1 x.2.2.1
  | .iaload => zald S 0
  | .baload => zald S x.2.1
  | .caload => zald S 3
  | .laload => zaldl S
  | .iastore => zast S 0 (fun x => x)
  | .bastore => (match x.2.1 with
    | 2 => zast S 2 (vp_nar .byte)
    | _ => zast S 4 (vp_nar .boolean))
  | .castore => zast S 3 (vp_nar .char)
  | .lastore => zastl S
  | .arraylength => zlen S
  | .newarray _ => znewa S x.2.1
  | .new _ => znew S x.2.1
  | .dup => zdup S
  | .pop => zpop S
  | .pop2 => zpop2 S
  | .dup2 => zdup2 S
  | .invokestatic _ => (match x.1 with
    | 999 => zcopy S
    | 997 => zchi S
    | 996 => zmxl S
    | 995 => zmn S
    | 994 => zmx S
    | _ => none)
  | .invokespecial _ => (match x.1 with
    | 998 => zobj S
    | _ => none)
  | _ => none
/-! jumps -/
def zif (c : Jvm.ClassFile.Cond) (a b : Int32) (t f : Nat) : Nat := match c with
  | .eq => if a = b then t else f
  | .ne => if a = b then f else t
  | .lt => if a < b then t else f
  | .ge => if a < b then f else t
  | .gt => if b < a then t else f
  | .le => if b < a then f else t
def zsw (l : List (Int × Nat)) (a : Int32) (d : Nat) : Nat := match l with
  | [] => d
  | q :: r => if a.toInt = q.1 then q.2 else zsw r a d
def zjump (I : Instr) (x : zX) (nx : Nat) (st : List Value) : Option (Nat × List Value) := match I with
  | .goto _ => some (x.1, st)
  | .ifCond c _ => (match st with
    | .int a :: r => some (zif c a 0 x.1 nx, r)
    | _ => none)
  | .if_icmp c _ => (match st with
    | .int b :: .int a :: r => some (zif c a b x.1 nx, r)
    | _ => none)
  | .tableswitch .. => (match st with
    | .int a :: r => some (zsw x.2.2.2.2 a x.1, r)
    | _ => none)
  | .lookupswitch .. => (match st with
    | .int a :: r => some (zsw x.2.2.2.2 a x.1, r)
    | _ => none)
  | _ => none
/-! ends of a method -/
def znar (ty : FieldType) (v : Int32) : Prop := match ty with
  | .int => True
  | .boolean => v = 0 ∨ v = 1
  | t => narrow t (.int v) = .int v
def zret (rt : Option FieldType) (I : Instr) (st : List Value) : Option (Prop × Option Value) := match I with
  | .ireturn => (match st, rt with
    | [.int v], some ty => some (znar ty v, some (.int v))
    | _, _ => none)
  | .lreturn => (match st, rt with
    | [.long v], some .long => some (True, some (.long v))
    | _, _ => none)
  | .return_ => (match st, rt with
    | [], none => some (True, none)
    | _, _ => none)
  | _ => none
/-! calls: the method's number, its arguments, what stays on the stack -/
def zisc (e : zE) (ci : Nat) : Prop := match e with
  | .inr o => o.1 = ci
  | .inl _ => False
def zinv (I : Instr) (x : zX) (S : zS) : Option (Prop × Nat × List Value × List Value) := match I with
  | .invokestatic _ => some (x.1 < 900 ∧ x.2.1 ≤ S.2.1.length ∧ ((S.2.1.drop x.2.1).map fun v => v.category).sum ≤ 8, x.1, (S.2.1.take x.2.1).reverse, S.2.1.drop x.2.1)
  | .invokespecial _ => (match (S.2.1.take x.2.1).reverse with
    | .ref b :: _ => some (x.1 < 900 ∧ x.2.1 ≤ S.2.1.length ∧ ((S.2.1.drop x.2.1).map fun v => v.category).sum ≤ 8, x.1, (S.2.1.take x.2.1).reverse, S.2.1.drop x.2.1)
    | _ => none)
  | .invokevirtual _ => (match (S.2.1.take x.2.1).reverse with
    | .ref b :: _ => some (zisc (z_cell S.2.2.1 b) x.2.2.1 ∧ x.1 < 900 ∧ x.2.1 ≤ S.2.1.length ∧ ((S.2.1.drop x.2.1).map fun v => v.category).sum ≤ 8, x.1, (S.2.1.take x.2.1).reverse, S.2.1.drop x.2.1)
    | _ => none)
  | _ => none
/-! runs -/
abbrev zR : Type := Option Value × zH
abbrev zC : Type := Nat → List Value → zH → zR → Prop
def z_in (maxL : Nat) (as : List Value) : List Value := (as.flatMap fun v => if v.category = 2 then [v, Value.null] else [v]) ++ List.replicate (maxL - (as.flatMap fun v => if v.category = 2 then [v, Value.null] else [v]).length) .null
def zone (C : zC) (rt : Option FieldType) (I : Instr) (x : zX) (nx : Nat) (S : zS) (K : Nat → zS → zR → Prop) (r : zR) : Prop := match zplain I x S with
  | some q => q.1 ∧ K nx q.2 r
  | none => match zjump I x nx S.2.1 with
    | some q => K q.1 (S.1, q.2, S.2.2) r
    | none => match zret rt I S.2.1 with
      | some q => q.1 ∧ r = (q.2, S.2.2)
      | none => match zinv I x S with
        | some q => q.1 ∧ ∃ v, C q.2.1 q.2.2.1 S.2.2 v ∧ K nx (S.1, v.1.toList ++ q.2.2.2, v.2) r
        | none => False
def zrun (C : zC) (M : zM) : Nat → Nat → zS → zR → Prop
  | 0, _, _, _ => False
  | n + 1, pc, S, r => match M.2.2.2.2.2.lookup pc with
    | none => False
    | some (I, nx, x) => zone C M.2.2.2.2.1 I x nx S (zrun C M n) r
def zB (Ms : List zM) : Nat → zC
  | 0, _, _, _, _ => False
  | d + 1, y, as, H, r => ∃ M, Ms[y]? = some M ∧ (as.flatMap fun v => if v.category = 2 then [v, Value.null] else [v]).length ≤ M.2.2.2.1 ∧ ∃ n, zrun (zB Ms d) M n 0 (z_in M.2.2.2.1 as, [], H) r
