/-! the abstract heap: cells by name; a reference is a name, tr says where it lies -/
abbrev zE : Type := (Nat × vp_A) ⊕ (Nat × List Value)
def z_v (tr : Nat → Nat) (v : Value) : Value := match v with
  | .ref k => .ref (tr k)
  | w => w
def z_e (cA : Nat → ClassId) (tr : Nat → Nat) (e : zE) : va_E := match e with
  | .inl a => .inl (cA a.1, a.2)
  | .inr o => .inr (o.1, o.2.map (z_v tr))
def z_w (cA : Nat → ClassId) (tr : Nat → Nat) (h : List zE) : va_W := h.mapIdx (fun k e => (tr k, z_e cA tr e))
def z_ty (t : Nat) : FieldType := match t with
  | 0 => .int
  | 1 => .long
  | 2 => .byte
  | 3 => .char
  | _ => .boolean
def z_tys (cA : Nat → ClassId) : List (ClassId × FieldType) := [(cA 0, .int), (cA 1, .long), (cA 2, .byte), (cA 3, .char), (cA 4, .boolean)]
def zT : List Cond := lw_tbl.filter goodWord
def z_up {α : Type} (f : Nat → α) (k : Nat) (v : α) : Nat → α := fun j => bif Nat.beq j k then v else f j
theorem z_w_get (cA : Nat → ClassId) (tr : Nat → Nat) (h : List zE) (k : Nat) : (z_w cA tr h)[k]? = h[k]?.map (fun e => (tr k, z_e cA tr e)) := by
  simp [z_w, List.getElem?_mapIdx]
theorem z_w_at {cA : Nat → ClassId} {tr : Nat → Nat} {h : List zE} {k : Nat} {e : zE} (hk : h[k]? = some e) : (z_w cA tr h)[k]? = some (tr k, z_e cA tr e) := by
  rw [z_w_get, hk]; rfl
theorem z_w_len (cA : Nat → ClassId) (tr : Nat → Nat) (h : List zE) : (z_w cA tr h).length = h.length := by simp [z_w]
theorem z_w_set (cA : Nat → ClassId) (tr : Nat → Nat) (h : List zE) (k : Nat) (e : zE) : (z_w cA tr h).set k (tr k, z_e cA tr e) = z_w cA tr (h.set k e) := by
  apply List.ext_getElem?
  intro j
  rw [List.getElem?_set, z_w_get, z_w_get, z_w_len, List.getElem?_set]
  by_cases hj : k = j
  · subst hj
    by_cases hl : k < h.length
    · simp [hl]
    · simp [hl]
  · simp [hj]
theorem z_w_push (cA : Nat → ClassId) (tr tr' : Nat → Nat) (h : List zE) (e : zE) (q : Nat) (h1 : ∀ k, k < h.length → tr' k = tr k) (h2 : tr' h.length = q) (h3 : ∀ (k : Nat) (e0 : zE), h[k]? = some e0 → z_e cA tr' e0 = z_e cA tr e0) : z_w cA tr' (h ++ [e]) = z_w cA tr h ++ [(q, z_e cA tr' e)] := by
  apply List.ext_getElem?
  intro j
  rw [z_w_get]
  by_cases hj : j < h.length
  · rw [List.getElem?_append_left hj, List.getElem?_append_left (by rw [z_w_len]; exact hj), z_w_get, List.getElem?_eq_getElem hj]
    simp only [Option.map_some, Option.some.injEq, Prod.mk.injEq]
    exact ⟨h1 j hj, h3 j _ (List.getElem?_eq_getElem hj)⟩
  · rw [List.getElem?_append_right (by omega), List.getElem?_append_right (by rw [z_w_len]; omega), z_w_len]
    by_cases hz : j - h.length = 0
    · rw [hz]
      have : j = h.length := by omega
      subst this
      simp [h2]
    · obtain ⟨n, hn⟩ : ∃ n, j - h.length = n + 1 := ⟨j - h.length - 1, by omega⟩
      rw [hn]
      simp
theorem z_T_in {w : Cond} {i : Nat} (h : lw_tbl[i]? = some w) (hg : goodWord w = true) : w ∈ zT := List.mem_filter.mpr ⟨List.mem_of_getElem? h, hg⟩
theorem z_T_good {ws : List Cond} (hs : ∀ w ∈ ws, w ∈ zT) : GoodIn zT ws := fun w hw => ⟨hs w hw, good_of_word (List.mem_filter.mp (hs w hw)).2⟩
/-! the static cells: names from 1000 on -/
def z_pw (j : Nat) : Int32 := match j with
  | 0 => 1
  | 1 => 3
  | 2 => 9
  | 3 => 27
  | 4 => 81
  | 5 => 243
  | 6 => 729
  | _ => 2187
def z_strs : List (String × Nat × String × Nat) := [("InnRegister$Rule", 73, "ixcmktf", 1001), ("InnRegisterModel", 124, "-+?", 1002), ("InnRegisterModel", 153, "ixcmktf", 1001), ("InnRegisterModel", 158, "<>=", 1003), ("InnRegisterModel", 160, "+-", 1004), ("InnRegisterModel", 162, "*/", 1005), ("InnRegisterModel", 229, "hscrm", 1006)]
def z_slen : List Nat := [7, 3, 3, 2, 2, 5]
def z_sbyt : List (List Int32) := [[105, 120, 99, 109, 107, 116, 102], [45, 43, 63], [60, 62, 61], [43, 45], [42, 47], [104, 115, 99, 114, 109]]
def z_sa (a : Nat) : Option (Nat × Nat × (Nat → Int32)) := match a with
  | 1000 => some (0, 8, z_pw)
  | 1101 => some (2, 7, fun j => [105, 120, 99, 109, 107, 116, 102].getD j 0)
  | 1102 => some (2, 3, fun j => [45, 43, 63].getD j 0)
  | 1103 => some (2, 3, fun j => [60, 62, 61].getD j 0)
  | 1104 => some (2, 2, fun j => [43, 45].getD j 0)
  | 1105 => some (2, 2, fun j => [42, 47].getD j 0)
  | 1106 => some (2, 5, fun j => [104, 115, 99, 114, 109].getD j 0)
  | _ => none
def z_sf (a k : Nat) : Option Value := match a, k with
  | 1001, 0 => some (.ref 1101)
  | 1002, 0 => some (.ref 1102)
  | 1003, 0 => some (.ref 1103)
  | 1004, 0 => some (.ref 1104)
  | 1005, 0 => some (.ref 1105)
  | 1006, 0 => some (.ref 1106)
  | 1001, 1 => some (.int 0)
  | 1002, 1 => some (.int 0)
  | 1003, 1 => some (.int 0)
  | 1004, 1 => some (.int 0)
  | 1005, 1 => some (.int 0)
  | 1006, 1 => some (.int 0)
  | _, _ => none
def zSt (tr : Nat → Nat) (A : Nat → Prop) (U : State) (H : Heap) : Prop :=
  va_Z "InnRegister" "POWER" "[I" (.ref (tr 1000)) A U H ∧ va_T .int (tr 1000) 8 (fun j => .int (z_pw j)) A U H ∧ va_Z "java/lang/String" "COMPACT_STRINGS" "Z" (.int 1) A U H ∧ vk_S 6 z_slen z_sbyt (fun j => tr (1001 + j)) (fun j => tr (1101 + j)) A U H
def zSr (tr : Nat → Nat) (U : State) : Prop := ∀ q ∈ z_strs, vk_R q.1 q.2.1 q.2.2.1 (tr q.2.2.2) U
theorem zSt.moved {tr : Nat → Nat} {A : Nat → Prop} {u U : State} {H : Heap} (hvm : u.vm.Alike U.vm) (h : zSt tr A u H) : zSt tr A U H := ⟨h.1.moved hvm, h.2.1.moved hvm, h.2.2.1.moved hvm, h.2.2.2.moved hvm⟩
theorem zSt.kept {tr : Nat → Nat} {A : Nat → Prop} {U : State} {H H1 : Heap} (h : zSt tr A U H) (hq : ∀ a : Nat, a < H.size → ¬ A a → H1[a]? = H[a]?) : zSt tr A U H1 := ⟨h.1.kept hq, h.2.1.kept hq, h.2.2.1.kept hq, h.2.2.2.kept hq⟩
theorem zSt.narrow {tr : Nat → Nat} {A B : Nat → Prop} {U : State} {H : Heap} (h : zSt tr A U H) (hAB : ∀ q, B q → A q) : zSt tr B U H := ⟨h.1.narrow hAB, h.2.1.narrow hAB, h.2.2.1.narrow hAB, h.2.2.2.narrow hAB⟩
theorem zSt.same {tr tr' : Nat → Nat} {A : Nat → Prop} {U : State} {H : Heap} (h : zSt tr A U H) (he : ∀ k, 1000 ≤ k → tr' k = tr k) : zSt tr' A U H := by
  obtain ⟨h1, h2, h3, h4⟩ := h
  have e1 : tr' 1000 = tr 1000 := he _ (by decide)
  have e2 : (fun j => tr' (1001 + j)) = (fun j => tr (1001 + j)) := funext fun j => he _ (by omega)
  have e3 : (fun j => tr' (1101 + j)) = (fun j => tr (1101 + j)) := funext fun j => he _ (by omega)
  refine ⟨?_, ?_, h3, ?_⟩
  · rw [e1]; exact h1
  · rw [e1]; exact h2
  · rw [e2, e3]; exact h4
theorem zSr.same {tr tr' : Nat → Nat} {U : State} (h : zSr tr U) (he : ∀ k, 1000 ≤ k → tr' k = tr k) : zSr tr' U := by
  intro q hq
  have hk : ∀ q ∈ z_strs, 1000 ≤ q.2.2.2 := by decide
  rw [he _ (hk q hq)]
  exact h q hq
theorem zSr.warm {tr : Nat → Nat} {s U : State} (hW : s.WarmedH U.vm) (h : zSr tr s) : zSr tr U := fun q hq => vk_R.warm hW (h q hq)
theorem z_cl : ∀ q ∈ vwCl, (∀ w ∈ u_ws q.1 q.2.1 q.2.2, w ∈ zT) ∧ (∀ k, k < q.2.2 → (parseFieldDescriptor (q.2.1 k).2.2.1).isSome = true) ∧ (∀ a, a < q.2.2 → ∀ b, b < q.2.2 → a ≠ b → (q.2.1 a).2.1 ≠ (q.2.1 b).2.1) := by decide +kernel
/-! one instruction on locals, stack, heap, and the cells and slots made so far -/
abbrev zS : Type := List Value × List Value × List zE × Nat × Nat
abbrev zX : Type := Nat × Nat × Nat × Value
def z_set (L : List Value) (i : Nat) (v : Value) : List Value := match L[i - 1]? with
  | some (.long _) => (L.set (i - 1) .null).set i v
  | _ => L.set i v
def z_set2 (L : List Value) (i : Nat) (v : Value) : List Value := (z_set L i v).set (i + 1) .null
def z_ld (S : zS) (i : Nat) (c : Nat) : Option (Prop × zS) := match S with
  | (L, st, h, kc, ks) => match L[i]?, c with
    | some (.int x), 0 => some (True, (L, .int x :: st, h, kc, ks))
    | some (.long x), 1 => some (True, (L, .long x :: st, h, kc, ks))
    | some (.ref x), 2 => some (True, (L, .ref x :: st, h, kc, ks))
    | _, _ => none
def z_st (S : zS) (i : Nat) (c : Nat) : Option (Prop × zS) := match S with
  | (L, st, h, kc, ks) => match st, c with
    | .int x :: r, 0 => bif Nat.blt i L.length then some (True, (z_set L i (.int x), r, h, kc, ks)) else none
    | .long x :: r, 1 => bif Nat.blt (i + 1) L.length then some (True, (z_set2 L i (.long x), r, h, kc, ks)) else none
    | .ref x :: r, 2 => bif Nat.blt i L.length then some (True, (z_set L i (.ref x), r, h, kc, ks)) else none
    | _, _ => none
def z_bin (S : zS) (P : Int32 → Int32 → Prop) (f : Int32 → Int32 → Int32) : Option (Prop × zS) := match S with
  | (L, .int y :: .int x :: r, h, k) => some (P x y, (L, .int (f x y) :: r, h, k))
  | _ => none
def z_binl (S : zS) (P : Int64 → Int64 → Prop) (f : Int64 → Int64 → Int64) : Option (Prop × zS) := match S with
  | (L, .long y :: .long x :: r, h, k) => some (P x y, (L, .long (f x y) :: r, h, k))
  | _ => none
def z_un (S : zS) (f : Int32 → Value) : Option (Prop × zS) := match S with
  | (L, .int x :: r, h, k) => some (True, (L, f x :: r, h, k))
  | _ => none
def z_fty (ci k : Nat) : FieldType := match vwCl[ci]? with
  | some q => (parseFieldDescriptor (q.2.1 k).2.2.1).getD .int
  | none => .int
/-- which values a field of that descriptor takes without a side condition -/
def z_fit (ty : FieldType) (v : Value) : Option Prop := match ty, v with
  | .int, .int _ => some True
  | .long, .long _ => some True
  | .boolean, .int x => some (x = 0 ∨ x = 1)
  | .array _, .ref _ => some True
  | .object _, .ref _ => some True
  | _, _ => none
def z_get (S : zS) (ci k : Nat) : Option (Prop × zS) := match S with
  | (L, .ref a :: r, h, n) => bif Nat.ble 1000 a then (match z_sf a k with
      | some v => bif Nat.beq ci 200 then some (True, (L, v :: r, h, n)) else none
      | none => none) else (match h[a]? with
      | some (.inr (c, fs)) => bif Nat.beq c ci then (match fs[k]? with
          | some v => some (True, (L, v :: r, h, n))
          | none => none) else none
      | _ => none)
  | _ => none
def z_put (S : zS) (ci k : Nat) (ty : FieldType) : Option (Prop × zS) := match S with
  | (L, v :: .ref a :: r, h, n) => match h[a]? with
      | some (.inr (c, fs)) => bif Nat.beq c ci && Nat.blt k fs.length then (match z_fit ty v with
          | some P => some (P, (L, r, h.set a (.inr (c, fs.set k v)), n))
          | none => none) else none
      | _ => none
  | _ => none
def z_ald (S : zS) (t : Nat) : Option (Prop × zS) := match S with
  | (L, .int i :: .ref a :: r, h, n) => bif Nat.ble 1000 a then (match z_sa a with
      | some (t1, N, f) => bif Nat.beq t1 t then some (vp_in i N, (L, .int (f i.toNatClampNeg) :: r, h, n)) else none
      | none => none) else (match h[a]? with
      | some (.inl (t1, N, .inl f)) => bif Nat.beq t1 t then some (vp_in i N, (L, .int (f i.toNatClampNeg) :: r, h, n)) else none
      | _ => none)
  | _ => none
def z_aldl (S : zS) : Option (Prop × zS) := match S with
  | (L, .int i :: .ref a :: r, h, n) => match h[a]? with
      | some (.inl (1, N, .inr (.inl f))) => some (vp_in i N, (L, .long (f i.toNatClampNeg) :: r, h, n))
      | _ => none
  | _ => none
def z_ast (S : zS) (t : Nat) (g : Int32 → Int32) : Option (Prop × zS) := match S with
  | (L, .int x :: .int i :: .ref a :: r, h, n) => match h[a]? with
      | some (.inl (t1, N, .inl f)) => bif Nat.beq t1 t then some (vp_in i N, (L, r, h.set a (.inl (t, N, .inl (upd f i.toNatClampNeg (g x)))), n)) else none
      | _ => none
  | _ => none
def z_astl (S : zS) : Option (Prop × zS) := match S with
  | (L, .long x :: .int i :: .ref a :: r, h, n) => match h[a]? with
      | some (.inl (1, N, .inr (.inl f))) => some (vp_in i N, (L, r, h.set a (.inl (1, N, .inr (.inl (vp_updL f i.toNatClampNeg x)))), n))
      | _ => none
  | _ => none
def z_len (S : zS) : Option (Prop × zS) := match S with
  | (L, .ref a :: r, h, n) => bif Nat.ble 1000 a then (match z_sa a with
      | some (_, N, _) => some (True, (L, .int (Int32.ofNat N) :: r, h, n))
      | none => none) else (match h[a]? with
      | some (.inl (t, x)) => bif Nat.ble t 4 then some (True, (L, .int (Int32.ofNat x.1) :: r, h, n)) else none
      | _ => none)
  | _ => none
def z_a0 (t : Nat) (N : Nat) : zE := match t with
  | 1 => .inl (1, N, .inr (.inl (fun _ => 0)))
  | t => .inl (t, N, .inl (fun _ => 0))
def z_newa (S : zS) (t mc ms : Nat) : Option (Prop × zS) := match S with
  | (L, .int i :: r, h, kc, ks) => bif Nat.blt h.length 1000 then some ((¬ i < 0 ∧ i.toNatClampNeg ≤ 100000) ∧ kc + 1 ≤ mc ∧ ks + i.toNatClampNeg ≤ ms, (L, .ref h.length :: r, h ++ [z_a0 t i.toNatClampNeg], kc + 1, ks + i.toNatClampNeg)) else none
  | _ => none
def z_d0 (d : FieldType) : Value := match d with
  | .long => .long 0
  | .int => .int 0
  | .boolean => .int 0
  | _ => .null
def z_new (S : zS) (ci mc ms : Nat) : Option (Prop × zS) := match S with
  | (L, r, h, kc, ks) => match vwCl[ci]? with
    | some q => bif Nat.blt h.length 1000 then some (kc + 1 ≤ mc ∧ ks + q.2.2 ≤ ms, (L, .ref h.length :: r, h ++ [.inr (ci, (List.range q.2.2).map (fun k => z_d0 (z_fty ci k)))], kc + 1, ks + q.2.2)) else none
    | none => none
def z_stk (I : Instr) (S : zS) : Option (Prop × zS) := match I, S with
  | .dup, (L, v :: r, k) => (match v with
    | .long _ => none
    | .double _ => none
    | w => some (True, (L, w :: w :: r, k)))
  | .pop, (L, .int _ :: r, k) => some (True, (L, r, k))
  | .pop2, (L, .long _ :: r, k) => some (True, (L, r, k))
  | .dup2, (L, .int x :: .ref y :: r, k) => some (True, (L, .int x :: .ref y :: .int x :: .ref y :: r, k))
  | _, _ => none
def zx (mc ms : Nat) (I : Instr) (x : zX) (S : zS) : Option (Prop × zS) := match I with
  | .iconst _ => some (True, (S.1, x.2.2.2 :: S.2.1, S.2.2))
  | .bipush _ => some (True, (S.1, x.2.2.2 :: S.2.1, S.2.2))
  | .sipush _ => some (True, (S.1, x.2.2.2 :: S.2.1, S.2.2))
  | .lconst _ => some (True, (S.1, x.2.2.2 :: S.2.1, S.2.2))
  | .ldc _ => some (True, (S.1, x.2.2.2 :: S.2.1, S.2.2))
  | .ldc_w _ => some (True, (S.1, x.2.2.2 :: S.2.1, S.2.2))
  | .ldc2_w _ => some (True, (S.1, x.2.2.2 :: S.2.1, S.2.2))
  | .getstatic _ => some (True, (S.1, x.2.2.2 :: S.2.1, S.2.2))
  | .iload i => z_ld S i 0
  | .iload_n i => z_ld S i 0
  | .lload i => z_ld S i 1
  | .lload_n i => z_ld S i 1
  | .aload i => z_ld S i 2
  | .aload_n i => z_ld S i 2
  | .istore i => z_st S i 0
  | .istore_n i => z_st S i 0
  | .lstore i => z_st S i 1
  | .lstore_n i => z_st S i 1
  | .astore i => z_st S i 2
  | .astore_n i => z_st S i 2
  | .iinc i _ => (match S, x.2.2.2 with
    | (L, st, h, k), .int n => (match L[i]? with
      | some (.int y) => bif Nat.blt i L.length then some (True, (z_set L i (.int (y + n)), st, h, k)) else none
      | _ => none)
    | _, _ => none)
  | .iadd => z_bin S (fun _ _ => True) (fun x y => x + y)
  | .isub => z_bin S (fun _ _ => True) (fun x y => x - y)
  | .imul => z_bin S (fun _ _ => True) (fun x y => x * y)
  | .iand => z_bin S (fun _ _ => True) (fun x y => x &&& y)
  | .ior => z_bin S (fun _ _ => True) (fun x y => x ||| y)
  | .ixor => z_bin S (fun _ _ => True) (fun x y => x ^^^ y)
  | .ishl => z_bin S (fun _ _ => True) (fun x y => x <<< (y &&& 31))
  | .ishr => z_bin S (fun _ _ => True) (fun x y => x >>> (y &&& 31))
  | .iushr => z_bin S (fun _ _ => True) (fun x y => (x.toUInt32 >>> (y.toUInt32 &&& Int32.toUInt32 31)).toInt32)
  | .idiv => z_bin S (fun _ y => ¬ y = 0) (fun x y => x / y)
  | .irem => z_bin S (fun _ y => ¬ y = 0) (fun x y => x - x / y * y)
  | .ladd => z_binl S (fun _ _ => True) (fun x y => x + y)
  | .lsub => z_binl S (fun _ _ => True) (fun x y => x - y)
  | .lmul => z_binl S (fun _ _ => True) (fun x y => x * y)
  | .land => z_binl S (fun _ _ => True) (fun x y => x &&& y)
  | .lor => z_binl S (fun _ _ => True) (fun x y => x ||| y)
  | .lxor => z_binl S (fun _ _ => True) (fun x y => x ^^^ y)
  | .ldiv => z_binl S (fun _ y => ¬ y = 0) (fun x y => x / y)
  | .lrem => z_binl S (fun _ y => ¬ y = 0) (fun x y => x - x / y * y)
  | .lshl => (match S with
    | (L, .int y :: .long x :: r, k) => some (True, (L, .long (x <<< (y.toInt64 &&& 63)) :: r, k))
    | _ => none)
  | .lushr => (match S with
    | (L, .int y :: .long x :: r, k) => some (True, (L, .long (x.toUInt64 >>> (y.toInt64.toUInt64 &&& Int64.toUInt64 63)).toInt64 :: r, k))
    | _ => none)
  | .ineg => z_un S (fun x => .int (-x))
  | .i2l => z_un S (fun x => .long x.toInt64)
  | .i2b => z_un S (fun x => .int x.toInt8.toInt32)
  | .i2s => z_un S (fun x => .int x.toInt16.toInt32)
  | .i2c => z_un S (fun x => .int (x.toUInt32 % 65536).toInt32)
  | .l2i => (match S with
    | (L, .long x :: r, k) => some (True, (L, .int x.toInt32 :: r, k))
    | _ => none)
  | .getfield _ => z_get S x.2.1 x.2.2.1
  | .putfield _ => z_put S x.2.1 x.2.2.1 (z_fty x.2.1 x.2.2.1)
  | .iaload => z_ald S 0
  | .baload => z_ald S x.2.1
  | .caload => z_ald S 3
  | .laload => z_aldl S
  | .iastore => z_ast S 0 (fun x => x)
  | .bastore => (match x.2.1 with
    | 2 => z_ast S 2 (vp_nar .byte)
    | _ => z_ast S 4 (vp_nar .boolean))
  | .castore => z_ast S 3 (vp_nar .char)
  | .lastore => z_astl S
  | .arraylength => z_len S
  | .newarray _ => z_newa S x.2.1 mc ms
  | .new _ => z_new S x.2.1 mc ms
  | .dup => z_stk .dup S
  | .pop => z_stk .pop S
  | .pop2 => z_stk .pop2 S
  | .dup2 => z_stk .dup2 S
  | _ => none
