/-! the check of a method's code, as a program -/
def zvi (v : Value) (k : Int32) : Bool := match v with
  | .int a => decide (a = k)
  | _ => false
def zvl (v : Value) (k : Int64) : Bool := match v with
  | .long a => decide (a = k)
  | _ => false
theorem zvi_ok {v : Value} {k : Int32} (h : zvi v k = true) : v = .int k := by
  unfold zvi at h
  split at h
  · rw [of_decide_eq_true h]
  · cases h
theorem zvl_ok {v : Value} {k : Int64} (h : zvl v k = true) : v = .long k := by
  unfold zvl at h
  split at h
  · rw [of_decide_eq_true h]
  · cases h
def zFab (own i : Nat) (x : zX) : Bool := zFlT.any (fun e => e.1 == own && (e.2.1 == i && (e.2.2.1 == x.2.1 && e.2.2.2.1 == x.2.2.1)))
def zFnbb (own i : Nat) (x : zX) : Bool := zFnT.any (fun e => e.1 == own && (e.2.1 == i && (e.2.2.1 == x.2.1 && e.2.2.2.1 == x.2.2.1)))
def zMab (own i : Nat) (x : zX) : Bool := zMlT.any (fun e => e.1 == own && (e.2.1 == i && e.2.2.1 == x.1))
def zckb (own : Nat) (ini : Bool) (I : Instr) (x : zX) (pc len : Nat) : Bool := match I with
  | .iconst n => len == 1 && zvi x.2.2.2.1 (Int32.ofInt n)
  | .bipush n => len == 2 && zvi x.2.2.2.1 (Int8.ofInt n).toInt32
  | .sipush n => len == 3 && zvi x.2.2.2.1 (Int16.ofInt n).toInt32
  | .lconst n => len == 1 && zvl x.2.2.2.1 (Int64.ofNat (n : Nat))
  | .ldc i => len == 2 && (match x.2.2.2.1 with
    | .int k => zKiT.any (fun e => e.1 == own && (e.2.1 == i && decide (e.2.2.1 = k)))
    | .ref a => z_strs.any (fun q => decide (q.1 = zCn own) && (q.2.1 == i && decide (q.2.2.2 = a)))
    | _ => false)
  | .ldc_w i => len == 3 && (match x.2.2.2.1 with
    | .int k => zKiT.any (fun e => e.1 == own && (e.2.1 == i && decide (e.2.2.1 = k)))
    | _ => false)
  | .ldc2_w i => len == 3 && (match x.2.2.2.1 with
    | .long k => zKlT.any (fun e => e.1 == own && (e.2.1 == i && decide (e.2.2.1 = k)))
    | _ => false)
  | .getstatic i => len == 3 && (match x.2.2.2.1 with
    | .int k => decide (k = 1) && zGsT.any (fun e => e.1 == own && (e.2.1 == i && e.2.2.1 == 1))
    | .ref a => decide (a = 1000) && zGsT.any (fun e => e.1 == own && (e.2.1 == i && e.2.2.1 == 1000))
    | _ => false)
  | .iload _ => len == 2
  | .lload _ => len == 2
  | .aload _ => len == 2
  | .istore _ => len == 2
  | .lstore _ => len == 2
  | .astore _ => len == 2
  | .iinc _ n => len == 3 && zvi x.2.2.2.1 (Int32.ofInt n)
  | .getfield i => len == 3 && (zFab own i x || (zFnbb own i x || (x.2.1 == 200 && zFsT.any (fun e => e.1 == own && (e.2.1 == i && e.2.2.1 == x.2.2.1)))))
  | .putfield i => len == 3 && (match vwCl[x.2.1]? with
    | some q => (match parseFieldDescriptor (q.2.1 x.2.2.1).2.2.1 with
      | some ty => x.1 == zkd ty && (if (q.2.1 x.2.2.1).2.2.2 = true then ini && (decide ((q.2.1 x.2.2.1).1 = zCn own) && zFab own i x) else (zFab own i x || zFnbb own i x))
      | none => false)
    | none => false)
  | .baload => len == 1 && (x.2.1 == 2 || x.2.1 == 4)
  | .bastore => len == 1 && (x.2.1 == 2 || x.2.1 == 4)
  | .newarray a => len == 2 && (Nat.ble x.2.1 4 && decide (newarray.typeOf a = z_ty x.2.1))
  | .new i => len == 3 && zNwT.any (fun e => e.1 == own && (e.2.1 == i && e.2.2.1 == x.2.1))
  | .invokestatic i => len == 3 && (if x.1 = 999 then zCpT.any (fun e => e.1 == own && e.2.1 == i) else if x.1 = 997 then zChT.any (fun e => e.1 == own && e.2.1 == i) else if x.1 = 994 then zMxT994.any (fun e => e.1 == own && e.2.1 == i) else if x.1 = 995 then zMxT995.any (fun e => e.1 == own && e.2.1 == i) else if x.1 = 996 then zMxT996.any (fun e => e.1 == own && e.2.1 == i) else Nat.blt x.1 900 && (zMab own i x && zStT.any (fun e => e.1 == x.1 && e.2.1 == x.2.1)))
  | .invokespecial i => len == 3 && (if x.1 = 998 then zObT.any (fun e => e.1 == own && e.2.1 == i) else Nat.ble 1 x.2.1 && (zMab own i x && zInT.any (fun e => e.1 == x.1 && e.2.1 == x.2.1 - 1)))
  | .invokevirtual i => len == 3 && (Nat.ble 1 x.2.1 && (zMab own i x && zViT.any (fun e => e.1 == x.1 && (e.2.1 == x.2.1 - 1 && e.2.2.1 == x.2.2.1))))
  | .goto off => len == 3 && decide ((pc : Int) + off = (x.1 : Int))
  | .ifCond _ off => len == 3 && decide ((pc : Int) + off = (x.1 : Int))
  | .if_icmp _ off => len == 3 && decide ((pc : Int) + off = (x.1 : Int))
  | .tableswitch d lo hi offs => decide ((pc : Int) + d = (x.1 : Int) ∧ x.2.2.2.2 = zswT pc lo offs.toList ∧ (∀ o ∈ offs.toList, 0 ≤ (pc : Int) + o) ∧ hi = lo + offs.toList.length - 1)
  | .lookupswitch d ps => decide ((pc : Int) + d = (x.1 : Int) ∧ x.2.2.2.2 = ps.toList.map (fun q => (q.1, ((pc : Int) + q.2).toNat)) ∧ (∀ q ∈ ps.toList, 0 ≤ (pc : Int) + q.2) ∧ (ps.toList.zip (ps.toList.drop 1)).all (fun (a, next) => a.1 < next.1) = true)
  | _ => len == 1
theorem zFk_of {own i : Nat} {x : zX} (h : zFab own i x = true ∨ zFnbb own i x = true) : ∃ C T N, vwCl[x.2.1]? = some (C, T, N) ∧ x.2.2.1 < N ∧ zFk own i T x.2.2.1 := by
  rcases h with h | h
  · obtain ⟨C, T, N, h1, h2, h3⟩ := zFl_use h
    exact ⟨C, T, N, h1, h2, Or.inl h3⟩
  · obtain ⟨C, T, N, host, h1, h2, h3⟩ := zFn_use h
    exact ⟨C, T, N, h1, h2, Or.inr ⟨host, h3⟩⟩
theorem zckb_ok {Ms : List zM} {own : Nat} {ini : Bool} {P : Prop} {I : Instr} {x : zX} {pc len : Nat} (hN : ∀ (y : Nat) (q : MethodName × Option FieldType), zNr[y]? = some q → ∃ M : zM, Ms[y]? = some M ∧ M.1 = q.1 ∧ M.2.2.2.2.1 = q.2) (hP : ini = true → P) (h : zckb own ini I x pc len = true) : zck Ms own P I x pc len := by
  cases I <;> simp only [zckb, zck, Bool.and_eq_true, Bool.or_eq_true, beq_iff_eq, Nat.ble_eq, decide_eq_true_eq] at h ⊢ <;> try (exact h)
  case iconst n => exact ⟨h.1, zvi_ok h.2⟩
  case bipush n => exact ⟨h.1, zvi_ok h.2⟩
  case sipush n => exact ⟨h.1, zvi_ok h.2⟩
  case lconst n => exact ⟨h.1, zvl_ok h.2⟩
  case iinc i n => exact ⟨h.1, zvi_ok h.2⟩
  case ldc i =>
    refine ⟨h.1, ?_⟩
    have h2 := h.2
    split at h2
    · rename_i k hv
      exact Or.inl ⟨k, hv, zKi_use h2⟩
    · rename_i a hv
      obtain ⟨q, hq, h3⟩ := List.any_eq_true.mp h2
      simp only [Bool.and_eq_true, beq_iff_eq, decide_eq_true_eq] at h3
      obtain ⟨h4, h5, h6⟩ := h3
      refine Or.inr ⟨q.2.2.1, a, hv, ?_⟩
      rw [← h4, ← h5, ← h6]
      exact hq
    · cases h2
  case ldc_w i =>
    refine ⟨h.1, ?_⟩
    have h2 := h.2
    split at h2
    · rename_i k hv
      exact ⟨k, hv, zKi_use h2⟩
    · cases h2
  case ldc2_w i =>
    refine ⟨h.1, ?_⟩
    have h2 := h.2
    split at h2
    · rename_i k hv
      exact ⟨k, hv, zKl_use h2⟩
    · cases h2
  case getstatic i =>
    refine ⟨h.1, ?_⟩
    have h2 := h.2
    split at h2
    · rename_i k hv
      simp only [Bool.and_eq_true, decide_eq_true_eq] at h2
      obtain ⟨C, n, d, h3, h4⟩ := zGs_use h2.2
      rcases h3 with ⟨h3, -⟩ | ⟨-, h3⟩
      · cases h3
      · exact ⟨C, n, d, Or.inr ⟨by rw [hv, h2.1], h3⟩, h4⟩
    · rename_i a hv
      simp only [Bool.and_eq_true, decide_eq_true_eq] at h2
      obtain ⟨C, n, d, h3, h4⟩ := zGs_use h2.2
      rcases h3 with ⟨-, h3⟩ | ⟨h3, -⟩
      · exact ⟨C, n, d, Or.inl ⟨by rw [hv, h2.1], h3⟩, h4⟩
      · cases h3
    · cases h2
  case getfield i =>
    refine ⟨h.1, ?_⟩
    rcases h.2 with h2 | h2 | ⟨h2, h3⟩
    · exact Or.inl (zFk_of (Or.inl h2))
    · exact Or.inl (zFk_of (Or.inr h2))
    · exact Or.inr ⟨h2, zFs_use h3⟩
  case putfield i =>
    refine ⟨h.1, ?_⟩
    have h2 := h.2
    split at h2
    · rename_i q hq
      split at h2
      · rename_i ty hty
        simp only [Bool.and_eq_true, beq_iff_eq] at h2
        obtain ⟨h3, h4⟩ := h2
        split at h4
        · rename_i hf
          simp only [Bool.and_eq_true, decide_eq_true_eq] at h4
          obtain ⟨C, T, N, g1, g2, g3⟩ := zFl_use h4.2.2
          have e : q = (C, T, N) := Option.some.inj (hq.symm.trans g1)
          subst e
          exact ⟨C, T, N, ty, g1, g2, h3, hty, Or.inr ⟨hf, hP h4.1, h4.2.1, g3⟩⟩
        · rename_i hf
          simp only [Bool.or_eq_true] at h4
          obtain ⟨C, T, N, g1, g2, g3⟩ := zFk_of h4
          have e : q = (C, T, N) := Option.some.inj (hq.symm.trans g1)
          subst e
          exact ⟨C, T, N, ty, g1, g2, h3, hty, Or.inl ⟨by simpa using hf, g3⟩⟩
      · cases h2
    · cases h2
  case newarray a => exact ⟨h.1, h.2.1, h.2.2, z_arr _ h.2.1⟩
  case new i => exact ⟨h.1, zNw_use h.2⟩
  case invokestatic i =>
    refine ⟨h.1, ?_⟩
    have h2 := h.2
    split at h2
    · rename_i e
      exact Or.inl ⟨e, zLk_use zCpT_ok h2, z_ac1, z_ac2, z_ac3⟩
    · rename_i e
      split at h2
      · rename_i e2
        exact Or.inr (Or.inl ⟨e2, zLk_use zChT_ok h2⟩)
      · split at h2
        · rename_i e2
          exact Or.inr (Or.inr (Or.inl ⟨e2, zLk_use zMxT994_ok h2, z_m1, z_m4, z_m5⟩))
        · split at h2
          · rename_i e2
            exact Or.inr (Or.inr (Or.inr (Or.inl ⟨e2, zLk_use zMxT995_ok h2, z_m2, z_m4, z_m6⟩)))
          · split at h2
            · rename_i e2
              exact Or.inr (Or.inr (Or.inr (Or.inr (Or.inl ⟨e2, zLk_use zMxT996_ok h2, z_m3, z_m4, z_m7⟩))))
            · simp only [Bool.and_eq_true, Nat.blt_eq] at h2
              obtain ⟨e2, h2⟩ := h2
              obtain ⟨q, g1, g2⟩ := zMl_use h2.1
              obtain ⟨q', g3, g4, g5⟩ := zSt_use h2.2
              have eq : q' = q := Option.some.inj (g3.symm.trans g1)
              subst eq
              obtain ⟨M, m1, m2, m3⟩ := hN _ _ g1
              exact Or.inr (Or.inr (Or.inr (Or.inr (Or.inr ⟨e2, M, m1, by rw [m2]; exact g2, by rw [m2]; exact g4, by rw [m2]; exact g5⟩))))
  case invokespecial i =>
    refine ⟨h.1, ?_⟩
    have h2 := h.2
    split at h2
    · rename_i e
      exact Or.inl ⟨e, zLk_use zObT_ok h2, z_ob1, z_ob2⟩
    · rename_i e
      simp only [Bool.and_eq_true, Nat.ble_eq] at h2
      obtain ⟨q, g1, g2⟩ := zMl_use h2.2.1
      obtain ⟨q', g3, g4, g5, g6, g7⟩ := zIn_use h2.2.2
      have eq : q' = q := Option.some.inj (g3.symm.trans g1)
      subst eq
      obtain ⟨M, m1, m2, m3⟩ := hN _ _ g1
      exact Or.inr ⟨e, M, x.2.1 - 1, m1, by omega, by rw [m2]; exact g2, by rw [m2]; exact g4, by rw [m2]; exact g5, by rw [m3]; exact g6, by rw [m2]; exact g7⟩
  case invokevirtual i =>
    refine ⟨h.1, ?_⟩
    obtain ⟨h0, h2, h3⟩ := h.2
    obtain ⟨q, g1, g2⟩ := zMl_use h2
    obtain ⟨q', g3, g4, g5, g6, g7, g8⟩ := zVi_use h3
    have eq : q' = q := Option.some.inj (g3.symm.trans g1)
    subst eq
    obtain ⟨M, m1, m2, m3⟩ := hN _ _ g1
    exact ⟨M, x.2.1 - 1, m1, by omega, by rw [m2]; exact g2, by rw [m2]; exact g4, by rw [m2]; exact g5, by rw [m2]; exact g6, g7, by rw [m2]; exact g8⟩
def zvok (v : Value) : Bool := match v with
  | .ref k => Nat.ble 1000 k
  | _ => true
theorem zvok_ok {v : Value} (h : zvok v = true) : zok 0 v := by
  unfold zvok at h
  split at h
  · exact Or.inr (Nat.le_of_ble_eq_true h)
  · rename_i hn
    cases v <;> first | trivial | (exact absurd rfl (hn _))
def zrowb (own : Nat) (ini : Bool) (bs : ByteArray) (q : Nat × Instr × Nat × zX) : Bool := zvok q.2.2.2.2.2.2.1 && (match decode bs q.1 with
  | .ok a => decide (a.1 = q.2.1) && (q.2.2.1 == q.1 + a.2 && zckb own ini q.2.1 q.2.2.2 q.1 a.2)
  | _ => false)
def zMb (M : zM) : Bool := M.2.2.2.2.2.all (zrowb M.2.1 (decide (M.1.name = "<init>")) M.2.2.1) && (Nat.ble M.2.2.2.1 100 && (decide (M.1.cls ≠ "java/lang/invoke/MethodHandle" ∧ M.1.cls ≠ "java/lang/invoke/VarHandle") && (plainName M.1.cls && decide (M.1.cls = zCn M.2.1))))
theorem zMb_ok {Ms : List zM} {M : zM} (hN : ∀ (y : Nat) (q : MethodName × Option FieldType), zNr[y]? = some q → ∃ M : zM, Ms[y]? = some M ∧ M.1 = q.1 ∧ M.2.2.2.2.1 = q.2) (h : zMb M = true) (hc : Cond.code M.1 M.2.2.1 M.2.2.2.1 M.2.2.2.2.1 ∈ zT) (hi : Cond.initialized M.1.cls ∈ zT) : zMok Ms M := by
  simp only [zMb, Bool.and_eq_true, decide_eq_true_eq, Nat.ble_eq] at h
  obtain ⟨h1, h2, h3, h4, h5⟩ := h
  refine ⟨fun q hq => ?_, h2, hc, hi, h3, h4, h5⟩
  have h6 := List.all_eq_true.mp h1 q hq
  simp only [zrowb, Bool.and_eq_true] at h6
  obtain ⟨h7, h8⟩ := h6
  refine ⟨zvok_ok h7, ?_⟩
  split at h8
  · rename_i a ha
    simp only [Bool.and_eq_true, decide_eq_true_eq, beq_iff_eq] at h8
    obtain ⟨h9, h10, h11⟩ := h8
    refine ⟨a.2, ?_, h10, zckb_ok hN (fun z => of_decide_eq_true z) h11⟩
    rw [ha, ← h9]
  · cases h8
