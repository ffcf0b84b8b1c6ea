/-! what the Statement gives of the start: classes, static cells, strings -/
theorem st_w1 : ∀ q ∈ vwCl, Cond.instantiable q.1 q.2.2 ∈ zT := by decide +kernel
theorem st_w2 : ∀ ty ∈ [FieldType.int, .long, .byte, .char, .boolean], Cond.arrayClass ty ∈ zT := by decide +kernel
theorem st_arr {s : State} {args : Array Value} (hts : ∀ w ∈ zT, w.before args s = true) {ty : FieldType} (h : Cond.arrayClass ty ∈ zT) : ∃ cA : ClassId, ArrOfT s cA ty ∧ s.vm.findClass ("[" ++ ty.toString) = some cA := by
  obtain ⟨cA, kA, comp, h1, h2, h3⟩ := Cond.arrayClass_spec (hts _ h)
  exact ⟨cA, fun n z => ⟨fun k h => (by cases h), kA, h2, comp, h3⟩, h1⟩
theorem st_K {s : State} {args : Array Value} (hts : ∀ w ∈ zT, w.before args s = true) : ∃ (cA dC : Nat → ClassId) (dI : Nat → Nat → Nat), va_K (dC, dI) vwCl (z_tys cA) s := by
  obtain ⟨c0, a0, b0⟩ := st_arr hts (st_w2 .int (by decide))
  obtain ⟨c1, a1, b1⟩ := st_arr hts (st_w2 .long (by decide))
  obtain ⟨c2, a2, b2⟩ := st_arr hts (st_w2 .byte (by decide))
  obtain ⟨c3, a3, b3⟩ := st_arr hts (st_w2 .char (by decide))
  obtain ⟨c4, a4, b4⟩ := st_arr hts (st_w2 .boolean (by decide))
  have hc : ∀ c : Nat, ∃ x : ClassId × (Nat → Nat), ∀ q, vwCl[c]? = some q → u_Kn s q.1 q.2.1 q.2.2 x.1 x.2 := by
    intro c
    cases e : vwCl[c]? with
    | none => exact ⟨(c0, fun _ => 0), fun q hq => by cases hq⟩
    | some q =>
      have hm := List.mem_of_getElem? e
      obtain ⟨cC, iS, h⟩ := u_known (T := q.2.1) (N := q.2.2) hts (z_cl q hm).1 (hts _ (st_w1 q hm))
      exact ⟨(cC, iS), fun q' hq => by cases hq; exact h⟩
  obtain ⟨f, hf⟩ := Classical.axiomOfChoice hc
  refine ⟨fun k => match k with | 0 => c0 | 1 => c1 | 2 => c2 | 3 => c3 | _ => c4, fun c => (f c).1, fun c => (f c).2, fun c q hq => hf c q hq, fun k q hk => ?_⟩
  match k, hk with
  | 0, hk => cases hk; exact ⟨a0, b0⟩
  | 1, hk => cases hk; exact ⟨a1, b1⟩
  | 2, hk => cases hk; exact ⟨a2, b2⟩
  | 3, hk => cases hk; exact ⟨a3, b3⟩
  | 4, hk => cases hk; exact ⟨a4, b4⟩
  | k + 5, hk => cases hk
theorem vk_S.same {N : Nat} {len : List Nat} {byt : List (List Int32)} {adK adV adK' adV' : Nat → Nat} {A : Nat → Prop} {U : State} {H : Heap} (h : vk_S N len byt adK adV A U H) (h1 : ∀ i, i < N → adK' i = adK i) (h2 : ∀ i, i < N → adV' i = adV i) : vk_S N len byt adK' adV' A U H := by
  refine ⟨fun i hi => ?_, fun i j hi hj => ?_⟩
  · rw [h1 i hi, h2 i hi]
    exact h.1 i hi
  · rw [h1 i hi, h1 j hj]
    exact h.2 i j hi hj
def st_tm (i : Nat) : Term := [Term.string "InnRegister$Rule" 73, Term.string "InnRegisterModel" 124, Term.string "InnRegisterModel" 158, Term.string "InnRegisterModel" 160, Term.string "InnRegisterModel" 162, Term.string "InnRegisterModel" 229].getD i (.int 0)
def st_L : List Cond := flatC (Jvm.Cond.and given_1 narrow_1)
def st_pw : Term := .static "InnRegister" "POWER" "[I"
theorem st_p0 : Cond.arrayOf st_pw .int ∈ st_L := by decide +kernel
theorem st_p1 : Cond.eq (.length st_pw) (.int 8) ∈ st_L := by decide +kernel
theorem st_p2 : ∀ j, j < 8 → Cond.eq (.elem st_pw (.int (Int32.ofNat j))) (.int (z_pw j)) ∈ st_L := by decide +kernel
theorem st_q0 : ∀ i, i < 6 → Cond.exactly (st_tm i) "java/lang/String" ∈ st_L := by decide +kernel
theorem st_q1 : ∀ i, i < 6 → Cond.eq (.field (st_tm i) "java/lang/String" "coder" "B") (.int 0) ∈ st_L := by decide +kernel
theorem st_q2 : ∀ i, i < 6 → Cond.arrayOf (.field (st_tm i) "java/lang/String" "value" "[B") .byte ∈ st_L := by decide +kernel
theorem st_q3 : ∀ i, i < 6 → Cond.eq (.length (.field (st_tm i) "java/lang/String" "value" "[B")) (.int (Int32.ofNat (z_slen.getD i 0))) ∈ st_L := by decide +kernel
theorem st_q4 : ∀ i, i < 6 → ∀ j, j < z_slen.getD i 0 → Cond.eq (.elem (.field (st_tm i) "java/lang/String" "value" "[B") (.int (Int32.ofNat j))) (.int ((z_sbyt.getD i []).getD j 0)) ∈ st_L := by decide +kernel
theorem st_q5 : ∀ i, i < 6 → ∀ j, j < 6 → i ≠ j → Cond.not (Cond.eq (st_tm i) (st_tm j)) ∈ st_L ∨ Cond.not (Cond.eq (st_tm j) (st_tm i)) ∈ st_L := by decide +kernel
theorem st_q6 : Cond.eq (Term.string "InnRegister$Rule" 73) (Term.string "InnRegisterModel" 153) ∈ st_L := by decide +kernel
theorem st_q7 : ∀ i, i < 6 → z_slen.getD i 0 < 2 ^ 31 := by decide
theorem st_r0 : Cond.laysStatic "InnRegister" "POWER" "[I" ∈ lw_tbl ∧ Cond.initialized "InnRegister" ∈ lw_tbl := by decide +kernel
theorem st_r1 : Cond.laysStatic "java/lang/String" "COMPACT_STRINGS" "Z" ∈ lw_tbl ∧ Cond.initialized "java/lang/String" ∈ lw_tbl := by decide +kernel
theorem st_r2 : Cond.laysStatic "jdk/internal/util/Preconditions" "SIOOBE_FORMATTER" "Ljava/util/function/BiFunction;" ∈ lw_tbl ∧ Cond.initialized "jdk/internal/util/Preconditions" ∈ lw_tbl := by decide +kernel
theorem st_r3 : Cond.eq (.static "java/lang/String" "COMPACT_STRINGS" "Z") (.int 1) ∈ st_L ∧ Cond.isRef (.static "jdk/internal/util/Preconditions" "SIOOBE_FORMATTER" "Ljava/util/function/BiFunction;") ∈ st_L := by decide +kernel
theorem st_r4 : Cond.laysStatic Bundle.tN "UNASSIGNED_STACK" Bundle.steD ∈ lw_tbl ∧ Cond.laysStatic Bundle.tN "SUPPRESSED_SENTINEL" Bundle.listD ∈ lw_tbl ∧ Cond.initialized Bundle.tN ∈ lw_tbl := by decide +kernel
theorem st_r5 : Cond.isRef (.static Bundle.tN "UNASSIGNED_STACK" Bundle.steD) ∈ st_L ∧ Cond.isRef (.static Bundle.tN "SUPPRESSED_SENTINEL" Bundle.listD) ∈ st_L := by decide +kernel
theorem st_x0 : ∀ q ∈ z_strs, Cond.stringRef q.1 q.2.1 q.2.2.1 ∈ lw_tbl := by decide +kernel
theorem st_x1 : ∀ w ∈ zNx, w ∈ lw_tbl := by decide +kernel
theorem st_x2 : ∀ w ∈ zN, w.onTables = true := by decide +kernel
