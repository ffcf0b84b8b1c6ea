/-! what comes of a run: zW at a place of a method, zK at a call; d: how deep calls may stand in one another -/
def zK (d : Nat) (y : Nat) (as : List Value) (H : zH) (Q : zR → Prop) : Prop := ∃ r, zB zMs d y as H r ∧ Q r
def zW (d : Nat) (M : zM) (pc : Nat) (S : zS) (Q : zR → Prop) : Prop := ∃ r, (∃ n, zrun (zB zMs d) M n pc S r) ∧ Q r
def zGo (d : Nat) (M : zM) (I : Instr) (x : zX) (nx : Nat) (S : zS) (Q : zR → Prop) : Prop := match zplain I x S with
  | some q => q.1 ∧ zW d M nx q.2 Q
  | none => match zjump I x nx S.2.1 with
    | some q => zW d M q.1 (S.1, q.2, S.2.2) Q
    | none => match zret M.2.2.2.2.1 I S.2.1 with
      | some q => q.1 ∧ Q (q.2, S.2.2)
      | none => match zinv I x S with
        | some q => q.1 ∧ zK d q.2.1 q.2.2.1 S.2.2 (fun v => zW d M nx (S.1, v.1.toList ++ q.2.2.2, v.2) Q)
        | none => False
theorem zW_step {d : Nat} {M : zM} {pc : Nat} {I : Instr} {nx : Nat} {x : zX} (h : M.2.2.2.2.2.lookup pc = some (I, nx, x)) (S : zS) (Q : zR → Prop) : zW d M pc S Q = zGo d M I x nx S Q := by
  have hs : ∀ n r, zrun (zB zMs d) M (n + 1) pc S r ↔ zone (zB zMs d) M.2.2.2.2.1 I x nx S (zrun (zB zMs d) M n) r := by
    intro n r
    show (match M.2.2.2.2.2.lookup pc with | none => False | some (I, nx, x) => zone (zB zMs d) M.2.2.2.2.1 I x nx S (zrun (zB zMs d) M n) r) ↔ _
    rw [h]
  apply propext
  constructor
  · rintro ⟨r, ⟨n, hn⟩, hq⟩
    cases n with
    | zero => exact absurd hn id
    | succ n =>
      rw [hs] at hn
      unfold zone at hn
      unfold zGo
      split at hn
      · rename_i q hp
        simp only [hp]
        exact ⟨hn.1, r, ⟨n, hn.2⟩, hq⟩
      · rename_i hp
        simp only [hp]
        split at hn
        · rename_i q hj
          simp only [hj]
          exact ⟨r, ⟨n, hn⟩, hq⟩
        · rename_i hj
          simp only [hj]
          split at hn
          · rename_i q hr
            simp only [hr]
            obtain ⟨h1, rfl⟩ := hn
            exact ⟨h1, hq⟩
          · rename_i hr
            simp only [hr]
            split at hn
            · rename_i q hi
              simp only [hi]
              obtain ⟨h1, v, h2, h3⟩ := hn
              exact ⟨h1, v, h2, r, ⟨n, h3⟩, hq⟩
            · exact absurd hn id
  · intro hg
    unfold zGo at hg
    have mk : ∀ r, (∃ n, zone (zB zMs d) M.2.2.2.2.1 I x nx S (zrun (zB zMs d) M n) r) → Q r → zW d M pc S Q := fun r ⟨n, hn⟩ hq => ⟨r, ⟨n + 1, (hs n r).mpr hn⟩, hq⟩
    split at hg
    · rename_i q hp
      obtain ⟨h1, r, ⟨n, hn⟩, hq⟩ := hg
      refine mk r ⟨n, ?_⟩ hq
      unfold zone
      rw [hp]
      exact ⟨h1, hn⟩
    · rename_i hp
      split at hg
      · rename_i q hj
        obtain ⟨r, ⟨n, hn⟩, hq⟩ := hg
        refine mk r ⟨n, ?_⟩ hq
        unfold zone
        rw [hp, hj]
        exact hn
      · rename_i hj
        split at hg
        · rename_i q hr
          refine mk _ ⟨0, ?_⟩ hg.2
          unfold zone
          rw [hp, hj, hr]
          exact ⟨hg.1, rfl⟩
        · rename_i hr
          split at hg
          · rename_i q hi
            obtain ⟨h1, v, h2, r, ⟨n, hn⟩, hq⟩ := hg
            refine mk r ⟨n, ?_⟩ hq
            unfold zone
            rw [hp, hj, hr, hi]
            exact ⟨h1, v, h2, hn⟩
          · exact absurd hg id
theorem zW_ite {d : Nat} {M : zM} {c : Prop} {hc : Decidable c} {a b : Nat} {S : zS} {Q : zR → Prop} : zW d M (if c then a else b) S Q = if c then zW d M a S Q else zW d M b S Q := by split <;> rfl
/-- a call's own run -/
theorem zK_in {d y : Nat} {M : zM} {as : List Value} {H : zH} {Q : zR → Prop} (hM : zMs[y]? = some M) (hl : (as.flatMap fun v => if v.category = 2 then [v, Value.null] else [v]).length ≤ M.2.2.2.1) (h : zW d M 0 (z_in M.2.2.2.1 as, [], H) Q) : zK (d + 1) y as H Q := by
  obtain ⟨r, hn, hq⟩ := h
  exact ⟨r, ⟨M, hM, hl, hn⟩, hq⟩
theorem zK_im {d y : Nat} {as : List Value} {H : zH} {Q Q' : zR → Prop} (h : zK d y as H Q) (hQ : ∀ r, Q r → Q' r) : zK d y as H Q' := by
  obtain ⟨r, h1, h2⟩ := h
  exact ⟨r, h1, hQ r h2⟩
theorem zW_im {d : Nat} {M : zM} {pc : Nat} {S : zS} {Q Q' : zR → Prop} (h : zW d M pc S Q) (hQ : ∀ r, Q r → Q' r) : zW d M pc S Q' := by
  obtain ⟨r, h1, h2⟩ := h
  exact ⟨r, h1, hQ r h2⟩
theorem zrun_mono {C C' : zC} (hC : ∀ y as H r, C y as H r → C' y as H r) {M : zM} : ∀ n pc S r, zrun C M n pc S r → zrun C' M n pc S r := by
  intro n
  induction n with
  | zero => intro pc S r h; exact h
  | succ n ih =>
    intro pc S r h
    unfold zrun at h ⊢
    split at h
    · exact h
    · unfold zone at h ⊢
      split at h
      · exact ⟨h.1, ih _ _ _ h.2⟩
      · split at h
        · exact ih _ _ _ h
        · split at h
          · exact h
          · split at h
            · obtain ⟨h1, v, h2, h3⟩ := h
              exact ⟨h1, v, hC _ _ _ _ h2, ih _ _ _ h3⟩
            · exact h
theorem zB_succ : ∀ d y as H r, zB zMs d y as H r → zB zMs (d + 1) y as H r := by
  intro d
  induction d with
  | zero => intro y as H r h; exact absurd h id
  | succ d ih =>
    intro y as H r h
    obtain ⟨M, h1, h2, n, h3⟩ := h
    exact ⟨M, h1, h2, n, zrun_mono ih n _ _ _ h3⟩
theorem zB_le {d d' : Nat} (hd : d ≤ d') {y : Nat} {as : List Value} {H : zH} {r : zR} (h : zB zMs d y as H r) : zB zMs d' y as H r := by
  induction hd with
  | refl => exact h
  | step _ ih => exact zB_succ _ _ _ _ _ ih
theorem zK_le {d d' : Nat} (hd : d ≤ d') {y : Nat} {as : List Value} {H : zH} {Q : zR → Prop} (h : zK d y as H Q) : zK d' y as H Q := by
  obtain ⟨r, h1, h2⟩ := h
  exact ⟨r, zB_le hd h1, h2⟩
section ZG
variable {d : Nat} {M : zM} {nx : Nat} {L st : List Value} {h : Nat → zE} {u : zU} {H : zH} {Q : zR → Prop}
theorem zg_iconst {n : Int} {v : Value} : zGo d M (.iconst n) (zv v) nx (L, st, H) Q = (zW d M nx (L, v :: st, H) Q) := by simp [zGo, zplain, zpu, zld, zst, zbin, zbinl, zbinm, zun, zdup, zpop, zpop2, zdup2, zobj]
theorem zg_bipush {n : Int} {v : Value} : zGo d M (.bipush n) (zv v) nx (L, st, H) Q = (zW d M nx (L, v :: st, H) Q) := by simp [zGo, zplain, zpu, zld, zst, zbin, zbinl, zbinm, zun, zdup, zpop, zpop2, zdup2, zobj]
theorem zg_sipush {n : Int} {v : Value} : zGo d M (.sipush n) (zv v) nx (L, st, H) Q = (zW d M nx (L, v :: st, H) Q) := by simp [zGo, zplain, zpu, zld, zst, zbin, zbinl, zbinm, zun, zdup, zpop, zpop2, zdup2, zobj]
theorem zg_lconst {n : Fin 2} {v : Value} : zGo d M (.lconst n) (zv v) nx (L, st, H) Q = (zW d M nx (L, v :: st, H) Q) := by simp [zGo, zplain, zpu, zld, zst, zbin, zbinl, zbinm, zun, zdup, zpop, zpop2, zdup2, zobj]
theorem zg_ldc {n : Nat} {v : Value} : zGo d M (.ldc n) (zv v) nx (L, st, H) Q = (zW d M nx (L, v :: st, H) Q) := by simp [zGo, zplain, zpu, zld, zst, zbin, zbinl, zbinm, zun, zdup, zpop, zpop2, zdup2, zobj]
theorem zg_ldc_w {n : Nat} {v : Value} : zGo d M (.ldc_w n) (zv v) nx (L, st, H) Q = (zW d M nx (L, v :: st, H) Q) := by simp [zGo, zplain, zpu, zld, zst, zbin, zbinl, zbinm, zun, zdup, zpop, zpop2, zdup2, zobj]
theorem zg_ldc2_w {n : Nat} {v : Value} : zGo d M (.ldc2_w n) (zv v) nx (L, st, H) Q = (zW d M nx (L, v :: st, H) Q) := by simp [zGo, zplain, zpu, zld, zst, zbin, zbinl, zbinm, zun, zdup, zpop, zpop2, zdup2, zobj]
theorem zg_getstatic {n : Nat} {v : Value} : zGo d M (.getstatic n) (zv v) nx (L, st, H) Q = (zW d M nx (L, v :: st, H) Q) := by simp [zGo, zplain, zpu, zld, zst, zbin, zbinl, zbinm, zun, zdup, zpop, zpop2, zdup2, zobj]
def zLd (t : Nat) (v : Option Value) (d : Nat) (M : zM) (nx : Nat) (L st : List Value) (H : zH) (Q : zR → Prop) : Prop := match v, t with
  | some (.int y), 0 => zW d M nx (L, .int y :: st, H) Q
  | some (.long y), 1 => zW d M nx (L, .long y :: st, H) Q
  | some (.ref y), 2 => zW d M nx (L, .ref y :: st, H) Q
  | _, _ => False
theorem zLd_i {y : Int32} : zLd 0 (some (.int y)) d M nx L st H Q = zW d M nx (L, .int y :: st, H) Q := rfl
theorem zLd_l {y : Int64} : zLd 1 (some (.long y)) d M nx L st H Q = zW d M nx (L, .long y :: st, H) Q := rfl
theorem zLd_a {y : Nat} : zLd 2 (some (.ref y)) d M nx L st H Q = zW d M nx (L, .ref y :: st, H) Q := rfl
theorem zg_iload {i : Nat} {x : zX} : zGo d M (.iload i) x nx (L, st, H) Q = zLd 0 (L[i]?) d M nx L st H Q := by
  unfold zGo zLd
  simp only [zplain, zld, zjump, zret, zinv]
  cases L[i]? with
  | none => rfl
  | some v => cases v <;> simp
theorem zg_iload_n {i : Fin 4} {x : zX} : zGo d M (.iload_n i) x nx (L, st, H) Q = zLd 0 (L[(i : Nat)]?) d M nx L st H Q := by
  unfold zGo zLd
  simp only [zplain, zld, zjump, zret, zinv]
  cases L[(i : Nat)]? with
  | none => rfl
  | some v => cases v <;> simp
theorem zg_lload {i : Nat} {x : zX} : zGo d M (.lload i) x nx (L, st, H) Q = zLd 1 (L[i]?) d M nx L st H Q := by
  unfold zGo zLd
  simp only [zplain, zld, zjump, zret, zinv]
  cases L[i]? with
  | none => rfl
  | some v => cases v <;> simp
theorem zg_lload_n {i : Fin 4} {x : zX} : zGo d M (.lload_n i) x nx (L, st, H) Q = zLd 1 (L[(i : Nat)]?) d M nx L st H Q := by
  unfold zGo zLd
  simp only [zplain, zld, zjump, zret, zinv]
  cases L[(i : Nat)]? with
  | none => rfl
  | some v => cases v <;> simp
theorem zg_aload {i : Nat} {x : zX} : zGo d M (.aload i) x nx (L, st, H) Q = zLd 2 (L[i]?) d M nx L st H Q := by
  unfold zGo zLd
  simp only [zplain, zld, zjump, zret, zinv]
  cases L[i]? with
  | none => rfl
  | some v => cases v <;> simp
theorem zg_aload_n {i : Fin 4} {x : zX} : zGo d M (.aload_n i) x nx (L, st, H) Q = zLd 2 (L[(i : Nat)]?) d M nx L st H Q := by
  unfold zGo zLd
  simp only [zplain, zld, zjump, zret, zinv]
  cases L[(i : Nat)]? with
  | none => rfl
  | some v => cases v <;> simp
theorem zg_istore {y : Int32} {i : Nat} {x : zX} : zGo d M (.istore i) x nx (L, .int y :: st, H) Q = (i < L.length ∧ zW d M nx (z_set L i (.int y), st, H) Q) := by simp [zGo, zplain, zst]
theorem zg_istore_n {y : Int32} {i : Fin 4} {x : zX} : zGo d M (.istore_n i) x nx (L, .int y :: st, H) Q = ((i : Nat) < L.length ∧ zW d M nx (z_set L (i : Nat) (.int y), st, H) Q) := by simp [zGo, zplain, zst]
theorem zg_astore {y : Nat} {i : Nat} {x : zX} : zGo d M (.astore i) x nx (L, .ref y :: st, H) Q = (i < L.length ∧ zW d M nx (z_set L i (.ref y), st, H) Q) := by simp [zGo, zplain, zst]
theorem zg_astore_n {y : Nat} {i : Fin 4} {x : zX} : zGo d M (.astore_n i) x nx (L, .ref y :: st, H) Q = ((i : Nat) < L.length ∧ zW d M nx (z_set L (i : Nat) (.ref y), st, H) Q) := by simp [zGo, zplain, zst]
theorem zg_lstore {y : Int64} {i : Nat} {x : zX} : zGo d M (.lstore i) x nx (L, .long y :: st, H) Q = (i + 1 < L.length ∧ zW d M nx (z_set2 L i (.long y), st, H) Q) := by simp [zGo, zplain, zst]
theorem zg_lstore_n {y : Int64} {i : Fin 4} {x : zX} : zGo d M (.lstore_n i) x nx (L, .long y :: st, H) Q = ((i : Nat) + 1 < L.length ∧ zW d M nx (z_set2 L (i : Nat) (.long y), st, H) Q) := by simp [zGo, zplain, zst]
def zInc (v : Option Value) (n : Int32) (i d : Nat) (M : zM) (nx : Nat) (L st : List Value) (H : zH) (Q : zR → Prop) : Prop := match v with
  | some (.int y) => i < L.length ∧ zW d M nx (z_set L i (.int (y + n)), st, H) Q
  | _ => False
theorem zInc_i {y n : Int32} {i : Nat} : zInc (some (.int y)) n i d M nx L st H Q = (i < L.length ∧ zW d M nx (z_set L i (.int (y + n)), st, H) Q) := rfl
theorem zg_iinc {i : Nat} {n : Int32} {k : Int} : zGo d M (.iinc i k) (zv (.int n)) nx (L, st, H) Q = zInc (L[i]?) n i d M nx L st H Q := by
  unfold zGo zInc
  simp only [zplain, zjump, zret, zinv]
  cases L[i]? with
  | none => rfl
  | some v => cases v <;> simp
theorem zg_iadd {x : zX} {a b : Int32} : zGo d M (.iadd) x nx (L, .int b :: .int a :: st, H) Q = (zW d M nx (L, .int (a + b) :: st, H) Q) := by simp [zGo, zplain, zpu, zld, zst, zbin, zbinl, zbinm, zun, zdup, zpop, zpop2, zdup2, zobj]
theorem zg_isub {x : zX} {a b : Int32} : zGo d M (.isub) x nx (L, .int b :: .int a :: st, H) Q = (zW d M nx (L, .int (a - b) :: st, H) Q) := by simp [zGo, zplain, zpu, zld, zst, zbin, zbinl, zbinm, zun, zdup, zpop, zpop2, zdup2, zobj]
theorem zg_imul {x : zX} {a b : Int32} : zGo d M (.imul) x nx (L, .int b :: .int a :: st, H) Q = (zW d M nx (L, .int (a * b) :: st, H) Q) := by simp [zGo, zplain, zpu, zld, zst, zbin, zbinl, zbinm, zun, zdup, zpop, zpop2, zdup2, zobj]
theorem zg_iand {x : zX} {a b : Int32} : zGo d M (.iand) x nx (L, .int b :: .int a :: st, H) Q = (zW d M nx (L, .int (a &&& b) :: st, H) Q) := by simp [zGo, zplain, zpu, zld, zst, zbin, zbinl, zbinm, zun, zdup, zpop, zpop2, zdup2, zobj]
theorem zg_ior {x : zX} {a b : Int32} : zGo d M (.ior) x nx (L, .int b :: .int a :: st, H) Q = (zW d M nx (L, .int (a ||| b) :: st, H) Q) := by simp [zGo, zplain, zpu, zld, zst, zbin, zbinl, zbinm, zun, zdup, zpop, zpop2, zdup2, zobj]
theorem zg_ixor {x : zX} {a b : Int32} : zGo d M (.ixor) x nx (L, .int b :: .int a :: st, H) Q = (zW d M nx (L, .int (a ^^^ b) :: st, H) Q) := by simp [zGo, zplain, zpu, zld, zst, zbin, zbinl, zbinm, zun, zdup, zpop, zpop2, zdup2, zobj]
theorem zg_ishl {x : zX} {a b : Int32} : zGo d M (.ishl) x nx (L, .int b :: .int a :: st, H) Q = (zW d M nx (L, .int (a <<< (b &&& 31)) :: st, H) Q) := by simp [zGo, zplain, zpu, zld, zst, zbin, zbinl, zbinm, zun, zdup, zpop, zpop2, zdup2, zobj]
theorem zg_ishr {x : zX} {a b : Int32} : zGo d M (.ishr) x nx (L, .int b :: .int a :: st, H) Q = (zW d M nx (L, .int (a >>> (b &&& 31)) :: st, H) Q) := by simp [zGo, zplain, zpu, zld, zst, zbin, zbinl, zbinm, zun, zdup, zpop, zpop2, zdup2, zobj]
theorem zg_iushr {x : zX} {a b : Int32} : zGo d M (.iushr) x nx (L, .int b :: .int a :: st, H) Q = (zW d M nx (L, .int ((a.toUInt32 >>> (b.toUInt32 &&& Int32.toUInt32 31)).toInt32) :: st, H) Q) := by simp [zGo, zplain, zpu, zld, zst, zbin, zbinl, zbinm, zun, zdup, zpop, zpop2, zdup2, zobj]
theorem zg_idiv {x : zX} {a b : Int32} : zGo d M (.idiv) x nx (L, .int b :: .int a :: st, H) Q = (¬ b = 0 ∧ zW d M nx (L, .int (a / b) :: st, H) Q) := by simp [zGo, zplain, zpu, zld, zst, zbin, zbinl, zbinm, zun, zdup, zpop, zpop2, zdup2, zobj]
theorem zg_irem {x : zX} {a b : Int32} : zGo d M (.irem) x nx (L, .int b :: .int a :: st, H) Q = (¬ b = 0 ∧ zW d M nx (L, .int (a - a / b * b) :: st, H) Q) := by simp [zGo, zplain, zpu, zld, zst, zbin, zbinl, zbinm, zun, zdup, zpop, zpop2, zdup2, zobj]
theorem zg_ladd {x : zX} {a b : Int64} : zGo d M (.ladd) x nx (L, .long b :: .long a :: st, H) Q = (zW d M nx (L, .long (a + b) :: st, H) Q) := by simp [zGo, zplain, zpu, zld, zst, zbin, zbinl, zbinm, zun, zdup, zpop, zpop2, zdup2, zobj]
theorem zg_lsub {x : zX} {a b : Int64} : zGo d M (.lsub) x nx (L, .long b :: .long a :: st, H) Q = (zW d M nx (L, .long (a - b) :: st, H) Q) := by simp [zGo, zplain, zpu, zld, zst, zbin, zbinl, zbinm, zun, zdup, zpop, zpop2, zdup2, zobj]
theorem zg_lmul {x : zX} {a b : Int64} : zGo d M (.lmul) x nx (L, .long b :: .long a :: st, H) Q = (zW d M nx (L, .long (a * b) :: st, H) Q) := by simp [zGo, zplain, zpu, zld, zst, zbin, zbinl, zbinm, zun, zdup, zpop, zpop2, zdup2, zobj]
theorem zg_land {x : zX} {a b : Int64} : zGo d M (.land) x nx (L, .long b :: .long a :: st, H) Q = (zW d M nx (L, .long (a &&& b) :: st, H) Q) := by simp [zGo, zplain, zpu, zld, zst, zbin, zbinl, zbinm, zun, zdup, zpop, zpop2, zdup2, zobj]
theorem zg_lor {x : zX} {a b : Int64} : zGo d M (.lor) x nx (L, .long b :: .long a :: st, H) Q = (zW d M nx (L, .long (a ||| b) :: st, H) Q) := by simp [zGo, zplain, zpu, zld, zst, zbin, zbinl, zbinm, zun, zdup, zpop, zpop2, zdup2, zobj]
theorem zg_lxor {x : zX} {a b : Int64} : zGo d M (.lxor) x nx (L, .long b :: .long a :: st, H) Q = (zW d M nx (L, .long (a ^^^ b) :: st, H) Q) := by simp [zGo, zplain, zpu, zld, zst, zbin, zbinl, zbinm, zun, zdup, zpop, zpop2, zdup2, zobj]
theorem zg_ldiv {x : zX} {a b : Int64} : zGo d M (.ldiv) x nx (L, .long b :: .long a :: st, H) Q = (¬ b = 0 ∧ zW d M nx (L, .long (a / b) :: st, H) Q) := by simp [zGo, zplain, zpu, zld, zst, zbin, zbinl, zbinm, zun, zdup, zpop, zpop2, zdup2, zobj]
theorem zg_lrem {x : zX} {a b : Int64} : zGo d M (.lrem) x nx (L, .long b :: .long a :: st, H) Q = (¬ b = 0 ∧ zW d M nx (L, .long (a - a / b * b) :: st, H) Q) := by simp [zGo, zplain, zpu, zld, zst, zbin, zbinl, zbinm, zun, zdup, zpop, zpop2, zdup2, zobj]
theorem zg_lcmp {x : zX} {a b : Int64} : zGo d M (.lcmp) x nx (L, .long b :: .long a :: st, H) Q = (zW d M nx (L, .int (lg_cmp a b) :: st, H) Q) := by simp [zGo, zplain, zpu, zld, zst, zbin, zbinl, zbinm, zun, zdup, zpop, zpop2, zdup2, zobj]
theorem zg_lshl {x : zX} {a : Int64} {b : Int32} : zGo d M (.lshl) x nx (L, .int b :: .long a :: st, H) Q = (zW d M nx (L, .long (a <<< (b.toInt64 &&& 63)) :: st, H) Q) := by simp [zGo, zplain, zpu, zld, zst, zbin, zbinl, zbinm, zun, zdup, zpop, zpop2, zdup2, zobj]
theorem zg_lushr {x : zX} {a : Int64} {b : Int32} : zGo d M (.lushr) x nx (L, .int b :: .long a :: st, H) Q = (zW d M nx (L, .long ((a.toUInt64 >>> (b.toInt64.toUInt64 &&& Int64.toUInt64 63)).toInt64) :: st, H) Q) := by simp [zGo, zplain, zpu, zld, zst, zbin, zbinl, zbinm, zun, zdup, zpop, zpop2, zdup2, zobj]
theorem zg_ineg {x : zX} {a : Int32} : zGo d M (.ineg) x nx (L, .int a :: st, H) Q = (zW d M nx (L, .int (-a) :: st, H) Q) := by simp [zGo, zplain, zpu, zld, zst, zbin, zbinl, zbinm, zun, zdup, zpop, zpop2, zdup2, zobj]
theorem zg_i2l {x : zX} {a : Int32} : zGo d M (.i2l) x nx (L, .int a :: st, H) Q = (zW d M nx (L, .long a.toInt64 :: st, H) Q) := by simp [zGo, zplain, zpu, zld, zst, zbin, zbinl, zbinm, zun, zdup, zpop, zpop2, zdup2, zobj]
theorem zg_i2b {x : zX} {a : Int32} : zGo d M (.i2b) x nx (L, .int a :: st, H) Q = (zW d M nx (L, .int a.toInt8.toInt32 :: st, H) Q) := by simp [zGo, zplain, zpu, zld, zst, zbin, zbinl, zbinm, zun, zdup, zpop, zpop2, zdup2, zobj]
theorem zg_i2s {x : zX} {a : Int32} : zGo d M (.i2s) x nx (L, .int a :: st, H) Q = (zW d M nx (L, .int a.toInt16.toInt32 :: st, H) Q) := by simp [zGo, zplain, zpu, zld, zst, zbin, zbinl, zbinm, zun, zdup, zpop, zpop2, zdup2, zobj]
theorem zg_i2c {x : zX} {a : Int32} : zGo d M (.i2c) x nx (L, .int a :: st, H) Q = (zW d M nx (L, .int (a.toUInt32 % 65536).toInt32 :: st, H) Q) := by simp [zGo, zplain, zpu, zld, zst, zbin, zbinl, zbinm, zun, zdup, zpop, zpop2, zdup2, zobj]
theorem zg_l2i {x : zX} {a : Int64} : zGo d M (.l2i) x nx (L, .long a :: st, H) Q = (zW d M nx (L, .int a.toInt32 :: st, H) Q) := by simp [zGo, zplain, zpu, zld, zst, zbin, zbinl, zbinm, zun, zdup, zpop, zpop2, zdup2, zobj]
theorem zg_dup {x : zX} {v : Value} : zGo d M (.dup) x nx (L, v :: st, H) Q = (v.category = 1 ∧ zW d M nx (L, v :: v :: st, H) Q) := by simp [zGo, zplain, zpu, zld, zst, zbin, zbinl, zbinm, zun, zdup, zpop, zpop2, zdup2, zobj]
theorem zg_pop {x : zX} {v : Value} : zGo d M (.pop) x nx (L, v :: st, H) Q = (v.category = 1 ∧ zW d M nx (L, st, H) Q) := by simp [zGo, zplain, zpu, zld, zst, zbin, zbinl, zbinm, zun, zdup, zpop, zpop2, zdup2, zobj]
theorem zg_pop2 {x : zX} {v : Value} : zGo d M (.pop2) x nx (L, v :: st, H) Q = (v.category = 2 ∧ zW d M nx (L, st, H) Q) := by simp [zGo, zplain, zpu, zld, zst, zbin, zbinl, zbinm, zun, zdup, zpop, zpop2, zdup2, zobj]
theorem zg_dup2 {x : zX} {v w : Value} : zGo d M (.dup2) x nx (L, v :: w :: st, H) Q = ((v.category = 1 ∧ w.category = 1) ∧ zW d M nx (L, v :: w :: v :: w :: st, H) Q) := by simp [zGo, zplain, zpu, zld, zst, zbin, zbinl, zbinm, zun, zdup, zpop, zpop2, zdup2, zobj]
def zGet (e : zE) (ci k d : Nat) (M : zM) (nx : Nat) (L st : List Value) (H : zH) (Q : zR → Prop) : Prop := match e with
  | .inr o => (match o.2[k]? with
    | some v => o.1 = ci ∧ zW d M nx (L, v :: st, H) Q
    | none => False)
  | .inl _ => False
def zGet2 (v : Option Value) (d : Nat) (M : zM) (nx : Nat) (L st : List Value) (H : zH) (Q : zR → Prop) : Prop := match v with
  | some v => zW d M nx (L, v :: st, H) Q
  | none => False
theorem zGet2_s {v : Value} : zGet2 (some v) d M nx L st H Q = zW d M nx (L, v :: st, H) Q := rfl
theorem zGet_o {c ci k : Nat} {fs : List Value} : zGet (zO c fs) ci k d M nx L st H Q = (c = ci ∧ zGet2 (fs[k]?) d M nx L st H Q) := by
  unfold zGet zGet2
  simp only
  cases fs[k]? <;> simp
theorem zg_getfield {i kd ci k : Nat} {a : Nat} : zGo d M (.getfield i) (zf kd ci k) nx (L, .ref a :: st, (h, u)) Q = zGet (z_cell h a) ci k d M nx L st (h, u) Q := by
  unfold zGo zGet
  simp only [zplain, zget, zjump, zret, zinv]
  cases z_cell h a with
  | inl e => rfl
  | inr o =>
    simp only
    cases o.2[k]? <;> rfl
def zPut (e : zE) (v : Value) (kd ci k a d : Nat) (M : zM) (nx : Nat) (L st : List Value) (h : Nat → zE) (u : zU) (Q : zR → Prop) : Prop := match e with
  | .inr o => (zfit kd v ∧ a < 1000 ∧ o.1 = ci ∧ k < o.2.length) ∧ zW d M nx (L, st, (z_up h a (.inr (o.1, o.2.set k v)), u)) Q
  | .inl _ => False
theorem zPut_o {c kd ci k a : Nat} {v : Value} {fs : List Value} : zPut (zO c fs) v kd ci k a d M nx L st h u Q = ((zfit kd v ∧ a < 1000 ∧ c = ci ∧ k < fs.length) ∧ zW d M nx (L, st, (z_up h a (zO c (fs.set k v)), u)) Q) := rfl
theorem zg_putfield {i kd ci k : Nat} {a : Nat} {v : Value} : zGo d M (.putfield i) (zf kd ci k) nx (L, v :: .ref a :: st, (h, u)) Q = zPut (h a) v kd ci k a d M nx L st h u Q := by
  unfold zGo zPut
  simp only [zplain, zput, zjump, zret, zinv]
  cases h a with
  | inl e => rfl
  | inr o => rfl
def zAld (e : zE) (t : Nat) (i : Int32) (d : Nat) (M : zM) (nx : Nat) (L st : List Value) (H : zH) (Q : zR → Prop) : Prop := match e with
  | .inl (t1, N, .inl f) => (t1 = t ∧ vp_in i N) ∧ zW d M nx (L, .int (f i.toNatClampNeg) :: st, H) Q
  | _ => False
theorem zAld_i {t1 N t : Nat} {f : Nat → Int32} {i : Int32} : zAld (zI t1 N f) t i d M nx L st H Q = ((t1 = t ∧ vp_in i N) ∧ zW d M nx (L, .int (f i.toNatClampNeg) :: st, H) Q) := rfl
theorem zAld_go {I : Instr} {x : zX} {t : Nat} (hI : ∀ S, zplain I x S = zald S t) (hj : ∀ nx st, zjump I x nx st = none) (hr : ∀ rt st, zret rt I st = none) (hi : ∀ S, zinv I x S = none) {a : Nat} {i : Int32} : zGo d M I x nx (L, .int i :: .ref a :: st, (h, u)) Q = zAld (z_cell h a) t i d M nx L st (h, u) Q := by
  unfold zGo zAld
  simp only [hI, hj, hr, hi, zald]
  cases z_cell h a with
  | inl e =>
    obtain ⟨t1, N, f⟩ := e
    cases f <;> rfl
  | inr o => rfl
theorem zg_iaload {x : zX} {a : Nat} {i : Int32} : zGo d M .iaload x nx (L, .int i :: .ref a :: st, (h, u)) Q = zAld (z_cell h a) 0 i d M nx L st (h, u) Q := zAld_go (fun _ => rfl) (fun _ _ => rfl) (fun _ _ => rfl) (fun _ => rfl)
theorem zg_caload {x : zX} {a : Nat} {i : Int32} : zGo d M .caload x nx (L, .int i :: .ref a :: st, (h, u)) Q = zAld (z_cell h a) 3 i d M nx L st (h, u) Q := zAld_go (fun _ => rfl) (fun _ _ => rfl) (fun _ _ => rfl) (fun _ => rfl)
theorem zg_baload {b : Nat} {a : Nat} {i : Int32} : zGo d M .baload (zb b) nx (L, .int i :: .ref a :: st, (h, u)) Q = zAld (z_cell h a) b i d M nx L st (h, u) Q := zAld_go (fun _ => rfl) (fun _ _ => rfl) (fun _ _ => rfl) (fun _ => rfl)
def zAll (e : zE) (a : Nat) (i : Int32) (d : Nat) (M : zM) (nx : Nat) (L st : List Value) (H : zH) (Q : zR → Prop) : Prop := match e with
  | .inl (t1, N, .inr (.inl f)) => (t1 = 1 ∧ a < 1000 ∧ vp_in i N) ∧ zW d M nx (L, .long (f i.toNatClampNeg) :: st, H) Q
  | _ => False
theorem zAll_j {N a : Nat} {f : Nat → Int64} {i : Int32} : zAll (zJ N f) a i d M nx L st H Q = ((a < 1000 ∧ vp_in i N) ∧ zW d M nx (L, .long (f i.toNatClampNeg) :: st, H) Q) := by
  unfold zAll; simp
theorem zg_laload {x : zX} {a : Nat} {i : Int32} : zGo d M .laload x nx (L, .int i :: .ref a :: st, (h, u)) Q = zAll (h a) a i d M nx L st (h, u) Q := by
  unfold zGo zAll
  simp only [zplain, zaldl, zjump, zret, zinv]
  cases h a with
  | inl e =>
    obtain ⟨t1, N, f⟩ := e
    rcases f with f | f | f | f | f <;> rfl
  | inr o => rfl
def zAst (e : zE) (t : Nat) (g : Int32 → Int32) (a : Nat) (i y : Int32) (d : Nat) (M : zM) (nx : Nat) (L st : List Value) (h : Nat → zE) (u : zU) (Q : zR → Prop) : Prop := match e with
  | .inl (t1, N, .inl f) => (t1 = t ∧ a < 1000 ∧ vp_in i N) ∧ zW d M nx (L, st, (z_up h a (.inl (t1, N, .inl (upd f i.toNatClampNeg (g y)))), u)) Q
  | _ => False
theorem zAst_i {t1 N t : Nat} {f : Nat → Int32} {g : Int32 → Int32} {a : Nat} {i y : Int32} : zAst (zI t1 N f) t g a i y d M nx L st h u Q = ((t1 = t ∧ a < 1000 ∧ vp_in i N) ∧ zW d M nx (L, st, (z_up h a (zI t1 N (upd f i.toNatClampNeg (g y))), u)) Q) := rfl
theorem zAst_go {I : Instr} {x : zX} {t : Nat} {g : Int32 → Int32} (hI : ∀ S, zplain I x S = zast S t g) (hj : ∀ nx st, zjump I x nx st = none) (hr : ∀ rt st, zret rt I st = none) (hi : ∀ S, zinv I x S = none) {a : Nat} {i y : Int32} : zGo d M I x nx (L, .int y :: .int i :: .ref a :: st, (h, u)) Q = zAst (h a) t g a i y d M nx L st h u Q := by
  unfold zGo zAst
  simp only [hI, hj, hr, hi, zast]
  cases h a with
  | inl e =>
    obtain ⟨t1, N, f⟩ := e
    cases f <;> rfl
  | inr o => rfl
theorem zg_iastore {x : zX} {a : Nat} {i y : Int32} : zGo d M .iastore x nx (L, .int y :: .int i :: .ref a :: st, (h, u)) Q = zAst (h a) 0 (fun x => x) a i y d M nx L st h u Q := zAst_go (fun _ => rfl) (fun _ _ => rfl) (fun _ _ => rfl) (fun _ => rfl)
theorem zg_castore {x : zX} {a : Nat} {i y : Int32} : zGo d M .castore x nx (L, .int y :: .int i :: .ref a :: st, (h, u)) Q = zAst (h a) 3 (vp_nar .char) a i y d M nx L st h u Q := zAst_go (fun _ => rfl) (fun _ _ => rfl) (fun _ _ => rfl) (fun _ => rfl)
theorem zg_bastore {a : Nat} {i y : Int32} : zGo d M .bastore (zb 2) nx (L, .int y :: .int i :: .ref a :: st, (h, u)) Q = zAst (h a) 2 (vp_nar .byte) a i y d M nx L st h u Q := zAst_go (fun _ => rfl) (fun _ _ => rfl) (fun _ _ => rfl) (fun _ => rfl)
theorem zg_zastore {a : Nat} {i y : Int32} : zGo d M .bastore (zb 4) nx (L, .int y :: .int i :: .ref a :: st, (h, u)) Q = zAst (h a) 4 (vp_nar .boolean) a i y d M nx L st h u Q := zAst_go (fun _ => rfl) (fun _ _ => rfl) (fun _ _ => rfl) (fun _ => rfl)
def zAsl (e : zE) (a : Nat) (i : Int32) (y : Int64) (d : Nat) (M : zM) (nx : Nat) (L st : List Value) (h : Nat → zE) (u : zU) (Q : zR → Prop) : Prop := match e with
  | .inl (t1, N, .inr (.inl f)) => (t1 = 1 ∧ a < 1000 ∧ vp_in i N) ∧ zW d M nx (L, st, (z_up h a (.inl (t1, N, .inr (.inl (vp_updL f i.toNatClampNeg y)))), u)) Q
  | _ => False
theorem zAsl_j {N a : Nat} {f : Nat → Int64} {i : Int32} {y : Int64} : zAsl (zJ N f) a i y d M nx L st h u Q = ((a < 1000 ∧ vp_in i N) ∧ zW d M nx (L, st, (z_up h a (zJ N (vp_updL f i.toNatClampNeg y)), u)) Q) := by
  unfold zAsl; simp
theorem zg_lastore {x : zX} {a : Nat} {i : Int32} {y : Int64} : zGo d M .lastore x nx (L, .long y :: .int i :: .ref a :: st, (h, u)) Q = zAsl (h a) a i y d M nx L st h u Q := by
  unfold zGo zAsl
  simp only [zplain, zastl, zjump, zret, zinv]
  cases h a with
  | inl e =>
    obtain ⟨t1, N, f⟩ := e
    rcases f with f | f | f | f | f <;> rfl
  | inr o => rfl
def zLen (e : zE) (d : Nat) (M : zM) (nx : Nat) (L st : List Value) (H : zH) (Q : zR → Prop) : Prop := match e with
  | .inl q => q.1 ≤ 4 ∧ zW d M nx (L, .int (Int32.ofNat q.2.1) :: st, H) Q
  | _ => False
theorem zLen_i {t N : Nat} {f : Nat → Int32} : zLen (zI t N f) d M nx L st H Q = (t ≤ 4 ∧ zW d M nx (L, .int (nI N) :: st, H) Q) := rfl
theorem zLen_j {N : Nat} {f : Nat → Int64} : zLen (zJ N f) d M nx L st H Q = (1 ≤ 4 ∧ zW d M nx (L, .int (nI N) :: st, H) Q) := rfl
theorem zg_arraylength {x : zX} {a : Nat} : zGo d M .arraylength x nx (L, .ref a :: st, (h, u)) Q = zLen (z_cell h a) d M nx L st (h, u) Q := by
  unfold zGo zLen
  simp only [zplain, zlen, zjump, zret, zinv]
  cases z_cell h a <;> rfl
theorem zg_newarray {t : Nat} {at_ : ArrayType} {i : Int32} {n kc ks : Nat} : zGo d M (.newarray at_) (zb t) nx (L, .int i :: st, (h, (n, kc, ks))) Q = (((¬ i < 0 ∧ i.toNatClampNeg ≤ 100000) ∧ n < 1000) ∧ zW d M nx (L, .ref n :: st, (z_up h n (z_a0 t i.toNatClampNeg), (n + 1, kc + 1, ks + i.toNatClampNeg))) Q) := rfl
theorem zg_newo {i ci n kc ks : Nat} : zGo d M (.new i) (zb ci) nx (L, st, (h, (n, kc, ks))) Q = ((ci < 12 ∧ n < 1000) ∧ zW d M nx (L, .ref n :: st, (z_up h n (zO ci (z_nf ci)), (n + 1, kc + 1, ks + (z_nf ci).length))) Q) := rfl
theorem zg_obj {i a : Nat} : zGo d M (.invokespecial i) (zt 998) nx (L, .ref a :: st, H) Q = ((st.map fun v => v.category).sum ≤ 8 ∧ zW d M nx (L, st, H) Q) := rfl
theorem zg_chi {i : Nat} {n j : Int32} : zGo d M (.invokestatic i) (zt 997) nx (L, .int n :: .int j :: st, H) Q = (((st.map fun v => v.category).sum ≤ 8 ∧ ¬ j < 0 ∧ j < n) ∧ zW d M nx (L, st, H) Q) := rfl
theorem zg_mx {i : Nat} {a b : Int32} : zGo d M (.invokestatic i) (zt 994) nx (L, .int b :: .int a :: st, H) Q = ((st.map fun v => v.category).sum ≤ 8 ∧ zW d M nx (L, .int (if a < b then b else a) :: st, H) Q) := rfl
theorem zg_mn {i : Nat} {a b : Int32} : zGo d M (.invokestatic i) (zt 995) nx (L, .int b :: .int a :: st, H) Q = ((st.map fun v => v.category).sum ≤ 8 ∧ zW d M nx (L, .int (if b < a then b else a) :: st, H) Q) := rfl
theorem zg_mxl {i : Nat} {a b : Int64} : zGo d M (.invokestatic i) (zt 996) nx (L, .long b :: .long a :: st, H) Q = ((st.map fun v => v.category).sum ≤ 8 ∧ zW d M nx (L, .long (if b < a then a else b) :: st, H) Q) := rfl
theorem zg_goto {off : Int} {t : Nat} : zGo d M (.goto off) (zt t) nx (L, st, H) Q = zW d M t (L, st, H) Q := rfl
theorem zg_if {c : Jvm.ClassFile.Cond} {off : Int} {t : Nat} {a : Int32} : zGo d M (.ifCond c off) (zt t) nx (L, .int a :: st, H) Q = zW d M (zif c a 0 t nx) (L, st, H) Q := rfl
theorem zg_icmp {c : Jvm.ClassFile.Cond} {off : Int} {t : Nat} {a b : Int32} : zGo d M (.if_icmp c off) (zt t) nx (L, .int b :: .int a :: st, H) Q = zW d M (zif c a b t nx) (L, st, H) Q := rfl
theorem zg_tsw {dd lo hi : Int} {offs : Array Int} {t b c : Nat} {v : Value} {sw : List (Int × Nat)} {a : Int32} : zGo d M (.tableswitch dd lo hi offs) (t, b, c, v, sw) nx (L, .int a :: st, H) Q = zW d M (zsw sw a t) (L, st, H) Q := rfl
theorem zg_lsw {dd : Int} {ps : Array (Int × Int)} {t b c : Nat} {v : Value} {sw : List (Int × Nat)} {a : Int32} : zGo d M (.lookupswitch dd ps) (t, b, c, v, sw) nx (L, .int a :: st, H) Q = zW d M (zsw sw a t) (L, st, H) Q := rfl
def zRt (ty : Option FieldType) (v : Int32) (H : zH) (Q : zR → Prop) : Prop := match ty with
  | some ty => znar ty v ∧ Q (some (.int v), H)
  | none => False
theorem zg_ireturn {x : zX} {v : Int32} : zGo d M .ireturn x nx (L, [.int v], H) Q = zRt M.2.2.2.2.1 v H Q := by
  unfold zGo zRt
  simp only [zplain, zjump, zret, zinv]
  cases M.2.2.2.2.1 <;> rfl
def zRl2 (ty : Option FieldType) (v : Int64) (H : zH) (Q : zR → Prop) : Prop := match ty with
  | some .long => Q (some (.long v), H)
  | _ => False
theorem zg_lreturn {x : zX} {v : Int64} : zGo d M .lreturn x nx (L, [.long v], H) Q = zRl2 M.2.2.2.2.1 v H Q := by
  unfold zGo zRl2
  simp only [zplain, zjump, zret, zinv]
  rcases M.2.2.2.2.1 with _ | ty
  · rfl
  · cases ty <;> simp
def zRv (ty : Option FieldType) (H : zH) (Q : zR → Prop) : Prop := match ty with
  | none => Q (none, H)
  | some _ => False
theorem zg_return {x : zX} : zGo d M .return_ x nx (L, [], H) Q = zRv M.2.2.2.2.1 H Q := by
  unfold zGo zRv
  simp only [zplain, zjump, zret, zinv]
  cases M.2.2.2.2.1 <;> simp
theorem zg_is {i y k ci : Nat} (h9 : y < 900) : zGo d M (.invokestatic i) (zc y k ci) nx (L, st, H) Q = ((k ≤ st.length ∧ ((st.drop k).map fun v => v.category).sum ≤ 8) ∧ zK d y (st.take k).reverse H (fun v => zW d M nx (L, v.1.toList ++ st.drop k, v.2) Q)) := by
  have h1 : zplain (.invokestatic i) (zc y k ci) (L, st, H) = none := by
    simp only [zplain]
    split <;> first | omega | rfl
  unfold zGo
  rw [h1]
  simp [zjump, zret, zinv, h9]

theorem zg_is0 {i y ci : Nat}  (h9 : y < 900) : zGo d M (.invokestatic i) (zc y 0 ci) nx (L, st, H) Q = ((st.map fun v => v.category).sum ≤ 8 ∧ zK d y [] H (fun v => zW d M nx (L, v.1.toList ++ st, v.2) Q)) := by rw [zg_is h9]; simp
theorem zg_is1 {i y ci : Nat} {v1 : Value} (h9 : y < 900) : zGo d M (.invokestatic i) (zc y 1 ci) nx (L, v1 :: st, H) Q = ((st.map fun v => v.category).sum ≤ 8 ∧ zK d y [v1] H (fun v => zW d M nx (L, v.1.toList ++ st, v.2) Q)) := by rw [zg_is h9]; simp
theorem zg_is2 {i y ci : Nat} {v1 v2 : Value} (h9 : y < 900) : zGo d M (.invokestatic i) (zc y 2 ci) nx (L, v1 :: v2 :: st, H) Q = ((st.map fun v => v.category).sum ≤ 8 ∧ zK d y [v2, v1] H (fun v => zW d M nx (L, v.1.toList ++ st, v.2) Q)) := by rw [zg_is h9]; simp
theorem zg_is3 {i y ci : Nat} {v1 v2 v3 : Value} (h9 : y < 900) : zGo d M (.invokestatic i) (zc y 3 ci) nx (L, v1 :: v2 :: v3 :: st, H) Q = ((st.map fun v => v.category).sum ≤ 8 ∧ zK d y [v3, v2, v1] H (fun v => zW d M nx (L, v.1.toList ++ st, v.2) Q)) := by rw [zg_is h9]; simp
theorem zg_is4 {i y ci : Nat} {v1 v2 v3 v4 : Value} (h9 : y < 900) : zGo d M (.invokestatic i) (zc y 4 ci) nx (L, v1 :: v2 :: v3 :: v4 :: st, H) Q = ((st.map fun v => v.category).sum ≤ 8 ∧ zK d y [v4, v3, v2, v1] H (fun v => zW d M nx (L, v.1.toList ++ st, v.2) Q)) := by rw [zg_is h9]; simp
theorem zg_is5 {i y ci : Nat} {v1 v2 v3 v4 v5 : Value} (h9 : y < 900) : zGo d M (.invokestatic i) (zc y 5 ci) nx (L, v1 :: v2 :: v3 :: v4 :: v5 :: st, H) Q = ((st.map fun v => v.category).sum ≤ 8 ∧ zK d y [v5, v4, v3, v2, v1] H (fun v => zW d M nx (L, v.1.toList ++ st, v.2) Q)) := by rw [zg_is h9]; simp
theorem zg_is6 {i y ci : Nat} {v1 v2 v3 v4 v5 v6 : Value} (h9 : y < 900) : zGo d M (.invokestatic i) (zc y 6 ci) nx (L, v1 :: v2 :: v3 :: v4 :: v5 :: v6 :: st, H) Q = ((st.map fun v => v.category).sum ≤ 8 ∧ zK d y [v6, v5, v4, v3, v2, v1] H (fun v => zW d M nx (L, v.1.toList ++ st, v.2) Q)) := by rw [zg_is h9]; simp
theorem zg_iv0 {i y ci b : Nat}  (h9 : y < 900) : zGo d M (.invokevirtual i) (zc y 1 ci) nx (L, .ref b :: st, (h, u)) Q = (zisc (z_cell h b) ci ∧ (st.map fun v => v.category).sum ≤ 8 ∧ zK d y [.ref b] (h, u) (fun v => zW d M nx (L, v.1.toList ++ st, v.2) Q)) := by unfold zGo; simp [zplain, zjump, zret, zinv, h9, and_assoc]
theorem zg_iv1 {i y ci b : Nat} {v1 : Value} (h9 : y < 900) : zGo d M (.invokevirtual i) (zc y 2 ci) nx (L, v1 :: .ref b :: st, (h, u)) Q = (zisc (z_cell h b) ci ∧ (st.map fun v => v.category).sum ≤ 8 ∧ zK d y [.ref b, v1] (h, u) (fun v => zW d M nx (L, v.1.toList ++ st, v.2) Q)) := by unfold zGo; simp [zplain, zjump, zret, zinv, h9, and_assoc]
theorem zg_iv2 {i y ci b : Nat} {v1 v2 : Value} (h9 : y < 900) : zGo d M (.invokevirtual i) (zc y 3 ci) nx (L, v1 :: v2 :: .ref b :: st, (h, u)) Q = (zisc (z_cell h b) ci ∧ (st.map fun v => v.category).sum ≤ 8 ∧ zK d y [.ref b, v2, v1] (h, u) (fun v => zW d M nx (L, v.1.toList ++ st, v.2) Q)) := by unfold zGo; simp [zplain, zjump, zret, zinv, h9, and_assoc]
theorem zg_iv3 {i y ci b : Nat} {v1 v2 v3 : Value} (h9 : y < 900) : zGo d M (.invokevirtual i) (zc y 4 ci) nx (L, v1 :: v2 :: v3 :: .ref b :: st, (h, u)) Q = (zisc (z_cell h b) ci ∧ (st.map fun v => v.category).sum ≤ 8 ∧ zK d y [.ref b, v3, v2, v1] (h, u) (fun v => zW d M nx (L, v.1.toList ++ st, v.2) Q)) := by unfold zGo; simp [zplain, zjump, zret, zinv, h9, and_assoc]
theorem zg_iv4 {i y ci b : Nat} {v1 v2 v3 v4 : Value} (h9 : y < 900) : zGo d M (.invokevirtual i) (zc y 5 ci) nx (L, v1 :: v2 :: v3 :: v4 :: .ref b :: st, (h, u)) Q = (zisc (z_cell h b) ci ∧ (st.map fun v => v.category).sum ≤ 8 ∧ zK d y [.ref b, v4, v3, v2, v1] (h, u) (fun v => zW d M nx (L, v.1.toList ++ st, v.2) Q)) := by unfold zGo; simp [zplain, zjump, zret, zinv, h9, and_assoc]
theorem zg_iv5 {i y ci b : Nat} {v1 v2 v3 v4 v5 : Value} (h9 : y < 900) : zGo d M (.invokevirtual i) (zc y 6 ci) nx (L, v1 :: v2 :: v3 :: v4 :: v5 :: .ref b :: st, (h, u)) Q = (zisc (z_cell h b) ci ∧ (st.map fun v => v.category).sum ≤ 8 ∧ zK d y [.ref b, v5, v4, v3, v2, v1] (h, u) (fun v => zW d M nx (L, v.1.toList ++ st, v.2) Q)) := by unfold zGo; simp [zplain, zjump, zret, zinv, h9, and_assoc]
theorem zg_ip0 {i y ci b : Nat}  (h9 : y < 900) : zGo d M (.invokespecial i) (zc y 1 ci) nx (L, .ref b :: st, H) Q = ((st.map fun v => v.category).sum ≤ 8 ∧ zK d y [.ref b] H (fun v => zW d M nx (L, v.1.toList ++ st, v.2) Q)) := by
  have h1 : zplain (.invokespecial i) (zc y 1 ci) (L, .ref b :: st, H) = none := by
    simp only [zplain]
    split <;> first | omega | rfl
  unfold zGo; rw [h1]; simp [zjump, zret, zinv, h9]
theorem zg_ip1 {i y ci b : Nat} {v1 : Value} (h9 : y < 900) : zGo d M (.invokespecial i) (zc y 2 ci) nx (L, v1 :: .ref b :: st, H) Q = ((st.map fun v => v.category).sum ≤ 8 ∧ zK d y [.ref b, v1] H (fun v => zW d M nx (L, v.1.toList ++ st, v.2) Q)) := by
  have h1 : zplain (.invokespecial i) (zc y 2 ci) (L, v1 :: .ref b :: st, H) = none := by
    simp only [zplain]
    split <;> first | omega | rfl
  unfold zGo; rw [h1]; simp [zjump, zret, zinv, h9]
theorem zrun_det {C : zC} (hC : ∀ y as H r r', C y as H r → C y as H r' → r = r') {M : zM} : ∀ n n' pc S r r', zrun C M n pc S r → zrun C M n' pc S r' → r = r' := by
  intro n
  induction n with
  | zero => intro n' pc S r r' h; exact absurd h id
  | succ n ih =>
    intro n' pc S r r' h h'
    cases n' with
    | zero => exact absurd h' id
    | succ n' =>
      unfold zrun at h h'
      split at h
      · exact absurd h id
      · rename_i I nx x hl
        simp only [hl] at h'
        unfold zone at h h'
        split at h
        · rename_i q hq
          simp only [hq] at h'
          exact ih _ _ _ _ _ h.2 h'.2
        · rename_i hp
          simp only [hp] at h'
          split at h
          · rename_i q hq
            simp only [hq] at h'
            exact ih _ _ _ _ _ h h'
          · rename_i hj
            simp only [hj] at h'
            split at h
            · rename_i q hq
              simp only [hq] at h'
              rw [h.2, h'.2]
            · rename_i hr
              simp only [hr] at h'
              split at h
              · rename_i q hq
                simp only [hq] at h'
                obtain ⟨-, v, h2, h3⟩ := h
                obtain ⟨-, v', h2', h3'⟩ := h'
                have e := hC _ _ _ _ _ h2 h2'
                subst e
                exact ih _ _ _ _ _ h3 h3'
              · exact absurd h id
theorem zB_det : ∀ d y as H r r', zB zMs d y as H r → zB zMs d y as H r' → r = r' := by
  intro d
  induction d with
  | zero => intro y as H r r' h; exact absurd h id
  | succ d ih =>
    intro y as H r r' h h'
    obtain ⟨M, h1, -, n, h2⟩ := h
    obtain ⟨M', h1', -, n', h2'⟩ := h'
    have e : M' = M := Option.some.inj (h1'.symm.trans h1)
    subst e
    exact zrun_det ih _ _ _ _ _ _ h2 h2'
theorem zK_eq {r : zR} {y : Nat} {as : List Value} (hB : zB zMs d y as H r) : zK d y as H Q = Q r := propext ⟨fun ⟨r', h1, h2⟩ => zB_det _ _ _ _ _ _ hB h1 ▸ h2, fun hq => ⟨r, hB, hq⟩⟩
/-- a contract out of its own walk: enough to walk to any end that the answer meets -/
theorem zK_of {r : zR} {y k : Nat} {as : List Value} (hk : k ≤ d) (hB : zK k y as H (fun q => q = r)) : zK d y as H Q = Q r := by
  obtain ⟨r', h1, rfl⟩ := hB
  exact zK_eq (zB_le hk h1)
theorem zRt_i {v : Int32} : zRt (some .int) v H Q = Q (some (.int v), H) := by simp [zRt, znar]
theorem zRt_z {v : Int32} : zRt (some .boolean) v H Q = ((v = 0 ∨ v = 1) ∧ Q (some (.int v), H)) := rfl
theorem zRt_c {v : Int32} : zRt (some .char) v H Q = (narrow .char (.int v) = .int v ∧ Q (some (.int v), H)) := rfl
theorem zRt_b {v : Int32} : zRt (some .byte) v H Q = (narrow .byte (.int v) = .int v ∧ Q (some (.int v), H)) := rfl
theorem zRl2_l {v : Int64} : zRl2 (some .long) v H Q = Q (some (.long v), H) := rfl
theorem zRv_n : zRv none H Q = Q (none, H) := rfl
theorem zfit_0 {y : Int32} : zfit 0 (.int y) = True := rfl
theorem zfit_1 {y : Int64} : zfit 1 (.long y) = True := rfl
theorem zfit_2 {y : Int32} : zfit 2 (.int y) = (y = 0 ∨ y = 1) := rfl
theorem zfit_3 {a : Nat} : zfit 3 (.ref a) = True := rfl
theorem zisc_o {c ci : Nat} {fs : List Value} : zisc (zO c fs) ci = (c = ci) := rfl
theorem z_cell_lt {a : Nat} (ha : a < 1000) : z_cell h a = h a := if_neg (Nat.not_le.mpr ha)
end ZG
