/-! open pairs and their numbers, on both sides -/
section N53
variable {n : Nat} {rm mt nt : Nat → Nat} {fm : Bool} {now : Nat → Int32}
theorem opn_now (hg : gdT n mt nt) (hR : nowR n rm mt nt fm now) {a b : Nat} (ha : a < n) (hb : b < n) (hab : a ≠ b) : opnB mt nt a b = true ↔ now (7 * a + b) = 2 := by
  rw [hR.1 a b ha hb hab]
  unfold opnB abt
  cases e1 : (mt a).testBit b
  · cases e2 : (nt a).testBit b
    · rw [if_neg Bool.false_ne_true, if_neg Bool.false_ne_true]; decide
    · rw [if_neg Bool.false_ne_true, if_pos rfl]; decide
  · rw [if_pos rfl]
    exact ⟨fun z => absurd z (by simp), fun z => absurd z (by decide)⟩
theorem opn_sym (hg : gdT n mt nt) {a b : Nat} (ha : a < n) (hb : b < n) : opnB mt nt a b = opnB mt nt b a := by
  unfold opnB
  rw [(hg.2.2.1 a b ha hb).1, (hg.2.2.1 a b ha hb).2]
/-- numbers of pairs: each open one has its own -/
def numP (opn : Nat → Nat → Bool) (n k : Nat) (O W : Nat → Nat) (op : Nat → Int32) (D : Nat → Nat → Prop) : Prop :=
  (∀ a b, a < b → b < n → D a b → (opn a b = true → ∃ i, i < k ∧ O i = a ∧ W i = b ∧ op (a * 7 + b) = nI i ∧ op (b * 7 + a) = nI i) ∧ (opn a b = false → op (a * 7 + b) = -1 ∧ op (b * 7 + a) = -1)) ∧
  ∀ i, i < k → O i < W i ∧ W i < n ∧ D (O i) (W i) ∧ opn (O i) (W i) = true ∧ op (O i * 7 + W i) = nI i ∧ op (W i * 7 + O i) = nI i
theorem num_st {opn : Nat → Nat → Bool} {O W : Nat → Nat} {k : Nat} {op : Nat → Int32} {D : Nat → Nat → Prop} (hn : n ≤ 7) {a b : Nat} (hab : a < b) (hb : b < n) (hD : ¬ D a b) (h : numP opn n k O W op D) : numP opn n (nopT opn a b (k, op)).1 (if opn a b = true then z_up O k a else O) (if opn a b = true then z_up W k b else W) (nopT opn a b (k, op)).2 (fun x y => D x y ∨ (x = a ∧ y = b)) := by
  obtain ⟨h1, h2⟩ := h
  have out : ∀ x y (v : Int32), x < y → y < n → ¬ (x = a ∧ y = b) → upd (upd op (a * 7 + b) v) (b * 7 + a) v (x * 7 + y) = op (x * 7 + y) ∧ upd (upd op (a * 7 + b) v) (b * 7 + a) v (y * 7 + x) = op (y * 7 + x) := by
    intro x y v hxy hy hne
    exact ⟨by rw [upd_o _ _ (by omega), upd_o _ _ (by omega)], by rw [upd_o _ _ (by omega), upd_o _ _ (by omega)]⟩
  have ins : ∀ v : Int32, upd (upd op (a * 7 + b) v) (b * 7 + a) v (a * 7 + b) = v ∧ upd (upd op (a * 7 + b) v) (b * 7 + a) v (b * 7 + a) = v := fun v => ⟨by rw [upd_o _ _ (by omega), upd_s], upd_s _ _ _⟩
  unfold nopT
  by_cases c : opn a b = true
  · rw [if_pos c, if_pos c, if_pos c]
    dsimp only
    refine ⟨fun x y hxy hy hd => ?_, fun i hi => ?_⟩
    · by_cases e : x = a ∧ y = b
      · obtain ⟨rfl, rfl⟩ := e
        refine ⟨fun _ => ⟨k, Nat.lt_succ_self _, zup_eq _ _ _, zup_eq _ _ _, (ins _).1, (ins _).2⟩, fun z => ?_⟩
        rw [z] at c; exact absurd c (by decide)
      · obtain ⟨q1, q2⟩ := h1 x y hxy hy (hd.resolve_right e)
        obtain ⟨o1, o2⟩ := out x y (nI k) hxy hy e
        show (opn x y = true → ∃ i, i < k + 1 ∧ _) ∧ _
        rw [o1, o2]
        refine ⟨fun z => ?_, q2⟩
        obtain ⟨i, i1, i2, i3, i4, i5⟩ := q1 z
        exact ⟨i, by omega, by rw [zup_ne _ _ (by omega)]; exact i2, by rw [zup_ne _ _ (by omega)]; exact i3, i4, i5⟩
    · have hi : i < k + 1 := hi
      by_cases e : i = k
      · subst e
        rw [zup_eq, zup_eq]
        exact ⟨hab, hb, Or.inr ⟨rfl, rfl⟩, c, (ins _).1, (ins _).2⟩
      · obtain ⟨a1, a2, a3, a4, a5, a6⟩ := h2 i (by omega)
        rw [zup_ne _ _ e, zup_ne _ _ e]
        obtain ⟨o1, o2⟩ := out (O i) (W i) (nI k) a1 a2 (fun z => hD (by rw [← z.1, ← z.2]; exact a3))
        exact ⟨a1, a2, Or.inl a3, a4, by rw [o1]; exact a5, by rw [o2]; exact a6⟩
  · have c' : opn a b = false := by cases e : opn a b <;> simp_all
    rw [if_neg c, if_neg c, if_neg c]
    dsimp only
    refine ⟨fun x y hxy hy hd => ?_, fun i hi => ?_⟩
    · by_cases e : x = a ∧ y = b
      · obtain ⟨rfl, rfl⟩ := e
        exact ⟨fun z => absurd z c, fun _ => ins _⟩
      · obtain ⟨q1, q2⟩ := h1 x y hxy hy (hd.resolve_right e)
        obtain ⟨o1, o2⟩ := out x y (-1) hxy hy e
        show (opn x y = true → ∃ i, i < k ∧ _) ∧ _
        rw [o1, o2]
        exact ⟨q1, q2⟩
    · have hi : i < k := hi
      obtain ⟨a1, a2, a3, a4, a5, a6⟩ := h2 i hi
      obtain ⟨o1, o2⟩ := out (O i) (W i) (-1) a1 a2 (fun z => hD (by rw [← z.1, ← z.2]; exact a3))
      exact ⟨a1, a2, Or.inl a3, a4, by rw [o1]; exact a5, by rw [o2]; exact a6⟩
theorem num_cg {opn : Nat → Nat → Bool} {O W : Nat → Nat} {k : Nat} {op : Nat → Int32} {D D' : Nat → Nat → Prop} (h : ∀ a b, a < b → b < n → (D a b ↔ D' a b)) (hP : numP opn n k O W op D) : numP opn n k O W op D' := by
  obtain ⟨h1, h2⟩ := hP
  refine ⟨fun a b hab hb hd => h1 a b hab hb ((h a b hab hb).mpr hd), fun i hi => ?_⟩
  obtain ⟨a1, a2, a3, a4⟩ := h2 i hi
  exact ⟨a1, a2, (h _ _ a1 a2).mp a3, a4⟩
/-- both number alike -/
theorem num_all (hg : gdT n mt nt) (hR : nowR n rm mt nt fm now) (op0 : Nat → Int32) (oN wN : Nat → Nat) : ∀ a, a ≤ n → (nopA (opnB mt nt) n (0, op0) a).1 = (itr (lkA now n) (0, oN, wN) a).1 ∧ numP (opnB mt nt) n (itr (lkA now n) (0, oN, wN) a).1 (itr (lkA now n) (0, oN, wN) a).2.1 (itr (lkA now n) (0, oN, wN) a).2.2 (nopA (opnB mt nt) n (0, op0) a).2 (fun x y => x < a) := by
  have hn := hg.1
  intro a
  induction a with
  | zero => intro _; exact ⟨rfl, fun a b _ _ h => absurd h (Nat.not_lt_zero _), fun i hi => absurd hi (Nat.not_lt_zero _)⟩
  | succ a ih =>
    intro ha
    obtain ⟨i1, i2⟩ := ih (by omega)
    rw [nopA_s, itr_s]
    generalize nopA (opnB mt nt) n (0, op0) a = p at *
    generalize itr (lkA now n) (0, oN, wN) a = q at *
    obtain ⟨p1, p2⟩ := p
    obtain ⟨q1, q2, q3⟩ := q
    dsimp only at i1 i2
    subst i1
    have inner : ∀ j, j ≤ n - 1 - a → (nopR (opnB mt nt) a (p1, p2) j).1 = (itr (lkF now a) (p1, q2, q3) j).1 ∧ numP (opnB mt nt) n (itr (lkF now a) (p1, q2, q3) j).1 (itr (lkF now a) (p1, q2, q3) j).2.1 (itr (lkF now a) (p1, q2, q3) j).2.2 (nopR (opnB mt nt) a (p1, p2) j).2 (fun x y => x < a ∨ (x = a ∧ y < a + 1 + j)) := by
      intro j
      induction j with
      | zero => intro _; exact ⟨rfl, num_cg (fun x y hxy _ => ⟨fun z => Or.inl z, fun z => by omega⟩) i2⟩
      | succ j ij =>
        intro hj
        obtain ⟨j1, j2⟩ := ij (by omega)
        rw [nopR_s, itr_s]
        generalize nopR (opnB mt nt) a (p1, p2) j = p at *
        generalize itr (lkF now a) (p1, q2, q3) j = q at *
        obtain ⟨u1, u2⟩ := p
        obtain ⟨v1, v2, v3⟩ := q
        dsimp only at j1 j2
        subst j1
        have st := num_st hn (show a < a + 1 + j by omega) (show a + 1 + j < n by omega) (by omega) j2
        have st := num_cg (D' := fun x y => x < a ∨ (x = a ∧ y < a + 1 + (j + 1))) (fun x y hxy _ => by omega) st
        have eo := opn_now hg hR (show a < n by omega) (show a + 1 + j < n by omega) (by omega)
        unfold lkF
        dsimp only
        by_cases c : opnB mt nt a (a + 1 + j) = true
        · rw [if_pos (eo.mp c)]
          rw [if_pos c, if_pos c] at st
          have e1 : (nopT (opnB mt nt) a (a + 1 + j) (u1, u2)).1 = u1 + 1 := by unfold nopT; rw [if_pos c]
          rw [e1] at st ⊢
          exact ⟨rfl, st⟩
        · rw [if_neg (fun z => c (eo.mpr z))]
          rw [if_neg c, if_neg c] at st
          have e1 : (nopT (opnB mt nt) a (a + 1 + j) (u1, u2)).1 = u1 := by unfold nopT; rw [if_neg c]
          rw [e1] at st ⊢
          exact ⟨rfl, st⟩
    obtain ⟨k1, k2⟩ := inner (n - 1 - a) (Nat.le_refl _)
    rw [show n - (a + 1) = n - 1 - a by omega]
    exact ⟨k1, num_cg (fun x y hxy hy => by omega) k2⟩
/-! how many pairs are open -/
theorem sum_up {f : Nat → Nat} {a : Nat} : ∀ n, sumN (fun b => if a < b then f b else 0) n = sumN (fun i => f (a + 1 + i)) (n - 1 - a) := by
  intro n
  induction n with
  | zero => rw [show 0 - 1 - a = 0 by omega]; rfl
  | succ n ih =>
    rw [sumN_s, ih]
    by_cases c : a < n
    · rw [if_pos c, show n + 1 - 1 - a = n - 1 - a + 1 by omega, sumN_s, show a + 1 + (n - 1 - a) = n by omega]
    · rw [if_neg c, show n + 1 - 1 - a = 0 by omega, show n - 1 - a = 0 by omega, Nat.add_zero]
theorem sum_dn {f : Nat → Nat} {a : Nat} : ∀ n, a ≤ n → sumN (fun b => if b < a then f b else 0) n = sumN f a := by
  intro n
  induction n with
  | zero => intro h; have : a = 0 := by omega
            subst this; rfl
  | succ n ih =>
    intro h
    rw [sumN_s]
    by_cases c : a = n + 1
    · subst c
      rw [if_pos (Nat.lt_succ_self _), sumN_s]
      congr 1
      exact sumN_cg n (fun i hi => if_pos (by omega))
    · rw [if_neg (by omega), Nat.add_zero]; exact ih (by omega)
theorem lk_cnt (hg : gdT n mt nt) (hR : nowR n rm mt nt fm now) (oN wN : Nat → Nat) : itr (ptF now n 2) 0 n = 2 * (itr (lkA now n) (0, oN, wN) n).1 := by
  have hn := hg.1
  let D : Nat → Nat → Nat := fun a b => if a ≠ b ∧ now (7 * a + b) = 2 then 1 else 0
  have inner : ∀ a, ∀ j (q : lkT), (itr (lkF now a) q j).1 = q.1 + sumN (fun i => D a (a + 1 + i)) j := by
    intro a j
    induction j with
    | zero => intro q; rfl
    | succ j ih =>
      intro q
      rw [itr_s, sumN_s, ← Nat.add_assoc, ← ih q]
      show (lkF now a j (itr (lkF now a) q j)).1 = (itr (lkF now a) q j).1 + (if a ≠ a + 1 + j ∧ now (7 * a + (a + 1 + j)) = 2 then 1 else 0)
      generalize itr (lkF now a) q j = r
      unfold lkF
      by_cases c : now (7 * a + (a + 1 + j)) = 2
      · rw [if_pos c, if_pos ⟨by omega, c⟩]
      · rw [if_neg c, if_neg (fun z => c z.2), Nat.add_zero]
  have outer : ∀ a, (itr (lkA now n) (0, oN, wN) a).1 = sumN (fun a => sumN (fun i => D a (a + 1 + i)) (n - 1 - a)) a := by
    intro a
    induction a with
    | zero => rfl
    | succ a ih =>
      rw [itr_s, sumN_s, ← ih]
      exact inner a (n - 1 - a) _
  have sy : ∀ a b, a < n → b < n → D a b = D b a := by
    intro a b ha hb
    show (if a ≠ b ∧ now (7 * a + b) = 2 then 1 else 0) = (if b ≠ a ∧ now (7 * b + a) = 2 then 1 else 0)
    by_cases e : a = b
    · subst e; rfl
    · have e1 := opn_now hg hR ha hb e
      have e2 := opn_now hg hR hb ha (fun z => e z.symm)
      rw [opn_sym hg ha hb, e2] at e1
      by_cases c : now (7 * a + b) = 2
      · rw [if_pos ⟨e, c⟩, if_pos ⟨fun z => e z.symm, e1.mpr c⟩]
      · rw [if_neg (fun z => c z.2), if_neg (fun z => c (e1.mp z.2))]
  have d0 : ∀ a, a < n → D a a = 0 := fun a _ => if_neg (fun z => z.1 rfl)
  have rows : ∀ a, a < n → pop (thoV now n a 2) = sumN (fun b => D a b) n := by
    intro a ha
    have pb : ∀ x, pop x = sumN (fun i => (x.testBit i).toNat) 7 := fun x => by
      unfold pop
      show _ = 0 + (x.testBit 0).toNat + (x.testBit 1).toNat + (x.testBit 2).toNat + (x.testBit 3).toNat + (x.testBit 4).toNat + (x.testBit 5).toNat + (x.testBit 6).toNat
      omega
    rw [pb, show (7 : Nat) = n + (7 - n) by omega, sumN_app]
    have z : sumN (fun i => ((thoV now n a 2).testBit (n + i)).toNat) (7 - n) = 0 := sumN_0 _ (fun i _ => by
      unfold thoV
      rw [tho_bit, decide_eq_false (fun w => by omega)]; rfl)
    rw [z, Nat.add_zero]
    refine sumN_cg n (fun b hb => ?_)
    show ((thoV now n a 2).testBit b).toNat = (if a ≠ b ∧ now (7 * a + b) = 2 then 1 else 0)
    unfold thoV
    rw [tho_bit]
    by_cases c : a ≠ b ∧ now (7 * a + b) = 2
    · rw [if_pos c, decide_eq_true ⟨hb, fun e => c.1 e.symm, c.2⟩]; rfl
    · rw [if_neg c, decide_eq_false (fun w => c ⟨fun e => w.2.1 e.symm, w.2.2⟩)]; rfl
  have pt : ∀ k, k ≤ n → itr (ptF now n 2) 0 k = sumN (fun a => sumN (fun b => D a b) n) k := by
    intro k
    induction k with
    | zero => exact fun _ => rfl
    | succ k ih =>
      intro hk
      rw [itr_s, sumN_s, ← ih (by omega)]
      show itr (ptF now n 2) 0 k + pop (thoV now n k 2) = _
      rw [rows k (by omega)]
  rw [pt n (Nat.le_refl _), sq_two n sy d0, outer n]
  congr 1
  have e1 : sumN (fun a => sumN (fun b => D a b) a) n = sumN (fun a => sumN (fun b => if b < a then D a b else 0) n) n := sumN_cg n (fun a ha => (sum_dn n (by omega)).symm)
  have e2 : sumN (fun a => sumN (fun i => D a (a + 1 + i)) (n - 1 - a)) n = sumN (fun a => sumN (fun b => if a < b then D a b else 0) n) n := sumN_cg n (fun a _ => (sum_up n).symm)
  rw [e1, e2, sumN_swap]
  refine sumN_cg n (fun a ha => sumN_cg n (fun b hb => ?_))
  by_cases c : a < b
  · rw [if_pos c, if_pos c, sy a b ha hb]
  · rw [if_neg c, if_neg c]
end N53

