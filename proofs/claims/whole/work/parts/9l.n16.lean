/-! the least worth of an order, and the way that has it: both sides -/
section N16
variable {n : Nat} {A : Nat → Nat → Nat} {pr : Nat → Nat → Int32} {co : Nat → Int32} {ev : Nat → Nat} {P : Nat → Nat → Bool} {G : Nat → Prop}
theorem toS_s (r : Nat × cRow) (i : Nat) : toS pr co ev A n i r = if srch (cgB pr co (ev r.1) r.1) 0 n < n then (r.1 + 3 ^ srch (cgB pr co (ev r.1) r.1) 0 n, r.2.1 + 1, vp_updL r.2.2 r.2.1 (lN (2 * srch (cgB pr co (ev r.1) r.1) 0 n + if (A 0 r.1).testBit (srch (cgB pr co (ev r.1) r.1) 0 n) then 1 else 0))) else r := rfl
theorem path_eq (h0 : G 0) (hn : ∀ s, s < 3 ^ n - 1 → G s → ∃ g, g < n ∧ dg s g ≤ 1 ∧ s + 3 ^ g < 3 ^ n ∧ G (s + 3 ^ g) ∧ srch (cgB pr co (ev s) s) 0 n = g ∧ srch (P s) 0 (2 * n) = 2 * g + dg s g ∧ (A 0 s).testBit g = decide (dg s g = 1)) (rf row : Nat → Int64) : pthG P n (3 ^ n - 1) (2 * n) 0 ∧ (itr (toS pr co ev A n) (0, 0, rf) (2 * n)).2.1 = 2 * n ∧ (pthR P n (3 ^ n - 1) (2 * n) 0 (0, row)).1 = 2 * n ∧ ∀ i, i < 2 * n → (pthR P n (3 ^ n - 1) (2 * n) 0 (0, row)).2 i = (itr (toS pr co ev A n) (0, 0, rf) (2 * n)).2.2 i := by
  have h3 := p3_pos n
  have key : ∀ k, k ≤ 2 * n → (itr (toS pr co ev A n) (0, 0, rf) k).1 < 3 ^ n ∧ G (itr (toS pr co ev A n) (0, 0, rf) k).1 ∧ evL n (itr (toS pr co ev A n) (0, 0, rf) k).1 + k = 2 * n ∧ (itr (toS pr co ev A n) (0, 0, rf) k).2.1 = k ∧ ∃ r, (∀ i, i < k → r i = (itr (toS pr co ev A n) (0, 0, rf) k).2.2 i) ∧ pthR P n (3 ^ n - 1) (2 * n) 0 (0, row) = pthR P n (3 ^ n - 1) (2 * n - k) (itr (toS pr co ev A n) (0, 0, rf) k).1 (k, r) ∧ (pthG P n (3 ^ n - 1) (2 * n - k) (itr (toS pr co ev A n) (0, 0, rf) k).1 → pthG P n (3 ^ n - 1) (2 * n) 0) := by
    intro k
    induction k with
    | zero => intro _; exact ⟨h3, h0, by rw [Nat.add_zero]; exact ev_start n, rfl, row, fun i hi => absurd hi (Nat.not_lt_zero _), rfl, fun q => q⟩
    | succ k ih =>
      intro hk
      obtain ⟨a1, a2, a4, a5, r, a6, a7, a8⟩ := ih (by omega)
      rw [itr_s, toS_s]
      generalize itr (toS pr co ev A n) (0, 0, rf) k = q at *
      obtain ⟨s, c, f⟩ := q
      simp only at a1 a2 a4 a5 a6 a7 a8 ⊢
      have hne : s ≠ 3 ^ n - 1 := fun e => by rw [e, ev_last] at a4; omega
      obtain ⟨g, g1, g2, g3, g4, g6, g7, g8⟩ := hn s (by omega) a2
      rw [g6, if_pos g1, a5]
      have hev := ev_step g1 g2
      have e2 : 2 * n - k = (2 * n - (k + 1)) + 1 := by omega
      have hdv : (2 * g + dg s g) / 2 = g := by omega
      have eb : 2 * g + (if (A 0 s).testBit g = true then 1 else 0) = 2 * g + dg s g := by
        rw [g8]
        by_cases c1 : dg s g = 1
        · simp [c1]
        · have : dg s g = 0 := by omega
          simp [this]
      refine ⟨g3, g4, by show evL n (s + 3 ^ g) + (k + 1) = 2 * n; omega, rfl, vp_updL r k (lN (2 * g + dg s g)), fun i hi => ?_, ?_, ?_⟩
      · rw [eb]
        show vp_updL r k (lN (2 * g + dg s g)) i = vp_updL f k (lN (2 * g + dg s g)) i
        unfold vp_updL
        by_cases c1 : i = k
        · rw [if_pos c1, if_pos c1]
        · rw [if_neg c1, if_neg c1]; exact a6 i (by omega)
      · rw [a7, e2]
        show (if s = 3 ^ n - 1 then (k, r) else pthR P n (3 ^ n - 1) (2 * n - (k + 1)) (s + 3 ^ (srch (P s) 0 (2 * n) / 2)) (k + 1, vp_updL r k (lN (srch (P s) 0 (2 * n))))) = _
        rw [if_neg hne, g7, hdv]
      · intro hG
        refine a8 ?_
        rw [e2]
        refine Or.inr ⟨by omega, hne, by rw [g7]; omega, ?_⟩
        rw [g7, hdv]
        exact hG
  obtain ⟨a1, a2, a4, a5, r, a6, a7, a8⟩ := key (2 * n) (Nat.le_refl _)
  have hl := ev_0 a1 (by omega)
  rw [Nat.sub_self] at a7 a8
  refine ⟨a8 hl, a5, by rw [a7]; rfl, fun i hi => ?_⟩
  rw [a7]
  exact a6 i hi
end N16
/-- the least of some values -/
def mnO (us : Nat → Bool) (v : Nat → Int32) : Nat → Option Int32
  | 0 => none
  | k + 1 => if us k = true then (match mnO us v k with | none => some (v k) | some m => some (if v k < m then v k else m)) else mnO us v k
theorem mnO_s (us : Nat → Bool) (v : Nat → Int32) (k : Nat) : mnO us v (k + 1) = if us k = true then (match mnO us v k with | none => some (v k) | some m => some (if v k < m then v k else m)) else mnO us v k := rfl
/-- it is one of them, and none is less -/
theorem mnO_is {us : Nat → Bool} {v : Nat → Int32} : ∀ k, (∀ m, mnO us v k = some m → (∃ i, i < k ∧ us i = true ∧ v i = m) ∧ ∀ i, i < k → us i = true → ¬ v i < m) ∧ (mnO us v k = none → ∀ i, i < k → us i = false) := by
  intro k
  induction k with
  | zero => exact ⟨fun m h => (by cases h), fun _ i h => absurd h (Nat.not_lt_zero _)⟩
  | succ k ih =>
    obtain ⟨i1, i2⟩ := ih
    rw [mnO_s]
    by_cases c : us k = true
    · rw [if_pos c]
      cases e : mnO us v k with
      | none =>
        refine ⟨fun m h => ?_, fun h => (by cases h)⟩
        simp only [Option.some.injEq] at h
        have hno := i2 e
        refine ⟨⟨k, by omega, c, h⟩, fun i hi hu => ?_⟩
        by_cases q : i = k
        · rw [q, h]; exact Int32.lt_irrefl
        · rw [hno i (by omega)] at hu; exact absurd hu (by decide)
      | some m0 =>
        obtain ⟨⟨j, j1, j2, j3⟩, j4⟩ := i1 m0 e
        refine ⟨fun m h => ?_, fun h => (by cases h)⟩
        simp only [Option.some.injEq] at h
        by_cases c1 : v k < m0
        · rw [if_pos c1] at h
          refine ⟨⟨k, by omega, c, h⟩, fun i hi hu => ?_⟩
          by_cases q : i = k
          · rw [q, h]; exact Int32.lt_irrefl
          · rw [← h]
            intro z
            exact j4 i (by omega) hu (Int32.lt_trans z c1)
        · rw [if_neg c1] at h
          refine ⟨⟨j, by omega, j2, j3.trans h⟩, fun i hi hu => ?_⟩
          by_cases q : i = k
          · rw [q, ← h]; exact c1
          · rw [← h]; exact j4 i (by omega) hu
    · rw [if_neg c]
      have c : us k = false := by cases e : us k <;> simp_all
      refine ⟨fun m h => ?_, fun h i hi => ?_⟩
      · obtain ⟨⟨j, j1, j2, j3⟩, j4⟩ := i1 m h
        refine ⟨⟨j, by omega, j2, j3⟩, fun i hi hu => ?_⟩
        by_cases q : i = k
        · rw [q, c] at hu; exact absurd hu (by decide)
        · exact j4 i (by omega) hu
      · by_cases q : i = k
        · rw [q]; exact c
        · exact i2 h i (by omega)
theorem flI_mn {pr : Nat → Nat → Int32} {co : Nat → Int32} {s e : Nat} : ∀ k, itr (flI pr co s e) (0, false) k = ((mnO (fun i => e.testBit i) (fun i => pr s i + co (s + 3 ^ i)) k).getD 0, (mnO (fun i => e.testBit i) (fun i => pr s i + co (s + 3 ^ i)) k).isSome) := by
  intro k
  induction k with
  | zero => rfl
  | succ k ih =>
    rw [itr_s, ih, mnO_s]
    unfold flI
    by_cases c : e.testBit k = true
    · rw [if_pos c, if_pos c]
      cases q : mnO (fun i => e.testBit i) (fun i => pr s i + co (s + 3 ^ i)) k with
      | none => simp
      | some m =>
        simp only [Option.isSome_some, if_true, Option.getD_some]
        by_cases c1 : pr s k + co (s + 3 ^ k) < m
        · rw [if_pos c1, if_pos c1]
        · rw [if_neg c1, if_neg c1]
    · rw [if_neg c, if_neg c]
theorem yE_mn {cn : Nat → Nat → Bool} {wt : Nat → Nat → Int32} {s : Nat} {y : Nat → Int32} : ∀ k, itr (yE cn wt s) y k = z_up y s (match mnO (fun e => cn s e) (fun e => wt s e + y (s + 3 ^ (e / 2))) k with | none => y s | some m => if m < y s then m else y s) := by
  intro k
  induction k with
  | zero => exact (zup_self y s).symm
  | succ k ih =>
    rw [itr_s, ih, mnO_s]
    generalize mnO (fun e => cn s e) (fun e => wt s e + y (s + 3 ^ (e / 2))) k = o
    have hp := p3_pos (k / 2)
    have e2 : ∀ (x : Int32), z_up y s x (s + 3 ^ (k / 2)) = y (s + 3 ^ (k / 2)) := fun x => zup_ne _ _ (by omega)
    have e3 : ∀ (x z : Int32), z_up (z_up y s x) s z = z_up y s z := by
      intro x z
      funext j
      unfold z_up
      split <;> rfl
    unfold yE
    by_cases c : cn s k = true
    · rw [if_pos c, if_pos c, zup_eq, e2, e3]
      congr 1
      generalize wt s k + y (s + 3 ^ (k / 2)) = v
      cases o with
      | none => rfl
      | some m =>
        simp only
        by_cases c1 : v < m
        · rw [if_pos c1]
          by_cases c2 : m < y s
          · rw [if_pos c2, if_pos c1, if_pos (Int32.lt_trans c1 c2)]
          · rw [if_neg c2]
        · rw [if_neg c1]
          by_cases c2 : m < y s
          · rw [if_pos c2, if_neg c1]
          · rw [if_neg c2]
            by_cases c3 : v < y s
            · exfalso
              have h1 : ¬ v.toInt < m.toInt := fun z => c1 (Int32.lt_iff_toInt_lt.mpr z)
              have h2 : ¬ m.toInt < (y s).toInt := fun z => c2 (Int32.lt_iff_toInt_lt.mpr z)
              have h3 := Int32.lt_iff_toInt_lt.mp c3
              omega
            · rw [if_neg c3]
    · rw [if_neg c, if_neg c]

