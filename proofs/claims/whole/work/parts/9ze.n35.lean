/-! stories, on both sides -/
theorem toH_v (sg : Nat → Nat) (p t : Nat) : toI wdH 5 sg p t = if p < t then (if sg p = 104 then 0 else if sg p = 115 then 1 else if sg p = 99 then 2 else if sg p = 114 then 3 else if sg p = 109 then 4 else 5) else 5 := by
  unfold toI
  by_cases c : p < t
  · rw [if_pos c, if_pos c, srch_s, srch_s, srch_s, srch_s, srch_s, srch_0]
    have e : ∀ x : Nat, (x = sg p) = (sg p = x) := fun x => propext eq_comm
    simp only [decide_eq_true_iff, show wdH 0 = 104 from rfl, show wdH (0 + 1) = 115 from rfl, show wdH (0 + 1 + 1) = 99 from rfl, show wdH (0 + 1 + 1 + 1) = 114 from rfl, show wdH (0 + 1 + 1 + 1 + 1) = 109 from rfl, e 104, e 115, e 99, e 114, e 109]
  · rw [if_neg c, if_neg c]
/-- how many signs an act has -/
def LN (x : Nat) : Nat := if x = 109 then 4 else if x = 99 ∨ x = 114 then 3 else if x = 104 ∨ x = 115 then 2 else 0
section N35
variable {n len T : Nat} {c : Nat → Nat}
theorem al_v (hc : ∀ i, c i < 256) {p : Nat} (hp : p < len) : alV (atV len c p) = nI (LN (c p)) := by
  unfold alV LN
  have e1 : (atV len c p = 109) = (c p = 109) := at_v (x := 109) hc hp (by decide)
  have e2 : (atV len c p = 99) = (c p = 99) := at_v (x := 99) hc hp (by decide)
  have e3 : (atV len c p = 114) = (c p = 114) := at_v (x := 114) hc hp (by decide)
  have e4 : (atV len c p = 104) = (c p = 104) := at_v (x := 104) hc hp (by decide)
  have e5 : (atV len c p = 115) = (c p = 115) := at_v (x := 115) hc hp (by decide)
  simp only [e1, e2, e3, e4, e5]
  split
  · rfl
  · split
    · rfl
    · split <;> rfl
theorem LN_le (x : Nat) : LN x ≤ 4 := by
  unfold LN
  split
  · decide
  · split
    · decide
    · split <;> decide
theorem st_s (hc : ∀ i, c i < 256) {k o s : Nat} (hs : s ≤ o) (ho : o < len) (hl : len ≤ 80) (h0 : 0 < LN (c s)) : stScan len c (k + 1) o s = if gsB len c s o then stScan len c k (o + 1) (if o + 1 = s + LN (c s) then o + 1 else s) else (some o, s) := by
  have e : (nI o - nI s = alV (atV len c s) - 1) = (o + 1 = s + LN (c s)) := by
    rw [al_v hc (by omega), nI_sub hs, show (1 : Int32) = nI 1 from rfl, nI_sub (show 1 ≤ LN (c s) from h0), nI_eqI (by omega) (by have := LN_le (c s); omega)]
    exact propext ⟨fun _ => by omega, fun _ => by omega⟩
  show (if gsB len c s o then stScan len c k (o + 1) (if nI o - nI s = alV (atV len c s) - 1 then o + 1 else s) else (some o, s)) = _
  simp only [e]
theorem gs_0 (hc : ∀ i, c i < 256) {s : Nat} (hs : s < len) : gsB len c s s = decide (0 < LN (c s)) := by
  unfold gsB
  rw [if_pos rfl, al_v hc hs]
  congr 1
  exact nI_ult (a := 0) (by decide) (by have := LN_le (c s); omega)
theorem gs_d (hc : ∀ i, c i < 256) {s o : Nat} (hs : s < o) (ho : o < len) (hm : ¬ (c s = 109 ∧ o = s + 3)) : gsB len c s o = decide ((48 ≤ c o ∧ c o ≤ 57) ∧ (c s = 115 → c o - 48 ≤ 1)) := by
  unfold gsB
  have e1 : (atV len c s = 109) = (c s = 109) := at_v (x := 109) hc (by omega) (by decide)
  have e5 : (atV len c s = 115) = (c s = 115) := at_v (x := 115) hc (by omega) (by decide)
  rw [if_neg (by omega)]
  simp only [e1, e5, dg_v hc ho]
  rw [if_neg hm]
  by_cases q : 48 ≤ c o ∧ c o ≤ 57
  · rw [decide_eq_true q, Bool.true_and, ← Bool.decide_or]
    congr 1
    have e : dgV len c o = nI (c o - 48) := if_pos ⟨ho, q⟩
    rw [e]
    have e2 : ((1 : Int32) < nI (c o - 48)) = (1 < c o - 48) := nI_ult (a := 1) (by decide) (by omega)
    rw [e2]
    apply propext
    refine ⟨fun z => ⟨q, fun w => ?_⟩, fun z => ?_⟩
    · rcases z with z | z
      · exact absurd w z
      · omega
    · by_cases w : c s = 115
      · exact Or.inr (by have := z.2 w; omega)
      · exact Or.inl w
  · rw [decide_eq_false q, Bool.false_and, decide_eq_false (fun z => q z.1)]
theorem gs_t (hc : ∀ i, c i < 256) {s : Nat} (ho : s + 3 < len) (hT : s + 3 < T) (hm : c s = 109) : gsB len c s (s + 3) = decide (toI wdS 3 c (s + 3) T < 3) := by
  unfold gsB
  have e1 : (atV len c s = 109) = (c s = 109) := at_v (x := 109) hc (by omega) (by decide)
  rw [if_neg (by omega)]
  simp only [e1, tb_pos ho hT]
  rw [if_pos ⟨hm, trivial⟩]
/-- what both say of a text -/
def stJ (T : Nat) (r : Bool × Nat × Nat × arT) (q : Option Nat × Nat) : Prop := (r.1 = true ∧ q = (none, T) ∧ r.2.1 = T) ∨ (r.1 = false ∧ ((q.1 = some r.2.1 ∧ r.2.1 < T) ∨ (q.1 = none ∧ q.2 < T ∧ r.2.1 = T)))
theorem di_d (hc : ∀ i, c i < 256) {p m : Nat} (hm : m ≤ 10) : (diB c T m (-1) p = true) = (p < T ∧ 48 ≤ c p ∧ c p ≤ 57 ∧ c p - 48 < m) := by
  rw [di_v hc, decide_eq_true_iff]
  exact propext ⟨fun z => ⟨z.1, z.2.1, by omega, z.2.2⟩, fun z => ⟨z.1, z.2.1, z.2.2.2⟩⟩
theorem dgN_v {p : Nat} : (dgN c p T = true) = (p < T ∧ 48 ≤ c p ∧ c p ≤ 57) := by
  unfold dgN
  rw [decide_eq_true_iff]
/-- an act that can be read: where it ends, and what it says -/
def raO (c : Nat → Nat) (T p : Nat) : Prop := p < T ∧ ((c p = 104 ∧ p + 1 < T ∧ 48 ≤ c (p + 1) ∧ c (p + 1) ≤ 57) ∨ (c p = 115 ∧ p + 1 < T ∧ 48 ≤ c (p + 1) ∧ c (p + 1) ≤ 49) ∨ ((c p = 99 ∨ c p = 114) ∧ p + 2 < T ∧ 48 ≤ c (p + 1) ∧ c (p + 1) ≤ 57 ∧ 48 ≤ c (p + 2) ∧ c (p + 2) ≤ 57) ∨ (c p = 109 ∧ p + 3 < T ∧ 48 ≤ c (p + 1) ∧ c (p + 1) ≤ 57 ∧ 48 ≤ c (p + 2) ∧ c (p + 2) ≤ 57 ∧ toI wdS 3 c (p + 3) T < 3))
theorem st_step (hc : ∀ i, c i < 256) (hl : len ≤ 80) (hT : T ≤ len) {k p : Nat} {A : arT} (hp : p < T) : ((raR c T k p A).1 = true ∧ raO c T p ∧ (raR c T k p A).2.1 = p + LN (c p) ∧ p + LN (c p) ≤ T ∧ 2 ≤ LN (c p) ∧ stScan len c (T - p) p p = stScan len c (T - (p + LN (c p))) (p + LN (c p)) (p + LN (c p))) ∨ ((raR c T k p A).1 = false ∧ (((stScan len c (T - p) p p).1 = some (raR c T k p A).2.1 ∧ (raR c T k p A).2.1 < T) ∨ ((stScan len c (T - p) p p).1 = none ∧ (stScan len c (T - p) p p).2 < T ∧ (raR c T k p A).2.1 = T))) := by
  have hpl : p < len := by omega
  have s0 : ∀ k, stScan len c (k + 1) p p = if 0 < LN (c p) then stScan len c k (p + 1) p else (some p, p) := by
    intro k
    by_cases h0 : 0 < LN (c p)
    · rw [st_s hc (Nat.le_refl p) hpl hl h0, gs_0 hc hpl, decide_eq_true h0, if_pos rfl, if_pos h0, if_neg (fun z => ?_)]
      have : 2 ≤ LN (c p) := by
        revert h0; unfold LN
        split
        · intro; decide
        · split
          · intro; decide
          · split
            · intro; decide
            · intro h; exact absurd h (by decide)
      omega
    · rw [if_neg h0]
      show (if gsB len c p p then _ else (some p, p)) = _
      rw [gs_0 hc hpl, decide_eq_false h0, if_neg (by decide)]
  rw [show T - p = (T - p - 1) + 1 by omega, s0]
  unfold raR raO
  rw [toH_v, if_pos hp]
  have dg1 : p + 1 < T → ∀ k, ¬ (c p = 109 ∧ False) → 0 < LN (c p) → stScan len c (k + 1) (p + 1) p = if ((48 ≤ c (p + 1) ∧ c (p + 1) ≤ 57) ∧ (c p = 115 → c (p + 1) - 48 ≤ 1)) then stScan len c k (p + 2) (if p + 2 = p + LN (c p) then p + 2 else p) else (some (p + 1), p) := by
    intro h1 k _ h0
    rw [st_s hc (by omega) (by omega) hl h0, gs_d hc (by omega) (by omega) (by omega)]
    simp only [decide_eq_true_iff]
  have dg2 : p + 2 < T → ∀ k, 0 < LN (c p) → stScan len c (k + 1) (p + 2) p = if ((48 ≤ c (p + 2) ∧ c (p + 2) ≤ 57) ∧ (c p = 115 → c (p + 2) - 48 ≤ 1)) then stScan len c k (p + 3) (if p + 3 = p + LN (c p) then p + 3 else p) else (some (p + 2), p) := by
    intro h1 k h0
    rw [st_s hc (by omega) (by omega) hl h0, gs_d hc (by omega) (by omega) (by omega)]
    simp only [decide_eq_true_iff]
  have dg3 : p + 3 < T → c p = 109 → ∀ k, 0 < LN (c p) → stScan len c (k + 1) (p + 3) p = if toI wdS 3 c (p + 3) T < 3 then stScan len c k (p + 4) (if p + 4 = p + LN (c p) then p + 4 else p) else (some (p + 3), p) := by
    intro h1 hm k h0
    rw [st_s hc (by omega) (by omega) hl h0, gs_t hc (by omega) h1 hm]
    simp only [decide_eq_true_iff]
  by_cases c1 : c p = 104
  · have eL : LN (c p) = 2 := by rw [c1]; rfl
    simp only [if_pos c1, eL, if_pos (show 0 < 2 by decide), if_pos (show 0 < 5 by decide), if_neg (show ¬ (0 : Nat) = 1 by decide), di_d hc (m := 10) (Nat.le_refl _)]
    rw [eL] at dg1
    by_cases d0 : p + 1 < T
    · rw [show T - p - 1 = (T - (p + 2)) + 1 by omega, dg1 d0 _ (fun z => z.2) (by decide)]
      by_cases d1 : 48 ≤ c (p + 1) ∧ c (p + 1) ≤ 57
      · left
        rw [if_pos ⟨d0, d1.1, d1.2, by omega⟩, if_pos ⟨d1, fun w => by omega⟩, if_pos rfl]
        exact ⟨rfl, ⟨hp, Or.inl ⟨c1, d0, d1⟩⟩, rfl, by omega, by decide, rfl⟩
      · right
        rw [if_neg (fun z => d1 ⟨z.2.1, z.2.2.1⟩), if_neg (fun z => d1 z.1)]
        exact ⟨rfl, Or.inl ⟨rfl, d0⟩⟩
    · right
      rw [if_neg (fun z => d0 z.1), show T - p - 1 = 0 by omega]
      exact ⟨rfl, Or.inr ⟨rfl, hp, by show p + 1 = T; omega⟩⟩
  · by_cases c2 : c p = 115
    · have eL : LN (c p) = 2 := by rw [c2]; rfl
      simp only [if_neg c1, if_pos c2, eL, if_pos (show 0 < 2 by decide), if_pos (show 1 < 2 by decide), if_pos (show 1 < 5 by decide), if_true, di_d hc (m := 2) (by decide)]
      rw [eL] at dg1
      by_cases d0 : p + 1 < T
      · rw [show T - p - 1 = (T - (p + 2)) + 1 by omega, dg1 d0 _ (fun z => z.2) (by decide)]
        by_cases d1 : 48 ≤ c (p + 1) ∧ c (p + 1) ≤ 49
        · left
          rw [if_pos ⟨d0, d1.1, by omega, by omega⟩, if_pos ⟨⟨d1.1, by omega⟩, fun w => by omega⟩, if_pos rfl]
          exact ⟨rfl, ⟨hp, Or.inr (Or.inl ⟨c2, d0, d1⟩)⟩, rfl, by omega, by decide, rfl⟩
        · right
          rw [if_neg (fun z => d1 ⟨z.2.1, by omega⟩), if_neg (fun z => d1 ⟨z.1.1, by have := z.2 c2; omega⟩)]
          exact ⟨rfl, Or.inl ⟨rfl, d0⟩⟩
      · right
        rw [if_neg (fun z => d0 z.1), show T - p - 1 = 0 by omega]
        exact ⟨rfl, Or.inr ⟨rfl, hp, by show p + 1 = T; omega⟩⟩
    · by_cases c3 : c p = 99 ∨ c p = 114
      · have eL : LN (c p) = 3 := by unfold LN; rw [if_neg (by omega), if_pos c3]
        have eI : (if c p = 104 then 0 else if c p = 115 then 1 else if c p = 99 then 2 else if c p = 114 then 3 else if c p = 109 then 4 else 5) = (if c p = 99 then 2 else 3) := by
          rw [if_neg c1, if_neg c2]
          rcases c3 with q | q
          · rw [if_pos q, if_pos q]
          · rw [if_neg (show ¬ c p = 99 by omega), if_neg (show ¬ c p = 99 by omega), if_pos q]
        have i1 : (if c p = 99 then 2 else 3) < 5 := by split <;> decide
        have i2 : ¬ (if c p = 99 then 2 else 3) = 1 := by split <;> decide
        have i3 : ¬ (if c p = 99 then 2 else 3) < 2 := by split <;> decide
        have i4 : (if c p = 99 then 2 else 3) < 4 := by split <;> decide
        rw [eI]
        generalize (if c p = 99 then 2 else 3) = ix at *
        simp only [if_pos i1, if_neg i2, if_neg i3, if_pos i4, eL, if_pos (show 0 < 3 by decide), di_d hc (m := 10) (Nat.le_refl _), dgN_v]
        rw [eL] at dg1 dg2
        by_cases d0 : p + 1 < T
        · rw [show T - p - 1 = (T - p - 2) + 1 by omega, dg1 d0 _ (fun z => z.2) (by decide)]
          by_cases d1 : 48 ≤ c (p + 1) ∧ c (p + 1) ≤ 57
          · rw [if_pos (⟨d0, d1.1, d1.2, by omega⟩ : p + 1 < T ∧ 48 ≤ c (p + 1) ∧ c (p + 1) ≤ 57 ∧ c (p + 1) - 48 < 10), if_pos (⟨d1, fun w => absurd w c2⟩ : (48 ≤ c (p + 1) ∧ c (p + 1) ≤ 57) ∧ (c p = 115 → c (p + 1) - 48 ≤ 1)), if_neg (show ¬ p + 2 = p + 3 by omega)]
            by_cases f0 : p + 2 < T
            · rw [show T - p - 2 = (T - (p + 3)) + 1 by omega, dg2 f0 _ (by decide)]
              by_cases f1 : 48 ≤ c (p + 2) ∧ c (p + 2) ≤ 57
              · left
                rw [if_pos (⟨f0, f1⟩ : p + 2 < T ∧ 48 ≤ c (p + 2) ∧ c (p + 2) ≤ 57), if_pos ⟨f1, fun w => absurd w c2⟩, if_pos rfl]
                exact ⟨rfl, ⟨hp, Or.inr (Or.inr (Or.inl ⟨c3, f0, d1.1, d1.2, f1.1, f1.2⟩))⟩, rfl, by omega, by decide, rfl⟩
              · right
                rw [if_neg (fun z => f1 z.2), if_neg (fun z => f1 z.1)]
                exact ⟨rfl, Or.inl ⟨rfl, f0⟩⟩
            · right
              rw [if_neg (fun z => f0 z.1), show T - p - 2 = 0 by omega]
              exact ⟨rfl, Or.inr ⟨rfl, hp, by show p + 2 = T; omega⟩⟩
          · right
            rw [if_neg (fun z => d1 ⟨z.2.1, z.2.2.1⟩), if_neg (fun z => d1 z.1)]
            exact ⟨rfl, Or.inl ⟨rfl, d0⟩⟩
        · right
          rw [if_neg (fun z => d0 z.1), show T - p - 1 = 0 by omega]
          exact ⟨rfl, Or.inr ⟨rfl, hp, by show p + 1 = T; omega⟩⟩
      · by_cases c4 : c p = 109
        · have eL : LN (c p) = 4 := by rw [c4]; rfl
          simp only [if_neg c1, if_neg c2, if_neg (fun z => c3 (Or.inl z) : ¬ c p = 99), if_neg (fun z => c3 (Or.inr z) : ¬ c p = 114), if_pos c4, eL, if_pos (show 0 < 4 by decide), if_pos (show 4 < 5 by decide), if_neg (show ¬ (4 : Nat) = 1 by decide), if_neg (show ¬ (4 : Nat) < 2 by decide), if_neg (show ¬ (4 : Nat) < 4 by decide), di_d hc (m := 10) (Nat.le_refl _), dgN_v]
          rw [eL] at dg1 dg2 dg3
          by_cases d0 : p + 1 < T
          · rw [show T - p - 1 = (T - p - 2) + 1 by omega, dg1 d0 _ (fun z => z.2) (by decide)]
            by_cases d1 : 48 ≤ c (p + 1) ∧ c (p + 1) ≤ 57
            · rw [if_pos (⟨d0, d1.1, d1.2, by omega⟩ : p + 1 < T ∧ 48 ≤ c (p + 1) ∧ c (p + 1) ≤ 57 ∧ c (p + 1) - 48 < 10), if_pos (⟨d1, fun w => absurd w c2⟩ : (48 ≤ c (p + 1) ∧ c (p + 1) ≤ 57) ∧ (c p = 115 → c (p + 1) - 48 ≤ 1)), if_neg (show ¬ p + 2 = p + 4 by omega)]
              by_cases f0 : p + 2 < T
              · rw [show T - p - 2 = (T - p - 3) + 1 by omega, dg2 f0 _ (by decide)]
                by_cases f1 : 48 ≤ c (p + 2) ∧ c (p + 2) ≤ 57
                · rw [if_pos (⟨f0, f1⟩ : p + 2 < T ∧ 48 ≤ c (p + 2) ∧ c (p + 2) ≤ 57), if_pos (⟨f1, fun w => absurd w c2⟩ : (48 ≤ c (p + 2) ∧ c (p + 2) ≤ 57) ∧ (c p = 115 → c (p + 2) - 48 ≤ 1)), if_neg (show ¬ p + 3 = p + 4 by omega)]
                  by_cases g0 : p + 3 < T
                  · rw [show T - p - 3 = (T - (p + 4)) + 1 by omega, dg3 g0 c4 _ (by decide)]
                    by_cases g1 : toI wdS 3 c (p + 3) T < 3
                    · left
                      simp only [if_pos g1, if_true]
                      refine ⟨trivial, ⟨hp, Or.inr (Or.inr (Or.inr ⟨c4, g0, d1.1, d1.2, f1.1, f1.2, g1⟩))⟩, trivial, by omega, by decide, ?_⟩
                      first | rfl | trivial
                    · right
                      simp only [if_neg g1]
                      exact ⟨trivial, Or.inl ⟨trivial, g0⟩⟩
                  · right
                    rw [if_neg (fun z => g0 (toI_lt z)), show T - p - 3 = 0 by omega]
                    exact ⟨rfl, Or.inr ⟨rfl, hp, by show p + 3 = T; omega⟩⟩
                · right
                  rw [if_neg (fun z => f1 z.2), if_neg (fun z => f1 z.1)]
                  exact ⟨rfl, Or.inl ⟨rfl, f0⟩⟩
              · right
                rw [if_neg (fun z => f0 z.1), show T - p - 2 = 0 by omega]
                exact ⟨rfl, Or.inr ⟨rfl, hp, by show p + 2 = T; omega⟩⟩
            · right
              rw [if_neg (fun z => d1 ⟨z.2.1, z.2.2.1⟩), if_neg (fun z => d1 z.1)]
              exact ⟨rfl, Or.inl ⟨rfl, d0⟩⟩
          · right
            rw [if_neg (fun z => d0 z.1), show T - p - 1 = 0 by omega]
            exact ⟨rfl, Or.inr ⟨rfl, hp, by show p + 1 = T; omega⟩⟩
        · right
          have eL : LN (c p) = 0 := by unfold LN; rw [if_neg c4, if_neg c3, if_neg (by omega)]
          rw [eL, if_neg c1, if_neg c2, if_neg (fun z => c3 (Or.inl z) : ¬ c p = 99), if_neg (fun z => c3 (Or.inr z) : ¬ c p = 114), if_neg c4, if_neg (by decide), if_neg (by decide)]
          exact ⟨rfl, Or.inl ⟨rfl, hp⟩⟩
theorem st_spec (hc : ∀ i, c i < 256) (hl : len ≤ 80) (hT : T ≤ len) : ∀ f k p A, p ≤ T → T + 1 ≤ p + f → stJ T (sryR c T f k p A) (stScan len c (T - p) p p) := by
  intro f
  induction f with
  | zero => intro k p A hp h; omega
  | succ f ih =>
    intro k p A hp hf
    show stJ T (if p < T then (if (raR c T k p A).1 = true then sryR c T f (k + 1) (raR c T k p A).2.1 (raR c T k p A).2.2 else (false, (raR c T k p A).2.1, k + 1, (raR c T k p A).2.2)) else (true, p, k, A)) _
    by_cases c0 : p < T
    · rw [if_pos c0]
      rcases st_step (len := len) hc hl hT (k := k) (A := A) c0 with ⟨a1, a2, a3, a4, a5, a6⟩ | ⟨b1, b2⟩
      · rw [if_pos a1, a6, a3]
        exact ih (k + 1) (p + LN (c p)) _ a4 (by omega)
      · rw [if_neg (by rw [b1]; decide)]
        exact Or.inr ⟨rfl, b2⟩
    · rw [if_neg c0, show T - p = 0 by omega, show p = T by omega]
      exact Or.inl ⟨rfl, rfl, rfl⟩
/-- a story's text: the fault -/
theorem st_eq (hc : ∀ i, c i < 256) (hl : len ≤ 80) {A : arT} {r : Bool × Nat × Nat × arT} (hr : sryS c len A = r) : (fsV len c = -1 → ¬ ftV len 60 r.1 r.2.1 (min len 60) < 0 ∧ r.1 = true ∧ len ≤ 60) ∧ (¬ fsV len c = -1 → ftV len 60 r.1 r.2.1 (min len 60) < 0 ∧ ftV len 60 r.1 r.2.1 (min len 60) = -1 - fsV len c) := by
  have h := st_spec (T := min len 60) hc hl (by omega) (min len 60 + 1) 0 0 A (Nat.zero_le _) (by omega)
  rw [show sryR c (min len 60) (min len 60 + 1) 0 0 A = r from hr, Nat.sub_zero] at h
  unfold fsV
  generalize stScan len c (min len 60) 0 0 = q at *
  obtain ⟨q1, q2⟩ := q
  have hz : ∀ x, x < 81 → ¬ nI x = -1 := by decide +kernel
  rcases h with ⟨a1, a2, a3⟩ | ⟨b1, ⟨b2, b3⟩ | ⟨b2, b3, b4⟩⟩
  · rw [Prod.mk.injEq] at a2
    obtain ⟨e1, e2⟩ := a2
    subst e1 e2
    simp only
    unfold fltV ftV
    simp only [decide_eq_true_iff]
    by_cases w : min len 60 = len
    · rw [if_pos w, if_neg (by omega), if_pos ⟨a1, a3⟩]
      exact ⟨fun _ => ⟨by decide, a1, by omega⟩, fun z => absurd rfl z⟩
    · rw [if_neg w, if_pos ⟨by omega, Or.inl ⟨a1, a3⟩⟩, show min len 60 = 60 by omega]
      exact ⟨fun z => absurd z (hz 60 (by decide)), fun _ => ⟨by decide, rfl⟩⟩
  · simp only at b2
    subst b2
    unfold fltV ftV
    simp only
    rw [if_neg (by rw [b1]; rintro ⟨x, y | y⟩ <;> first | exact absurd y.1 (by decide) | omega), if_neg (by rw [b1]; rintro ⟨x, y⟩; exact absurd x (by decide))]
    exact ⟨fun z => absurd z (hz _ (by omega)), fun _ => ⟨ft_neg (by omega), rfl⟩⟩
  · simp only at b2 b3
    subst b2
    unfold fltV ftV
    simp only [decide_eq_true_iff]
    rw [if_neg (show ¬ q2 = len by omega), b4]
    refine ⟨fun z => absurd z (hz _ (by omega)), fun _ => ?_⟩
    by_cases w : 60 < len
    · rw [if_pos ⟨w, Or.inr (by omega)⟩, show min len 60 = 60 by omega]
      exact ⟨by decide, rfl⟩
    · rw [if_neg (fun z => w z.1), if_neg (by rw [b1]; rintro ⟨x, y⟩; exact absurd x (by decide))]
      exact ⟨ft_neg (by omega), rfl⟩
end N35

