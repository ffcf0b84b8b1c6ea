/-! sets that can have come, and orders that can have been -/
theorem stl_bit (nd : Nat → Nat) (c : Nat) : ∀ k x, (stl nd c k).testBit x = decide (x < k ∧ c.testBit x = true ∧ ¬ nd x &&& (127 - c) = 0) := by
  intro k
  induction k with
  | zero => intro x; rw [decide_eq_false (fun q => Nat.not_lt_zero _ q.1)]; exact Nat.zero_testBit _
  | succ k ih =>
    intro x
    show (if c.testBit k = true ∧ ¬ nd k &&& (127 - c) = 0 then stl nd c k ||| 2 ^ k else stl nd c k).testBit x = _
    by_cases q : c.testBit k = true ∧ ¬ nd k &&& (127 - c) = 0
    · rw [if_pos q, Nat.testBit_or, ih, Nat.testBit_two_pow]
      by_cases e : k = x
      · subst e; simp [q.1, q.2]
      · simp only [e, decide_false, Bool.or_false]
        congr 1
        apply propext
        constructor
        · exact fun z => ⟨by omega, z.2⟩
        · exact fun z => ⟨by have := z.1; omega, z.2⟩
    · rw [if_neg q, ih]
      congr 1
      apply propext
      constructor
      · exact fun z => ⟨by omega, z.2⟩
      · refine fun z => ⟨?_, z.2⟩
        have h1 : x ≠ k := fun e => q (e ▸ z.2)
        have := z.1
        omega
theorem cmn_iff {br : Nat → Nat} {left c st : Nat} {rc : Nat → Bool} : ∀ k x, cmn br left c st rc k x = true ↔ rc x = true ∨ ∃ g, g < k ∧ left.testBit g = true ∧ br g &&& st = 0 ∧ x = c ||| 2 ^ g := by
  intro k
  induction k with
  | zero =>
    intro x
    constructor
    · exact fun h => Or.inl h
    · rintro (h | ⟨g, h, _⟩)
      · exact h
      · exact absurd h (Nat.not_lt_zero _)
  | succ k ih =>
    intro x
    show (if left.testBit k = true ∧ br k &&& st = 0 then z_up (cmn br left c st rc k) (c ||| 2 ^ k) true else cmn br left c st rc k) x = true ↔ _
    by_cases q : left.testBit k = true ∧ br k &&& st = 0
    · rw [if_pos q]
      by_cases e : x = c ||| 2 ^ k
      · rw [e, zup_eq]
        exact ⟨fun _ => Or.inr ⟨k, by omega, q.1, q.2, rfl⟩, fun _ => rfl⟩
      · rw [zup_ne _ _ e, ih]
        constructor
        · rintro (h | ⟨g, a, b⟩)
          · exact Or.inl h
          · exact Or.inr ⟨g, by omega, b⟩
        · rintro (h | ⟨g, a, b, d, f⟩)
          · exact Or.inl h
          · by_cases z : g = k
            · rw [z] at f; exact absurd f e
            · exact Or.inr ⟨g, by omega, b, d, f⟩
    · rw [if_neg q, ih]
      constructor
      · rintro (h | ⟨g, a, b⟩)
        · exact Or.inl h
        · exact Or.inr ⟨g, by omega, b⟩
      · rintro (h | ⟨g, a, b, d, f⟩)
        · exact Or.inl h
        · by_cases z : g = k
          · rw [z] at b d; exact absurd ⟨b, d⟩ q
          · exact Or.inr ⟨g, by omega, b, d, f⟩
theorem or_gt {k g : Nat} (h : k.testBit g = false) : k < k ||| 2 ^ g := by
  have h1 : k ≤ k ||| 2 ^ g := Nat.left_le_or
  have h2 : k ≠ k ||| 2 ^ g := by
    intro e
    have : (k ||| 2 ^ g).testBit g = false := by rw [← e]; exact h
    rw [Nat.testBit_or, Nat.testBit_two_pow_self, Bool.or_true] at this
    exact absurd this (by decide)
  omega
section N27
variable {nd br : Nat → Nat} {s : Nat} {rc : Nat → Bool}
theorem acm_s (k x : Nat) : acm nd br s rc (k + 1) x = true ↔ acm nd br s rc k x = true ∨ (acm nd br s rc k k = true ∧ ∃ g, g < 7 ∧ (s &&& (127 - k)).testBit g = true ∧ br g &&& stl nd k 7 = 0 ∧ x = k ||| 2 ^ g) := by
  show (if acm nd br s rc k k = true then cmn br (s &&& (127 - k)) k (stl nd k 7) (acm nd br s rc k) 7 else acm nd br s rc k) x = true ↔ _
  by_cases q : acm nd br s rc k k = true
  · rw [if_pos q, cmn_iff]
    constructor
    · rintro (h | h)
      · exact Or.inl h
      · exact Or.inr ⟨q, h⟩
    · rintro (h | ⟨-, h⟩)
      · exact Or.inl h
      · exact Or.inr h
  · rw [if_neg q]
    exact ⟨fun h => Or.inl h, fun h => h.elim id (fun z => absurd z.1 q)⟩
theorem acm_up {k x : Nat} (h : acm nd br s rc k x = true) : ∀ j, acm nd br s rc (k + j) x = true := by
  intro j
  induction j with
  | zero => exact h
  | succ j ih => exact (acm_s (k + j) x).mpr (Or.inl ih)
/-- what comes later does not touch it -/
theorem acm_dn (hs : s < 128) {x : Nat} : ∀ j, acm nd br s rc (x + j) x = true → acm nd br s rc x x = true := by
  intro j
  induction j with
  | zero => exact fun h => h
  | succ j ih =>
    intro h
    rcases (acm_s (x + j) x).mp h with h | ⟨-, g, h1, h2, h3, h4⟩
    · exact ih h
    · exfalso
      by_cases c : x + j < 128
      · rw [and_bit, cpl_bit c] at h2
        have hb : (x + j).testBit g = false := by
          cases e : (x + j).testBit g
          · rfl
          · rw [e] at h2; simp at h2
        have := or_gt hb
        omega
      · rw [and_bit, show 127 - (x + j) = 0 by omega, Nat.zero_testBit] at h2
        exact absurd h2.2 (by decide)
/-- the last table: a set that can have come, and one more who may -/
theorem acm_cl (hs : s < 128) {c g : Nat} (hc : c < s) (h : acm nd br s rc s c = true) (hg : g < 7) (h1 : s.testBit g = true) (h2 : c.testBit g = false) (h3 : br g &&& stl nd c 7 = 0) : acm nd br s rc s (c ||| 2 ^ g) = true := by
  have hcc : acm nd br s rc c c = true := by
    refine acm_dn hs (s - c) ?_
    rw [show c + (s - c) = s by omega]
    exact h
  have : acm nd br s rc (c + 1) (c ||| 2 ^ g) = true := by
    refine (acm_s c _).mpr (Or.inr ⟨hcc, g, hg, ?_, h3, rfl⟩)
    rw [and_bit, cpl_bit (by omega), h2]
    exact ⟨h1, by simp [hg]⟩
  have := acm_up this (s - (c + 1))
  rw [show c + 1 + (s - (c + 1)) = s by omega] at this
  exact this
end N27
theorem dig_ext : ∀ n x y, x < 3 ^ n → y < 3 ^ n → (∀ i, i < n → dg x i = dg y i) → x = y := by
  intro n
  induction n with
  | zero => intro x y hx hy _; rw [Nat.pow_zero] at *; omega
  | succ n ih =>
    intro x y hx hy h
    have hp := p3_pos n
    have e3 : 3 ^ (n + 1) = 3 ^ n * 3 := Nat.pow_succ _ _
    have key : ∀ z, z < 3 ^ (n + 1) → z = dg z n * 3 ^ n + z % 3 ^ n ∧ ∀ i, i < n → dg (z % 3 ^ n) i = dg z i := by
      intro z hz
      have hq : z / 3 ^ n < 3 := by rw [Nat.div_lt_iff_lt_mul hp]; omega
      have hd : dg z n = z / 3 ^ n := Nat.mod_eq_of_lt hq
      have hr := Nat.div_add_mod z (3 ^ n)
      refine ⟨by rw [hd, Nat.mul_comm]; omega, fun i hi => ?_⟩
      rw [Nat.mul_comm] at hr
      have low : ∀ t, dg (3 ^ n + t) i = dg t i := fun t => dg_low hi
      generalize z / 3 ^ n = d at *
      generalize z % 3 ^ n = r at *
      rcases (show d = 0 ∨ d = 1 ∨ d = 2 by omega) with e | e | e
      · rw [e, Nat.zero_mul, Nat.zero_add] at hr; rw [hr]
      · rw [e, Nat.one_mul] at hr; rw [← hr, low]
      · rw [e, show 2 * 3 ^ n = 3 ^ n + 3 ^ n by omega, Nat.add_assoc] at hr; rw [← hr, low, low]
    obtain ⟨x1, x2⟩ := key x hx
    obtain ⟨y1, y2⟩ := key y hy
    have em := ih (x % 3 ^ n) (y % 3 ^ n) (Nat.mod_lt _ hp) (Nat.mod_lt _ hp) (fun i hi => by rw [x2 i hi, y2 i hi]; exact h i (by omega))
    rw [x1, y1, em, h n (by omega)]
/-- a state of given digits -/
theorem mk_dig (d : Nat → Nat) (hd : ∀ i, d i < 3) : ∀ n, ∃ x, x < 3 ^ n ∧ ∀ i, i < n → dg x i = d i := by
  intro n
  induction n with
  | zero => exact ⟨0, by decide, fun i h => absurd h (Nat.not_lt_zero _)⟩
  | succ n ih =>
    obtain ⟨x, h1, h2⟩ := ih
    have hp := p3_pos n
    have e3 : 3 ^ (n + 1) = 3 ^ n * 3 := Nat.pow_succ _ _
    have h0 : dg x n = 0 := dg_hi h1 (Nat.le_refl _)
    obtain ⟨a1, a2⟩ := dg_step (s := x) (i := n) (by omega)
    obtain ⟨b1, b2⟩ := dg_step (s := x + 3 ^ n) (i := n) (by omega)
    have := hd n
    rcases (show d n = 0 ∨ d n = 1 ∨ d n = 2 by omega) with e | e | e
    · refine ⟨x, by omega, fun i hi => ?_⟩
      by_cases q : i = n
      · rw [q, h0, e]
      · exact h2 i (by omega)
    · refine ⟨x + 3 ^ n, by omega, fun i hi => ?_⟩
      by_cases q : i = n
      · rw [q, a1, h0, e]
      · rw [a2 i q]; exact h2 i (by omega)
    · refine ⟨x + 3 ^ n + 3 ^ n, by omega, fun i hi => ?_⟩
      by_cases q : i = n
      · rw [q, b1, a1, h0, e]
      · rw [b2 i q, a2 i q]; exact h2 i (by omega)
section N27b
variable {n : Nat} {q : Nat → Nat → Bool} {T : Nat → Nat}
/-- goings alone: from what leads on one comes back -/
theorem go_live (hq : pOK n q) (hT : cntT n q T) (hgo : ∀ x i, x < 3 ^ n → i < n → dg x i = 1 → q x i = true) {y : Nat} (hy : y < 3 ^ n) (hl : ¬ T y = 0) : ∀ x, x < 3 ^ n → (∀ i, i < n → dg y i = dg x i ∨ (dg x i = 1 ∧ dg y i = 2)) → ¬ T x = 0 := by
  refine dw_ind (fun x hx ih h => ?_)
  by_cases c : ∃ i, i < n ∧ dg x i = 1 ∧ dg y i = 2
  · obtain ⟨i, hi, h1, h2⟩ := c
    obtain ⟨a1, a2⟩ := dg_step (s := x) (i := i) (by omega)
    have hl2 := dg_add hi hx (by omega)
    have hp := p3_pos i
    have := ih (x + 3 ^ i) (by omega) hl2 (fun j hj => by
      by_cases e : j = i
      · rw [e, a1, h1, h2]; exact Or.inl rfl
      · rw [a2 j e]; exact h j hj)
    have hm := cnt_mono hq hT hx hi (hgo x i hx hi h1)
    omega
  · have : x = y := dig_ext n x y hx hy (fun i hi => by
      rcases h i hi with e | e
      · exact e.symm
      · exact absurd ⟨i, hi, e.1, e.2⟩ c)
    rw [this]; exact hl
end N27b

