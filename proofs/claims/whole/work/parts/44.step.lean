/-! a step leads from a state to a state -/
theorem dg_add {s i n : Nat} (hi : i < n) (hs : s < 3 ^ n) (hd : dg s i ≤ 1) : s + 3 ^ i < 3 ^ n := by
  have h1 : s / 3 ^ i < 3 ^ (n - i) := by
    rw [Nat.div_lt_iff_lt_mul (p3_pos i), ← Nat.pow_add, show n - i + i = n by omega]
    exact hs
  have h2 : 3 ^ (n - i) = 3 * 3 ^ (n - i - 1) := by
    rw [Nat.mul_comm, ← Nat.pow_succ]
    congr 1
    omega
  have h3 : s / 3 ^ i + 1 < 3 ^ (n - i) := by
    unfold dg at hd
    generalize s / 3 ^ i = x at *
    omega
  have h4 : (s + 3 ^ i) / 3 ^ i < 3 ^ (n - i) := by
    rw [Nat.add_div_right _ (p3_pos i)]
    exact h3
  rw [Nat.div_lt_iff_lt_mul (p3_pos i), ← Nat.pow_add, show n - i + i = n by omega] at h4
  exact h4
theorem rtU_bit {al : Nat} {nd br : Nat → Nat} {q : (Nat → Nat) × (Nat → Nat)} (h1 : ∀ s, q.1 s < 128) (h2 : ∀ s, q.2 s < 128) {s : Nat} (hs : s < al + 1) : ∀ g, g ≤ 7 → ∀ i, i < g → ((rtU al nd br q g).1 s).testBit i = gB (nd i) i s ∧ ((rtU al nd br q g).2 s).testBit i = cB (br i) i s := by
  intro g
  induction g with
  | zero => intro _ i hi; omega
  | succ g ih =>
    intro hg i hi
    have lt := rtU_lt (al := al) (nd := nd) (br := br) h1 h2 g (by omega)
    show (pre (fun s => sbit ((rtU al nd br q g).1 s) g (gB (nd g) g s)) (rtU al nd br q g).1 (al + 1) s).testBit i = _ ∧ (pre (fun s => sbit ((rtU al nd br q g).2 s) g (cB (br g) g s)) (rtU al nd br q g).2 (al + 1) s).testBit i = _
    unfold pre
    rw [if_pos hs, if_pos hs, sbit_tb _ (lt.1 s) _ (by omega) _ (by omega), sbit_tb _ (lt.2 s) _ (by omega) _ (by omega)]
    by_cases e : i = g
    · subst e
      rw [if_pos rfl, if_pos rfl]
      exact ⟨rfl, rfl⟩
    · rw [if_neg e, if_neg e]
      exact ih (by omega) i (by omega)
theorem and_bit0 : ∀ x, x < 128 → ∀ i, i < 7 → decide (x &&& 2 ^ i = 0) = !x.testBit i := by decide +kernel
theorem in_le {A : Nat → Nat → Nat} {n s : Nat} (hn : n ≤ 7) (hd : digOK (A 0, A 1) (3 ^ n)) (hA0 : A 0 s < 128) (hs : s < 3 ^ n) : A 0 s < 2 ^ n - 1 + 1 := by
  have hp : 0 < 2 ^ n := Nat.two_pow_pos n
  have : A 0 s < 2 ^ n := by
    apply Nat.lt_pow_two_of_testBit
    intro i hi
    by_cases c : i < 7
    · rw [(hd s hs i c).1, dg_hi hs hi]; rfl
    · exact Nat.testBit_lt_two_pow (Nat.lt_of_lt_of_le hA0 (show 2 ^ 7 ≤ 2 ^ i from Nat.pow_le_pow_right (by decide) (by omega)))
  omega
/-- what lookBehind wants of its rows -/
theorem step_ok {A : Nat → Nat → Nat} {C : Nat → Nat → Nat} {n : Nat} {nd br : Nat → Nat} {q : (Nat → Nat) × (Nat → Nat)} (hn : n ≤ 7) (hd : digOK (A 0, A 1) (3 ^ n)) (hA0 : ∀ s, A 0 s < 128) (hA1 : ∀ s, A 1 s < 128) (h1 : ∀ s, q.1 s < 128) (h2 : ∀ s, q.2 s < 128) (hC1 : C 1 = (rtU (2 ^ n - 1) nd br q n).2) {s i : Nat} (hs : s < 3 ^ n) (hi : i < n) (hb : (pos4 A C s).testBit i = true) : s + 3 ^ i < 3 ^ n := by
  apply dg_add hi hs
  have hD := hd s hs i (by omega)
  simp only at hD
  unfold pos4 at hb
  rw [Nat.testBit_or, Nat.testBit_and, Nat.testBit_and, Bool.or_eq_true, Bool.and_eq_true, Bool.and_eq_true] at hb
  rcases hb with ⟨b1, _⟩ | ⟨b1, b2⟩
  · rw [hD.1] at b1
    have := of_decide_eq_true b1
    omega
  · rw [hC1, (rtU_bit h1 h2 (in_le hn hd (hA0 s) hs) n hn i hi).2] at b1
    have b3 := (of_decide_eq_true b1).1
    have b4 := and_bit0 _ (hA0 s) i (by omega)
    rw [decide_eq_true b3, hD.1] at b4
    have b5 : ¬ dg s i = 1 := by
      intro z
      rw [decide_eq_true z] at b4
      cases b4
    have b6 : (127 - A 1 s).testBit i = !(A 1 s).testBit i := (show ∀ x, x < 128 → ∀ i, i < 7 → (127 - x).testBit i = !x.testBit i by decide +kernel) _ (hA1 s) i (by omega)
    rw [b6, hD.2] at b2
    have b7 : ¬ dg s i = 2 := by
      intro z
      rw [decide_eq_true z] at b2
      cases b2
    have : dg s i < 3 := Nat.mod_lt _ (by decide)
    omega

