/-! before, met, place: both sides answer alike -/
section N14
variable {n len m la : Nat} {A : Nat → Nat → Nat} {B : Nat → Nat → Int64} {tl : Bool} {p q : Nat → Nat → Bool} {TC TM : Nat → Nat} {gd : Nat → Prop}
/-- what has been tallied is of these rows -/
def tlT (n m : Nat) (A : Nat → Nat → Nat) (B : Nat → Nat → Int64) (TC : Nat → Nat) (tl : Bool) : Prop := tl = true → (∀ t, t < 3 ^ n → B 0 t = lN (aN (rCA A) n (3 ^ n - 1) t)) ∧ (∀ x, x < m → B 3 x = lN (cmS A (fun s => A 0 s ||| A 1 s) TC n (3 ^ n - 1) x)) ∧ ∀ x, x < m → B 4 x = lN (cmS A (fun s => A 0 s) TC n (3 ^ n - 1) x)
theorem tl_ok (H : twoH n A p q TC TM gd) (h0 : ¬ TC 0 = 0) (hB : ∀ s, s < 3 ^ n → B 1 s = lN (TC s)) (hlen : 3 ^ n ≤ len) (hI : tlT n m A B TC tl) : (∀ t, t < 3 ^ n → tlB A B n (3 ^ n - 1) len m tl 0 t = lN (aN (rCA A) n (3 ^ n - 1) t)) ∧ (∀ x, x < m → tlB A B n (3 ^ n - 1) len m tl 3 x = lN (cmS A (fun s => A 0 s ||| A 1 s) TC n (3 ^ n - 1) x)) ∧ (∀ x, x < m → tlB A B n (3 ^ n - 1) len m tl 4 x = lN (cmS A (fun s => A 0 s) TC n (3 ^ n - 1) x)) ∧ tlB A B n (3 ^ n - 1) len m tl 1 = B 1 ∧ tlB A B n (3 ^ n - 1) len m tl 2 = B 2 := by
  have h3 := p3_pos n
  unfold tlB
  by_cases c : tl = true
  · rw [if_pos c]
    obtain ⟨a, b, d⟩ := hI c
    exact ⟨a, b, d, rfl, rfl⟩
  · rw [if_neg c]
    have h1 := cnt_le H.1 H.2.2.1 H.2.2.2.2.1 h3
    obtain ⟨a, b, d⟩ := tl_at (A := A) (n := n) (m := m) (la := 3 ^ n - 1) (T := TC) (bh := B 1) hB (by omega) (fun s i hs _ h => (two_in H (by omega) h).2.2.2.2) (fun k hk => two_b H h0 (by omega)) (q := tlQ B len m) (fun t ht => by
      show z_up (fun i => if i < len then 0 else B 0 i) 0 (if 0 < B 1 0 then 1 else 0) t = lN (dl0 t)
      have hp : 0 < B 1 0 := by rw [hB 0 h3, lN_pos' h1]; omega
      unfold dl0
      by_cases ct : t = 0
      · rw [ct, zup_eq, if_pos hp, if_pos rfl]; rfl
      · rw [zup_ne _ _ ct, if_pos (show t < len by omega), if_neg (fun z => ct z.symm)]; rfl) (fun x hx => if_pos hx) (fun x hx => if_pos hx) (3 ^ n - 1) (Nat.le_refl _)
    exact ⟨a, b, d, rfl, rfl⟩
/-- sets of a state stay below -/
def digA (n : Nat) (A : Nat → Nat → Nat) : Prop := (∀ s, A 0 s < 128) ∧ (∀ s, A 1 s < 128) ∧ digOK (A 0, A 1) (3 ^ n)
theorem set_bit (hA : digA n A) {s b : Nat} (hs : s < 3 ^ n) : ((A 0 s ||| A 1 s).testBit b = decide (b < 7 ∧ ¬ dg s b = 0)) ∧ (A 0 s).testBit b = decide (b < 7 ∧ dg s b = 1) := by
  obtain ⟨a0, a1, hd⟩ := hA
  by_cases c : b < 7
  · obtain ⟨e1, e2⟩ := hd s hs b c
    simp only at e1 e2
    rw [Nat.testBit_or, e1, e2]
    have := dg_lt s b
    constructor
    · by_cases c0 : dg s b = 0
      · simp [c0]
      · by_cases c1 : dg s b = 1
        · simp [c1, c]
        · have c2 : dg s b = 2 := by omega
          simp [c2, c]
    · simp [c]
  · rw [bit_out (q_or_lt (a0 s) (a1 s)) (by omega), bit_out (a0 s) (by omega), decide_eq_false (fun z => c z.1), decide_eq_false (fun z => c z.1)]
    exact ⟨rfl, rfl⟩
theorem set_lt (hA : digA n A) (hn : n ≤ 7) {s : Nat} (hs : s < 3 ^ n) : (A 0 s ||| A 1 s) < 2 ^ n ∧ A 0 s < 2 ^ n := by
  constructor
  · apply Nat.lt_pow_two_of_testBit
    intro i hi
    rw [(set_bit hA hs).1, dg_hi hs hi]
    simp
  · apply Nat.lt_pow_two_of_testBit
    intro i hi
    rw [(set_bit hA hs).2, dg_hi hs hi]
    simp
theorem wa_eq (H : twoH n A p q TC TM gd) (hA : digA n A) {f : Nat → Int64} (hm : 128 * n ≤ m) (hf : ∀ x, x < m → f x = lN (cmS A (fun s => A 0 s ||| A 1 s) TC n (3 ^ n - 1) x)) {a : Nat} (ha : a < n) {pc : Nat → Bool} {cd : Nat → Bool} (hc : ∀ s, s < 3 ^ n - 1 → pc (A 0 s ||| A 1 s) = cd s) : waS f pc a (2 ^ n) = lN (gatN q TM n a cd) := by
  have hn := H.1
  have h2 : 2 ^ n ≤ 128 := Nat.pow_le_pow_right (n := 2) (by decide) hn
  rw [waS_N (g := fun x => cmS A (fun s => A 0 s ||| A 1 s) TC n (3 ^ n - 1) (128 * a + x)) (2 ^ n) (fun i hi => by rw [hf _ (by omega), Nat.mul_comm a 128])]
  congr 1
  rw [cm_sum (A := A) (T := TC) (c := fun s => A 0 s ||| A 1 s) ha (fun s hs => Nat.lt_of_lt_of_le (set_lt hA hn (by omega)).1 h2) (fun s hs => (set_lt hA hn (by omega)).1) h2]
  exact two_g H ha hc
theorem wi_eq (H : twoH n A p q TC TM gd) (hA : digA n A) {f : Nat → Int64} (hm : 128 * n ≤ m) (hf : ∀ x, x < m → f x = lN (cmS A (fun s => A 0 s) TC n (3 ^ n - 1) x)) {a : Nat} (ha : a < n) {pc : Nat → Bool} {cd : Nat → Bool} (hc : ∀ s, s < 3 ^ n - 1 → pc (A 0 s) = cd s) : waS f pc a (2 ^ n) = lN (gatN q TM n a cd) := by
  have hn := H.1
  have h2 : 2 ^ n ≤ 128 := Nat.pow_le_pow_right (n := 2) (by decide) hn
  rw [waS_N (g := fun x => cmS A (fun s => A 0 s) TC n (3 ^ n - 1) (128 * a + x)) (2 ^ n) (fun i hi => by rw [hf _ (by omega), Nat.mul_comm a 128])]
  congr 1
  rw [cm_sum (A := A) (T := TC) (c := fun s => A 0 s) ha (fun s hs => Nat.lt_of_lt_of_le (set_lt hA hn (by omega)).2 h2) (fun s hs => (set_lt hA hn (by omega)).2) h2]
  exact two_g H ha hc
theorem wm_wa (f : Nat → Int64) (a b : Nat) : ∀ k, wmS f a b k = waS f (fun c => c.testBit b) a k + waS f (fun c => c.testBit a) b k := by
  intro k
  induction k with
  | zero => exact (Int64.add_zero _).symm
  | succ k ih =>
    rw [wmS_s, waS_s, waS_s, ih]
    generalize waS f (fun c => c.testBit b) a k = X
    generalize waS f (fun c => c.testBit a) b k = Y
    by_cases c1 : k.testBit b = true
    · rw [if_pos c1, if_pos c1]
      by_cases c2 : k.testBit a = true
      · rw [if_pos c2, if_pos c2]
        rw [Int64.add_assoc X Y, Int64.add_comm Y (f (a * 128 + k)), ← Int64.add_assoc X (f (a * 128 + k)) Y, Int64.add_assoc (X + f (a * 128 + k)) Y]
      · rw [if_neg c2, if_neg c2]
        rw [Int64.add_assoc X Y, Int64.add_comm Y (f (a * 128 + k)), ← Int64.add_assoc X (f (a * 128 + k)) Y]
    · rw [if_neg c1, if_neg c1]
      by_cases c2 : k.testBit a = true
      · rw [if_pos c2, if_pos c2, Int64.add_assoc]
      · rw [if_neg c2, if_neg c2]
/-- b was there: how often a comes then -/
theorem gat_cg {cd cd' : Nat → Bool} {a : Nat} (h : ∀ s, s < 3 ^ n → cd s = cd' s) : gatN q TM n a cd = gatN q TM n a cd' := by
  unfold gatN
  refine sumN_cg _ (fun s hs => ?_)
  rw [h s hs]
theorem bef_eq (H : twoH n A p q TC TM gd) (hA : digA n A) {f : Nat → Int64} (hm : 128 * n ≤ m) (hf : ∀ x, x < m → f x = lN (cmS A (fun s => A 0 s ||| A 1 s) TC n (3 ^ n - 1) x)) {a b : Nat} (ha : a < n) (hb : b < n) : waS f (fun c => !c.testBit b) a (2 ^ n) = lN (gatN q TM n a (fun s => decide (dg s b = 0))) := by
  have hn := H.1
  refine wa_eq H hA hm hf ha (fun s hs => ?_)
  rw [(set_bit hA (by omega)).1]
  have : b < 7 := by omega
  by_cases c : dg s b = 0 <;> simp [c, this]
theorem met_eq (H : twoH n A p q TC TM gd) (hA : digA n A) {f : Nat → Int64} (hm : 128 * n ≤ m) (hf : ∀ x, x < m → f x = lN (cmS A (fun s => A 0 s) TC n (3 ^ n - 1) x)) {a b : Nat} (ha : a < n) (hb : b < n) : wmS f a b (2 ^ n) = lN (gatN q TM n a (fun s => decide (dg s b = 1)) + gatN q TM n b (fun s => decide (dg s a = 1))) := by
  have hn := H.1
  rw [wm_wa, wi_eq H hA hm hf ha (cd := fun s => decide (dg s b = 1)) (fun s hs => ?_), wi_eq H hA hm hf hb (cd := fun s => decide (dg s a = 1)) (fun s hs => ?_), lN_add]
  all_goals
    rw [(set_bit hA (by omega)).2]
    have h1 : a < 7 := by omega
    have h2 : b < 7 := by omega
    simp [h1, h2]
end N14

