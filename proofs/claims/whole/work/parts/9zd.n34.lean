/-! how many pairs changed, on both sides -/
theorem pc8_b : ∀ b, b < 256 → pc8 b = sumN (fun i => (b.testBit i).toNat) 8 := by decide +kernel
theorem sumN_app (f : Nat → Nat) (a : Nat) : ∀ b, sumN f (a + b) = sumN f a + sumN (fun i => f (a + i)) b := by
  intro b
  induction b with
  | zero => rfl
  | succ b ih =>
    show sumN f (a + b) + f (a + b) = sumN f a + (sumN (fun i => f (a + i)) b + f (a + b))
    rw [ih, Nat.add_assoc]
theorem pc8_at (x : Nat) (k : Nat) : pc8 (x / 2 ^ k % 256) = sumN (fun i => (x.testBit (k + i)).toNat) 8 := by
  rw [pc8_b _ (Nat.mod_lt _ (by decide))]
  refine sumN_cg 8 (fun i hi => ?_)
  rw [show (256 : Nat) = 2 ^ 8 from rfl, Nat.testBit_mod_two_pow, Nat.testBit_div_two_pow, decide_eq_true hi, Bool.true_and, Nat.add_comm]
theorem pcN_b (x : Nat) : pcN x = sumN (fun i => (x.testBit i).toNat) 64 := by
  have e : ∀ f : Nat → Nat, sumN f 64 = sumN (fun i => f (0 + i)) 8 + sumN (fun i => f (8 + i)) 8 + sumN (fun i => f (16 + i)) 8 + sumN (fun i => f (24 + i)) 8 + sumN (fun i => f (32 + i)) 8 + sumN (fun i => f (40 + i)) 8 + sumN (fun i => f (48 + i)) 8 + sumN (fun i => f (56 + i)) 8 := by
    intro f
    rw [show (64 : Nat) = 56 + 8 from rfl, sumN_app, show (56 : Nat) = 48 + 8 from rfl, sumN_app f 48, show (48 : Nat) = 40 + 8 from rfl, sumN_app f 40, show (40 : Nat) = 32 + 8 from rfl, sumN_app f 32, show (32 : Nat) = 24 + 8 from rfl, sumN_app f 24, show (24 : Nat) = 16 + 8 from rfl, sumN_app f 16, show (16 : Nat) = 8 + 8 from rfl, sumN_app f 8]
    simp only [Nat.zero_add]
  rw [e]
  unfold pcN
  simp only [Nat.div_div_eq_div_mul, Nat.reduceMul]
  have h0 := pc8_at x 0
  have h1 := pc8_at x 8
  have h2 := pc8_at x 16
  have h3 := pc8_at x 24
  have h4 := pc8_at x 32
  have h5 := pc8_at x 40
  have h6 := pc8_at x 48
  have h7 := pc8_at x 56
  rw [show (2 : Nat) ^ 0 = 1 from rfl, Nat.div_one] at h0
  rw [show (2 : Nat) ^ 8 = 256 from rfl] at h1
  rw [show (2 : Nat) ^ 16 = 65536 from rfl] at h2
  rw [show (2 : Nat) ^ 24 = 16777216 from rfl] at h3
  rw [show (2 : Nat) ^ 32 = 4294967296 from rfl] at h4
  rw [show (2 : Nat) ^ 40 = 1099511627776 from rfl] at h5
  rw [show (2 : Nat) ^ 48 = 281474976710656 from rfl] at h6
  rw [show (2 : Nat) ^ 56 = 72057594037927936 from rfl] at h7
  rw [h0, h1, h2, h3, h4, h5, h6, h7]
theorem sumN_rows (f : Nat → Nat) : ∀ m, sumN f (7 * m) = sumN (fun a => sumN (fun b => f (7 * a + b)) 7) m := by
  intro m
  induction m with
  | zero => rfl
  | succ m ih => rw [Nat.mul_succ, sumN_app, ih]; rfl
theorem pk7_bit {f : Nat → Nat} (hf : ∀ i, f i < 128) {a b : Nat} (ha : a < 7) (hb : b < 7) : (pk7 f 7).testBit (7 * a + b) = (f a).testBit b := by
  rw [← pk7_at hf 7 a ha, show (128 : Nat) = 2 ^ 7 from rfl, Nat.testBit_mod_two_pow, Nat.testBit_div_two_pow, decide_eq_true hb, Bool.true_and, Nat.add_comm]
/-- a square of signs alike on both sides of its middle -/
theorem sq_two {D : Nat → Nat → Nat} : ∀ n, (∀ a b, a < n → b < n → D a b = D b a) → (∀ a, a < n → D a a = 0) → sumN (fun a => sumN (fun b => D a b) n) n = 2 * sumN (fun a => sumN (fun b => D a b) a) n := by
  intro n
  induction n with
  | zero => intro _ _; rfl
  | succ n ih =>
    intro h1 h2
    have e1 : sumN (fun a => sumN (fun b => D a b) (n + 1)) (n + 1) = sumN (fun a => sumN (fun b => D a b) n + D a n) n + (sumN (fun b => D n b) n + D n n) := rfl
    rw [e1, sumN_add, ih (fun a b ha hb => h1 a b (by omega) (by omega)) (fun a ha => h2 a (by omega)), h2 n (by omega), sumN_cg (f := fun a => D a n) (g := fun b => D n b) n (fun i hi => h1 i n (by omega) (by omega))]
    show _ = 2 * (sumN (fun a => sumN (fun b => D a b) a) n + sumN (fun b => D n b) n)
    omega
section N34
variable {n : Nat} {rm mt nt rm0 mt0 nt0 : Nat → Nat} {fm fm0 : Bool} {now now0 U : Nat → Int32}
theorem dif_bit (p q p0 q0 : Bool) (h : ¬ (p = true ∧ q = true)) (h0 : ¬ (p0 = true ∧ q0 = true)) : ((p0 ^^ p) || (q0 ^^ q)).toNat = if (if p then 1 else if q then 0 else 2) = (if p0 then 1 else if q0 then 0 else (2 : Nat)) then 0 else 1 := by
  revert h h0
  cases p <;> cases q <;> cases p0 <;> cases q0 <;> decide
theorem cmA_sum {now U : Nat → Int32} {k : Nat} : ∀ n c, itr (cmA now U k) c n = c + sumN (fun a => sumN (fun b => if now (7 * a + b) = U (57 * k + (7 * a + b)) then 0 else 1) a) n := by
  intro n
  induction n with
  | zero => intro c; rfl
  | succ n ih =>
    intro c
    rw [itr_s, ih, sumN_s, ← Nat.add_assoc]
    show itr (cmF now U k n) _ n = _
    generalize c + sumN (fun a => sumN (fun b => if now (7 * a + b) = U (57 * k + (7 * a + b)) then 0 else 1) a) n = x
    have : ∀ m, itr (cmF now U k n) x m = x + sumN (fun b => if now (7 * n + b) = U (57 * k + (7 * n + b)) then 0 else 1) m := by
      intro m
      induction m with
      | zero => rfl
      | succ m ihm =>
        rw [itr_s, ihm, sumN_s]
        unfold cmF
        split <;> omega
    exact this n
/-- pairs changed: alike -/
theorem chg_eq (hm : ∀ i, mt i < 128) (hN : ∀ i, nt i < 128) (hm0 : ∀ i, mt0 i < 128) (hN0 : ∀ i, nt0 i < 128) (hg : gdT n mt nt) (hg0 : gdT n mt0 nt0) (hR : nowR n rm mt nt fm now) (hR0 : nowR n rm0 mt0 nt0 fm0 now0) (o1 : ∀ i, n ≤ i → mt i = mt0 i) (o2 : ∀ i, n ≤ i → nt i = nt0 i) {k : Nat} (hU : ∀ j, j < 57 → U (57 * k + j) = now0 j) : chgV (pk7 mt0 7) (pk7 nt0 7) mt nt = itr (cmA now U k) 0 n := by
  have hn := hg.1
  unfold chgV
  rw [pcN_b, cmA_sum, Nat.zero_add]
  have hx : ((pk7 mt0 7 ^^^ pk7 mt 7) ||| (pk7 nt0 7 ^^^ pk7 nt 7)) < 2 ^ 49 := Nat.or_lt_two_pow (Nat.xor_lt_two_pow (pk7_lt hm0 7) (pk7_lt hm 7)) (Nat.xor_lt_two_pow (pk7_lt hN0 7) (pk7_lt hN 7))
  rw [show (64 : Nat) = 7 * 7 + 15 from rfl, sumN_app, sumN_0 (f := fun i => (((pk7 mt0 7 ^^^ pk7 mt 7) ||| (pk7 nt0 7 ^^^ pk7 nt 7)).testBit (7 * 7 + i)).toNat) 15 (fun i hi => by rw [Nat.testBit_lt_two_pow (Nat.lt_of_lt_of_le hx (Nat.pow_le_pow_right (n := 2) (by decide) (by omega)))]; rfl), Nat.add_zero, sumN_rows]
  have e1 : sumN (fun a => sumN (fun b => (((pk7 mt0 7 ^^^ pk7 mt 7) ||| (pk7 nt0 7 ^^^ pk7 nt 7)).testBit (7 * a + b)).toNat) 7) 7 = sumN (fun a => sumN (fun b => if abt mt nt a b = abt mt0 nt0 a b then 0 else 1) n) n := by
    rw [show sumN (fun a => sumN (fun b => (((pk7 mt0 7 ^^^ pk7 mt 7) ||| (pk7 nt0 7 ^^^ pk7 nt 7)).testBit (7 * a + b)).toNat) 7) 7 = sumN (fun a => sumN (fun b => (((pk7 mt0 7 ^^^ pk7 mt 7) ||| (pk7 nt0 7 ^^^ pk7 nt 7)).testBit (7 * a + b)).toNat) 7) (n + (7 - n)) by rw [Nat.add_sub_cancel' hn]]
    rw [sumN_app]
    rw [sumN_0 (f := fun i => sumN (fun b => (((pk7 mt0 7 ^^^ pk7 mt 7) ||| (pk7 nt0 7 ^^^ pk7 nt 7)).testBit (7 * (n + i) + b)).toNat) 7) (7 - n) (fun i hi => sumN_0 7 (fun b hb => by
      rw [Nat.testBit_or, Nat.testBit_xor, Nat.testBit_xor, pk7_bit hm0 (by omega) hb, pk7_bit hm (by omega) hb, pk7_bit hN0 (by omega) hb, pk7_bit hN (by omega) hb, o1 (n + i) (by omega), o2 (n + i) (by omega), Bool.xor_self, Bool.xor_self]
      rfl)), Nat.add_zero]
    refine sumN_cg n (fun a ha => ?_)
    rw [show sumN (fun b => (((pk7 mt0 7 ^^^ pk7 mt 7) ||| (pk7 nt0 7 ^^^ pk7 nt 7)).testBit (7 * a + b)).toNat) 7 = sumN (fun b => (((pk7 mt0 7 ^^^ pk7 mt 7) ||| (pk7 nt0 7 ^^^ pk7 nt 7)).testBit (7 * a + b)).toNat) (n + (7 - n)) by rw [Nat.add_sub_cancel' hn]]
    rw [sumN_app]
    rw [sumN_0 (f := fun i => (((pk7 mt0 7 ^^^ pk7 mt 7) ||| (pk7 nt0 7 ^^^ pk7 nt 7)).testBit (7 * a + (n + i))).toNat) (7 - n) (fun i hi => by
      rw [Nat.testBit_or, Nat.testBit_xor, Nat.testBit_xor, pk7_bit hm0 (by omega) (by omega), pk7_bit hm (by omega) (by omega), pk7_bit hN0 (by omega) (by omega), pk7_bit hN (by omega) (by omega), bit_n (hg.2.1 a ha).1 (by omega), bit_n (hg.2.1 a ha).2 (by omega), bit_n (hg0.2.1 a ha).1 (by omega), bit_n (hg0.2.1 a ha).2 (by omega)]
      rfl), Nat.add_zero]
    refine sumN_cg n (fun b hb => ?_)
    rw [Nat.testBit_or, Nat.testBit_xor, Nat.testBit_xor, pk7_bit hm0 (by omega) (by omega), pk7_bit hm (by omega) (by omega), pk7_bit hN0 (by omega) (by omega), pk7_bit hN (by omega) (by omega)]
    unfold abt
    exact dif_bit _ _ _ _ (hg.2.2.2.2 a b ha) (hg0.2.2.2.2 a b ha)
  rw [e1, sq_two n (fun a b ha hb => ?_) (fun a ha => ?_), Nat.mul_div_cancel_left _ (by decide)]
  · refine sumN_cg n (fun a ha => sumN_cg a (fun b hb => ?_))
    rw [hU _ (by omega), hR.1 a b ha (by omega) (by omega), hR0.1 a b ha (by omega) (by omega)]
    have l1 := abt_le mt nt a b
    have l2 := abt_le mt0 nt0 a b
    simp only [nI_eqI (show abt mt nt a b < 2 ^ 31 by omega) (show abt mt0 nt0 a b < 2 ^ 31 by omega)]
  · unfold abt
    rw [(hg.2.2.1 a b ha hb).1, (hg.2.2.1 a b ha hb).2, (hg0.2.2.1 a b ha hb).1, (hg0.2.2.1 a b ha hb).2]
  · unfold abt
    rw [(hg.2.2.2.1 a ha).1, (hg.2.2.2.1 a ha).2, (hg0.2.2.2.1 a ha).1, (hg0.2.2.2.1 a ha).2]
    rfl
theorem tell_out {t : cTold} (hn : t.1 ≤ 7) {a b v : Int32} : ∀ i, t.1 ≤ i → (tellO t a b v).2.2.2.1 i = t.2.2.1 i ∧ (tellO t a b v).2.2.2.2.1 i = t.2.2.2.1 i := by
  intro i hi
  unfold tellO
  by_cases c : hasB t.1 a = true ∧ hasB t.1 b = true ∧ ¬ a = b ∧ ¬ v < 0 ∧ ¬ 2 < v
  · rw [if_pos c]
    split
    · exact ⟨rfl, rfl⟩
    · obtain ⟨x, hx, e1⟩ := hasB_of hn c.1
      obtain ⟨y, hy, e2⟩ := hasB_of hn c.2.1
      subst e1 e2
      rw [nI_clamp (by omega), nI_clamp (by omega)]
      show putM t.2.2.1 x y _ i = _ ∧ putM t.2.2.2.1 x y _ i = _
      unfold putM
      rw [zup_ne _ _ (show i ≠ y by omega), zup_ne _ _ (show i ≠ x by omega), zup_ne _ _ (show i ≠ y by omega), zup_ne _ _ (show i ≠ x by omega)]
      exact ⟨rfl, rfl⟩
  · rw [if_neg c]
    exact ⟨rfl, rfl⟩
theorem me_out {t : cTold} (hn : t.1 ≤ 7) {x : cText} : ∀ M, (itr (mtF x) t M).1 = t.1 ∧ ∀ i, t.1 ≤ i → (itr (mtF x) t M).2.2.1 i = t.2.2.1 i ∧ (itr (mtF x) t M).2.2.2.1 i = t.2.2.2.1 i := by
  intro M
  induction M with
  | zero => exact ⟨rfl, fun i hi => ⟨rfl, rfl⟩⟩
  | succ M ih =>
    rw [itr_s]
    obtain ⟨h1, h2⟩ := ih
    generalize itr (mtF x) t M = t' at *
    have e : (mtF x M t').1 = t'.1 := by
      unfold mtF tellO
      split
      · split <;> rfl
      · rfl
    refine ⟨by rw [e, h1], fun i hi => ?_⟩
    have := tell_out (t := t') (by rw [h1]; exact hn) (a := dgV x.1 x.2 (4 * M)) (b := dgV x.1 x.2 (4 * M + 1)) (v := tbV x.1 x.2 (4 * M + 2)) i (by rw [h1]; exact hi)
    show (tellO t' _ _ _).2.2.2.1 i = _ ∧ (tellO t' _ _ _).2.2.2.2.1 i = _
    rw [this.1, this.2]
    exact h2 i hi
end N34

