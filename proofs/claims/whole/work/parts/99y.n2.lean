/-! tables that are filled from the last state down -/
theorem dtr_ge {α : Type} {f : Nat → (Nat → α) → Nat → α} (hloc : ∀ t x j, j ≠ t → f t x j = x j) : ∀ N x j, N ≤ j → dtr f N x j = x j := by
  intro N
  induction N with
  | zero => intro x j _; rfl
  | succ N ih => intro x j hj; rw [dtr_s, ih _ j (by omega), hloc N x j (by omega)]
theorem dtr_tab {α : Type} {f : Nat → (Nat → α) → Nat → α} (hloc : ∀ t x j, j ≠ t → f t x j = x j) (hdep : ∀ t x y, (∀ j, t < j → x j = y j) → f t x t = f t y t) : ∀ N x t, t < N → dtr f N x t = f t (dtr f N x) t := by
  intro N
  induction N with
  | zero => intro x t h; exact absurd h (Nat.not_lt_zero _)
  | succ N ih =>
    intro x t ht
    rw [dtr_s]
    by_cases c : t = N
    · subst c
      rw [dtr_ge hloc t _ t (Nat.le_refl _)]
      refine hdep t x _ (fun j hj => ?_)
      rw [dtr_ge hloc t _ j (by omega), hloc t x j (by omega)]
    · exact ih _ t (by omega)
def tabF (n : Nat) (p : Nat → Nat → Bool) : Nat → (Nat → Nat) → Nat → Nat := fun s w => z_up w s (if s = 3 ^ n - 1 then 1 else sumN (fun i => if p s i = true then w (s + 3 ^ i) else 0) n)
def tabN (n : Nat) (p : Nat → Nat → Bool) : Nat → Nat := dtr (tabF n p) (3 ^ n) (fun _ => 0)
theorem tab_cnt (n : Nat) (p : Nat → Nat → Bool) : cntT n p (tabN n p) := by
  have hloc : ∀ t x j, j ≠ t → tabF n p t x j = x j := fun t x j h => by unfold tabF; exact zup_ne _ _ h
  have hdep : ∀ t x y, (∀ j, t < j → x j = y j) → tabF n p t x t = tabF n p t y t := by
    intro t x y h
    unfold tabF
    rw [zup_eq, zup_eq]
    split
    · rfl
    · refine sumN_cg n (fun i hi => ?_)
      have := p3_pos i
      rw [h (t + 3 ^ i) (by omega)]
  have key := dtr_tab hloc hdep (3 ^ n) (fun _ => 0)
  have h3 := p3_pos n
  constructor
  · show tabN n p (3 ^ n - 1) = 1
    have := key (3 ^ n - 1) (by omega)
    unfold tabN
    rw [this]
    unfold tabF
    rw [zup_eq, if_pos rfl]
  · intro s hs
    have := key s (by omega)
    show tabN n p s = sumN (fun i => if p s i = true then tabN n p (s + 3 ^ i) else 0) n
    unfold tabN
    rw [this]
    show tabF n p s (dtr (tabF n p) (3 ^ n) fun _ => 0) s = _
    unfold tabF
    rw [zup_eq, if_neg (by omega)]
def sumL (f : Nat → Int64) : Nat → Int64
  | 0 => 0
  | k + 1 => sumL f k + f k
theorem sumL_s (f : Nat → Int64) (k : Nat) : sumL f (k + 1) = sumL f k + f k := rfl
theorem sumL_N {f : Nat → Int64} {g : Nat → Nat} : ∀ n, (∀ i, i < n → f i = lN (g i)) → sumL f n = lN (sumN g n) := by
  intro n
  induction n with
  | zero => intro _; rfl
  | succ n ih => intro h; rw [sumL_s, sumN_s, ih (fun i hi => h i (by omega)), h n (by omega), lN_add]
/-! the model's table -/
theorem lwE_at {ld : Nat → Nat → Bool} {s : Nat} {w : Nat → Int64} : ∀ k, itr (lwE ld s) w k = z_up w s (w s + sumL (fun e => if ld s e = true then w (s + 3 ^ (e / 2)) else 0) k) := by
  intro k
  induction k with
  | zero =>
    rw [itr_0]
    show w = z_up w s (w s + 0)
    rw [Int64.add_zero, zup_self]
  | succ k ih =>
    rw [itr_s, ih, sumL_s]
    have hp := p3_pos (k / 2)
    show z_up (z_up w s _) s (z_up w s _ s + (if ld s k = true then z_up w s _ (s + 3 ^ (k / 2)) else 0)) = _
    rw [zup_eq, zup_ne _ _ (show s + 3 ^ (k / 2) ≠ s by omega)]
    rw [Int64.add_assoc]
    funext j
    unfold z_up
    split
    · rfl
    · rfl

theorem dg_last {n i : Nat} (hi : i < n) : dg (3 ^ n - 1) i = 2 := by
  have h3 := p3_pos n
  by_cases q : dg (3 ^ n - 1) i ≤ 1
  · have := dg_add hi (show 3 ^ n - 1 < 3 ^ n by omega) q
    have := p3_pos i
    omega
  · have := dg_lt (3 ^ n - 1) i; omega
def qOf (ld : Nat → Nat → Bool) (s i : Nat) : Bool := ld s (2 * i) || ld s (2 * i + 1)
theorem ldB_c {iN gN nN mN rN : Nat → Nat} (s i : Nat) : ldB iN gN nN mN rN s (2 * i) = (!(iN s ||| gN s).testBit i && mcB iN gN nN mN rN s i) := by
  unfold ldB
  rw [if_neg (by omega), show 2 * i / 2 = i by omega]
theorem ldB_g {iN gN nN mN rN : Nat → Nat} (s i : Nat) : ldB iN gN nN mN rN s (2 * i + 1) = (iN s).testBit i := by
  unfold ldB
  rw [if_pos (by omega), show (2 * i + 1) / 2 = i by omega]
section N2
variable {n : Nat} {iN gN nN mN rN : Nat → Nat}
theorem ld_c (hD : digOK (iN, gN) (3 ^ n)) (hn : n ≤ 7) {s i : Nat} (hs : s < 3 ^ n) (hi : i < n) : ldB iN gN nN mN rN s (2 * i) = (decide (dg s i = 0) && mcB iN gN nN mN rN s i) := by
  obtain ⟨a, b⟩ := hD s hs i (by omega)
  simp only at a b
  rw [ldB_c, Nat.testBit_or, a, b]
  have := dg_lt s i
  by_cases c0 : dg s i = 0
  · simp [c0]
  · by_cases c1 : dg s i = 1
    · simp [c1]
    · have c2 : dg s i = 2 := by omega
      simp [c2]
theorem ld_g (hD : digOK (iN, gN) (3 ^ n)) (hn : n ≤ 7) {s i : Nat} (hs : s < 3 ^ n) (hi : i < n) : ldB iN gN nN mN rN s (2 * i + 1) = decide (dg s i = 1) := by
  rw [ldB_g]
  exact (hD s hs i (by omega)).1
theorem q_ok (hD : digOK (iN, gN) (3 ^ n)) (hn : n ≤ 7) : pOK n (qOf (ldB iN gN nN mN rN)) := by
  intro s i hs hi h
  unfold qOf at h
  rw [ld_c hD hn hs hi, ld_g hD hn hs hi] at h
  by_cases c0 : dg s i = 0
  · omega
  · by_cases c1 : dg s i = 1
    · omega
    · simp [c0, c1] at h
theorem wy_rec (hi : ∀ s, iN s < 128) {la : Nat} {ld : Nat → Nat → Bool} (wy : Nat → Int64) : ∀ s, s < 3 ^ n → dtr (lwS ld iN n la 7 (-1)) (3 ^ n) wy s = (if s = la then 1 else 0) + sumL (fun e => if ld s e = true then dtr (lwS ld iN n la 7 (-1)) (3 ^ n) wy (s + 3 ^ (e / 2)) else 0) (2 * n) := by
  have hok : ∀ s, pop (iN s) ≤ 7 ∧ ¬ nI (iN s) = -1 := fun s => ⟨pop_le _, (show ∀ x, x < 128 → ¬ nI x = -1 by decide +kernel) _ (hi s)⟩
  have hS : ∀ s w, lwS ld iN n la 7 (-1) s w = z_up w s ((if s = la then 1 else 0) + sumL (fun e => if ld s e = true then w (s + 3 ^ (e / 2)) else 0) (2 * n)) := by
    intro s w
    unfold lwS
    rw [if_pos (hok s), zup_self, lwE_at, zup_eq]
    have e : sumL (fun e => if ld s e = true then z_up w s (if s = la then 1 else 0) (s + 3 ^ (e / 2)) else 0) (2 * n) = sumL (fun e => if ld s e = true then w (s + 3 ^ (e / 2)) else 0) (2 * n) := by
      congr 1
      funext e
      have := p3_pos (e / 2)
      rw [zup_ne _ _ (show s + 3 ^ (e / 2) ≠ s by omega)]
    rw [e]
    funext j
    unfold z_up
    split
    · rfl
    · rfl
  have hloc : ∀ t x j, j ≠ t → lwS ld iN n la 7 (-1) t x j = x j := fun t x j h => by rw [hS]; exact zup_ne _ _ h
  have hdep : ∀ t x y, (∀ j, t < j → x j = y j) → lwS ld iN n la 7 (-1) t x t = lwS ld iN n la 7 (-1) t y t := by
    intro t x y h
    rw [hS, hS, zup_eq, zup_eq]
    congr 2
    funext e
    have := p3_pos (e / 2)
    rw [h (t + 3 ^ (e / 2)) (by omega)]
  intro s hs
  have key := dtr_tab hloc hdep (3 ^ n) wy s hs
  rw [hS, zup_eq] at key
  exact key
theorem wy_tab (hD : digOK (iN, gN) (3 ^ n)) (hn : n ≤ 7) (hi : ∀ s, iN s < 128) (wy : Nat → Int64) : ∀ s, s < 3 ^ n → dtr (lwS (ldB iN gN nN mN rN) iN n (3 ^ n - 1) 7 (-1)) (3 ^ n) wy s = lN (tabN n (qOf (ldB iN gN nN mN rN)) s) := by
  have hrec := wy_rec (n := n) hi (la := 3 ^ n - 1) (ld := ldB iN gN nN mN rN) wy
  have hT := tab_cnt n (qOf (ldB iN gN nN mN rN))
  generalize dtr (lwS (ldB iN gN nN mN rN) iN n (3 ^ n - 1) 7 (-1)) (3 ^ n) wy = R at *
  generalize hTe : tabN n (qOf (ldB iN gN nN mN rN)) = T at *
  have h3 := p3_pos n
  refine dw_ind (fun s hs ih => ?_)
  rw [hrec s hs]
  have e1 : sumL (fun e => if ldB iN gN nN mN rN s e = true then R (s + 3 ^ (e / 2)) else 0) (2 * n) = lN (sumN (fun e => if ldB iN gN nN mN rN s e = true then T (s + 3 ^ (e / 2)) else 0) (2 * n)) := by
    refine sumL_N (2 * n) (fun e he => ?_)
    by_cases c : ldB iN gN nN mN rN s e = true
    · rw [if_pos c, if_pos c]
      have hp := p3_pos (e / 2)
      refine ih _ (by omega) ?_
      have hq : qOf (ldB iN gN nN mN rN) s (e / 2) = true := by
        unfold qOf
        rcases (show e = 2 * (e / 2) ∨ e = 2 * (e / 2) + 1 by omega) with q | q
        · rw [← q, c]; rfl
        · rw [← q, c, Bool.or_true]
      exact dg_add (by omega) hs (q_ok hD hn s (e / 2) hs (by omega) hq)
    · rw [if_neg c, if_neg c]; rfl
  rw [e1, sumN_2]
  have e2 : sumN (fun i => (if ldB iN gN nN mN rN s (2 * i) = true then T (s + 3 ^ (2 * i / 2)) else 0) + (if ldB iN gN nN mN rN s (2 * i + 1) = true then T (s + 3 ^ ((2 * i + 1) / 2)) else 0)) n = sumN (fun i => if qOf (ldB iN gN nN mN rN) s i = true then T (s + 3 ^ i) else 0) n := by
    refine sumN_cg n (fun i hi => ?_)
    rw [show 2 * i / 2 = i by omega, show (2 * i + 1) / 2 = i by omega]
    unfold qOf
    rw [ld_c hD hn hs hi, ld_g hD hn hs hi]
    by_cases c0 : dg s i = 0
    · simp [c0]
    · simp [c0]
  rw [e2]
  by_cases c : s = 3 ^ n - 1
  · rw [if_pos c, c, hT.1]
    have : sumN (fun i => if qOf (ldB iN gN nN mN rN) (3 ^ n - 1) i = true then T (3 ^ n - 1 + 3 ^ i) else 0) n = 0 := by
      refine sumN_0 n (fun i hi => ?_)
      have hd := dg_last hi
      rw [if_neg]
      intro q
      have := q_ok hD hn (3 ^ n - 1) i (by omega) hi q
      omega
    rw [this]
    rfl
  · rw [if_neg c, hT.2 s (by omega)]
    exact Int64.zero_add _
end N2

