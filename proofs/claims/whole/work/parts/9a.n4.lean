/-! the model's tables -/
def orB (s v : Nat) : Nat → Nat
  | 0 => 0
  | g + 1 => orB s v g ||| (if dg s g = v then 2 ^ g else 0)
theorem orB_bit (s v : Nat) : ∀ k i, (orB s v k).testBit i = decide (i < k ∧ dg s i = v) := by
  intro k
  induction k with
  | zero => intro i; rw [decide_eq_false (fun q => Nat.not_lt_zero _ q.1)]; exact Nat.zero_testBit _
  | succ k ih =>
    intro i
    show (orB s v k ||| (if dg s k = v then 2 ^ k else 0)).testBit i = _
    rw [Nat.testBit_or, ih]
    by_cases c : dg s k = v
    · rw [if_pos c, Nat.testBit_two_pow]
      by_cases c2 : k = i
      · subst c2; simp [c]
      · simp only [c2, decide_false, Bool.or_false]
        congr 1
        apply propext
        constructor
        · exact fun q => ⟨by omega, q.2⟩
        · exact fun q => ⟨by have := q.1; omega, q.2⟩
    · rw [if_neg c, Nat.zero_testBit, Bool.or_false]
      congr 1
      apply propext
      constructor
      · exact fun q => ⟨by omega, q.2⟩
      · refine fun q => ⟨?_, q.2⟩
        have h1 : i ≠ k := fun e => c (e ▸ q.2)
        have := q.1
        omega
theorem orB_lt (s v : Nat) : orB s v 7 < 128 := by
  apply Nat.lt_pow_two_of_testBit (n := 7)
  intro i hi
  rw [orB_bit, decide_eq_false (fun q => by have := q.1; omega)]
theorem inG_at (s : Nat) (a b : Nat → Nat) : ∀ g, itr (inG s) (a, b) g = (z_up a s (a s ||| orB s 1 g), z_up b s (b s ||| orB s 2 g)) := by
  intro g
  induction g with
  | zero =>
    rw [itr_0]
    show (a, b) = (z_up a s (a s ||| 0), z_up b s (b s ||| 0))
    rw [Nat.or_zero, Nat.or_zero, zup_self, zup_self]
  | succ g ih =>
    rw [itr_s, ih]
    show (z_up (z_up a s (a s ||| orB s 1 g)) s (z_up a s (a s ||| orB s 1 g) s ||| (if dg s g = 1 then 2 ^ g else 0)), z_up (z_up b s (b s ||| orB s 2 g)) s (z_up b s (b s ||| orB s 2 g) s ||| (if dg s g = 2 then 2 ^ g else 0))) = _
    rw [zup_eq, zup_eq, Nat.or_assoc, Nat.or_assoc]
    have e : ∀ (f : Nat → Nat) x y, z_up (z_up f s x) s y = z_up f s y := by
      intro f x y
      funext j
      unfold z_up
      split
      · rfl
      · rfl
    rw [e, e]
    rfl
theorem inS_at : ∀ k s, (itr inS ((fun _ => 0), (fun _ => 0)) k).1 s = (if s < k then orB s 1 7 else 0) ∧ (itr inS ((fun _ => 0), (fun _ => 0)) k).2 s = (if s < k then orB s 2 7 else 0) := by
  intro k
  induction k with
  | zero => intro s; exact ⟨rfl, rfl⟩
  | succ k ih =>
    intro s
    rw [itr_s]
    generalize itr inS ((fun _ => 0), (fun _ => 0)) k = q at *
    obtain ⟨a, b⟩ := q
    simp only at ih
    show (itr (inG k) (a, b) 7).1 s = _ ∧ (itr (inG k) (a, b) 7).2 s = _
    rw [inG_at]
    show z_up a k (a k ||| orB k 1 7) s = _ ∧ z_up b k (b k ||| orB k 2 7) s = _
    have hk := ih k
    rw [if_neg (Nat.lt_irrefl _), if_neg (Nat.lt_irrefl _)] at hk
    rw [hk.1, hk.2, Nat.zero_or, Nat.zero_or]
    by_cases c : s = k
    · subst c
      rw [zup_eq, zup_eq, if_pos (by omega), if_pos (by omega)]
      exact ⟨rfl, rfl⟩
    · rw [zup_ne _ _ c, zup_ne _ _ c, (ih s).1, (ih s).2]
      by_cases c2 : s < k
      · rw [if_pos c2, if_pos c2, if_pos (by omega), if_pos (by omega)]
        exact ⟨rfl, rfl⟩
      · rw [if_neg c2, if_neg c2, if_neg (by omega), if_neg (by omega)]
        exact ⟨rfl, rfl⟩
theorem iV_at (s : Nat) : iV s = if s < 2187 then orB s 1 7 else 0 := (inS_at 2187 s).1
theorem gV_at (s : Nat) : gV s = if s < 2187 then orB s 2 7 else 0 := (inS_at 2187 s).2
theorem iV_lt (s : Nat) : iV s < 128 := by
  rw [iV_at]
  split
  · exact orB_lt _ _
  · decide
theorem gV_lt (s : Nat) : gV s < 128 := by
  rw [gV_at]
  split
  · exact orB_lt _ _
  · decide
theorem tb_dig {n : Nat} (hn : n ≤ 7) : digOK (iV, gV) (3 ^ n) := by
  intro s hs i hi
  have h3 := p3_7 hn
  simp only
  rw [iV_at, gV_at, if_pos (by omega), if_pos (by omega), orB_bit, orB_bit]
  simp [hi]
theorem tb_K {n : Nat} (hn : n ≤ 7) : mdK n tV iV gV := ⟨hn, fun i hi => tV_at i (by omega), iV_lt, gV_lt⟩
theorem tb_B {n : Nat} (hn : n ≤ 7) : mdB n iV gV := by
  intro nN mN rN s hs e he hl
  have h3 := p3_7 hn
  have hp := p3_pos n
  have hs' : s < 3 ^ n := by omega
  have hq : qOf (ldB iV gV nN mN rN) s (e / 2) = true := by
    unfold qOf
    rcases (show e = 2 * (e / 2) ∨ e = 2 * (e / 2) + 1 by omega) with q | q
    · rw [← q, hl]; rfl
    · rw [← q, hl, Bool.or_true]
  have := dg_add (show e / 2 < n by omega) hs' (q_ok (tb_dig hn) hn s (e / 2) hs' (by omega) hq)
  omega

