/-! the least worth from each state on: both sides -/
theorem mnO_2 {us : Nat → Bool} {v : Nat → Int32} {cn : Nat → Bool} {w : Nat → Int32} {d : Nat → Nat} : ∀ k, (∀ i, i < k → us i = true → d i ≤ 1 ∧ w (2 * i + d i) = v i) → (∀ i, i < k → cn (2 * i) = (us i && decide (d i = 0)) ∧ cn (2 * i + 1) = (us i && decide (d i = 1))) → mnO cn w (2 * k) = mnO us v k := by
  intro k
  induction k with
  | zero => intro _ _; rfl
  | succ k ih =>
    intro h1 h2
    have ih := ih (fun i hi => h1 i (by omega)) (fun i hi => h2 i (by omega))
    rw [show 2 * (k + 1) = 2 * k + 1 + 1 by omega, mnO_s, mnO_s, mnO_s, ih]
    obtain ⟨a, b⟩ := h2 k (by omega)
    rw [a, b]
    by_cases c : us k = true
    · obtain ⟨d1, d2⟩ := h1 k (by omega) c
      rw [c]
      rcases (show d k = 0 ∨ d k = 1 by omega) with e | e
      · rw [e] at d2 ⊢
        rw [Nat.add_zero] at d2
        simp [d2]
      · rw [e] at d2 ⊢
        simp [d2]
    · have c : us k = false := by cases e : us k <;> simp_all
      rw [c]
      simp
section N17
variable {n : Nat} {pr wt : Nat → Nat → Int32} {co y : Nat → Int32} {ev : Nat → Nat} {cn : Nat → Nat → Bool} {G : Nat → Prop}
/-- a table of least worths, the class's way -/
def lcT (n : Nat) (pr : Nat → Nat → Int32) (ev : Nat → Nat) (co : Nat → Int32) : Prop := co (3 ^ n - 1) = 0 ∧ ∀ s, s < 3 ^ n - 1 → co s = (mnO (fun i => (ev s).testBit i) (fun i => pr s i + co (s + 3 ^ i)) n).getD 0
/-- the model's way -/
def lmT (n : Nat) (wt : Nat → Nat → Int32) (cn : Nat → Nat → Bool) (y : Nat → Int32) : Prop := ∀ s, s < 3 ^ n → y s = (match mnO (fun e => cn s e) (fun e => wt s e + y (s + 3 ^ (e / 2))) (2 * n) with | none => (if s = 3 ^ n - 1 then 0 else 1000000) | some m => if m < (if s = 3 ^ n - 1 then 0 else 1000000) then m else (if s = 3 ^ n - 1 then 0 else 1000000))
theorem lc_mk (co0 : Nat → Int32) : lcT n pr ev (dtr (flG pr ev n) (3 ^ n - 1) (upd co0 (3 ^ n - 1) 0)) := by
  have hS : ∀ s c, flG pr ev n s c = z_up c s ((mnO (fun i => (ev s).testBit i) (fun i => pr s i + c (s + 3 ^ i)) n).getD 0) := by
    intro s c
    unfold flG
    rw [flI_mn, upd_z]
  have hloc : ∀ t x j, j ≠ t → flG pr ev n t x j = x j := fun t x j h => by rw [hS]; exact zup_ne _ _ h
  have hdep : ∀ t x y, (∀ j, t < j → x j = y j) → flG pr ev n t x t = flG pr ev n t y t := by
    intro t x y h
    rw [hS, hS, zup_eq, zup_eq]
    have e : (fun i => pr t i + x (t + 3 ^ i)) = (fun i => pr t i + y (t + 3 ^ i)) := by
      funext i
      have := p3_pos i
      rw [h (t + 3 ^ i) (by omega)]
    rw [e]
  constructor
  · rw [dtr_ge hloc _ _ _ (Nat.le_refl _)]
    exact if_pos rfl
  · intro s hs
    have key := dtr_tab hloc hdep (3 ^ n - 1) (upd co0 (3 ^ n - 1) 0) s hs
    rw [hS, zup_eq] at key
    exact key
theorem lm_mk (y0 : Nat → Int32) : lmT n wt cn (yV cn wt n y0) := by
  have hS : ∀ s c, yS cn wt n (3 ^ n - 1) s c = z_up c s (match mnO (fun e => cn s e) (fun e => wt s e + c (s + 3 ^ (e / 2))) (2 * n) with | none => (if s = 3 ^ n - 1 then 0 else 1000000) | some m => if m < (if s = 3 ^ n - 1 then 0 else 1000000) then m else (if s = 3 ^ n - 1 then 0 else 1000000)) := by
    intro s c
    unfold yS
    rw [yE_mn, zup_eq]
    have e : (fun e => wt s e + z_up c s (if s = 3 ^ n - 1 then 0 else 1000000) (s + 3 ^ (e / 2))) = (fun e => wt s e + c (s + 3 ^ (e / 2))) := by
      funext e
      have := p3_pos (e / 2)
      rw [zup_ne _ _ (show s + 3 ^ (e / 2) ≠ s by omega)]
    rw [e]
    funext j
    by_cases cj : j = s
    · rw [cj, zup_eq, zup_eq]
      generalize mnO (fun e => cn s e) (fun e => wt s e + c (s + 3 ^ (e / 2))) (2 * n) = o
      cases o <;> rfl
    · rw [zup_ne _ _ cj, zup_ne _ _ cj, zup_ne _ _ cj]
  have hloc : ∀ t x j, j ≠ t → yS cn wt n (3 ^ n - 1) t x j = x j := fun t x j h => by rw [hS]; exact zup_ne _ _ h
  have hdep : ∀ t x y, (∀ j, t < j → x j = y j) → yS cn wt n (3 ^ n - 1) t x t = yS cn wt n (3 ^ n - 1) t y t := by
    intro t x y h
    rw [hS, hS, zup_eq, zup_eq]
    have e : (fun e => wt t e + x (t + 3 ^ (e / 2))) = (fun e => wt t e + y (t + 3 ^ (e / 2))) := by
      funext e
      have := p3_pos (e / 2)
      rw [h (t + 3 ^ (e / 2)) (by omega)]
    rw [e]
  intro s hs
  have key := dtr_tab hloc hdep (3 ^ n) y0 s hs
  rw [hS, zup_eq] at key
  exact key
/-- what both know of the states on the way -/
def usG (n : Nat) (pr wt : Nat → Nat → Int32) (ev : Nat → Nat) (cn : Nat → Nat → Bool) (G : Nat → Prop) : Prop :=
  (∀ s, s < 3 ^ n - 1 → G s → ∃ i, i < n ∧ (ev s).testBit i = true) ∧
  (∀ s i, s < 3 ^ n - 1 → G s → i < n → (ev s).testBit i = true → dg s i ≤ 1 ∧ s + 3 ^ i < 3 ^ n ∧ G (s + 3 ^ i) ∧ wt s (2 * i + dg s i) = pr s i ∧ -99 ≤ (pr s i).toInt ∧ (pr s i).toInt ≤ 99) ∧
  (∀ s i, s < 3 ^ n - 1 → G s → i < n → cn s (2 * i) = ((ev s).testBit i && decide (dg s i = 0)) ∧ cn s (2 * i + 1) = ((ev s).testBit i && decide (dg s i = 1))) ∧
  (∀ e, e < 2 * n → cn (3 ^ n - 1) e = false)
theorem least_eq (hn : n ≤ 7) (U : usG n pr wt ev cn G) (hc : lcT n pr ev co) (hm : lmT n wt cn y) : ∀ s, s < 3 ^ n → G s → co s = y s ∧ -(99 * (evL n s : Int)) ≤ (co s).toInt ∧ (co s).toInt ≤ 99 * (evL n s : Int) := by
  obtain ⟨u1, u2, u3, u4⟩ := U
  have h3 := p3_pos n
  refine dw_ind (fun s hs ih hG => ?_)
  by_cases c : s = 3 ^ n - 1
  · rw [hm s hs]
    have : mnO (fun e => cn s e) (fun e => wt s e + y (s + 3 ^ (e / 2))) (2 * n) = none := by
      cases e : mnO (fun e => cn s e) (fun e => wt s e + y (s + 3 ^ (e / 2))) (2 * n) with
      | none => rfl
      | some m =>
        obtain ⟨⟨i, i1, i2, -⟩, -⟩ := (mnO_is (us := fun e => cn s e) (2 * n)).1 m e
        rw [c, u4 i i1] at i2
        exact absurd i2 (by decide)
    rw [this, c, if_pos rfl, hc.1, ev_last]
    exact ⟨rfl, by decide, by decide⟩
  · have hs' : s < 3 ^ n - 1 := by omega
    have e1 : mnO (fun e => cn s e) (fun e => wt s e + y (s + 3 ^ (e / 2))) (2 * n) = mnO (fun i => (ev s).testBit i) (fun i => pr s i + co (s + 3 ^ i)) n := by
      refine mnO_2 (d := fun i => dg s i) n (fun i hi hu => ?_) (fun i hi => u3 s i hs' hG hi)
      obtain ⟨a1, a2, a3, a4, a5, a6⟩ := u2 s i hs' hG hi hu
      have hp := p3_pos i
      refine ⟨a1, ?_⟩
      show wt s (2 * i + dg s i) + y (s + 3 ^ ((2 * i + dg s i) / 2)) = pr s i + co (s + 3 ^ i)
      rw [a4, show (2 * i + dg s i) / 2 = i by omega, (ih _ (by omega) a2 a3).1]
    rw [hm s hs, hc.2 s hs', e1, if_neg c]
    cases e : mnO (fun i => (ev s).testBit i) (fun i => pr s i + co (s + 3 ^ i)) n with
    | none =>
      obtain ⟨i, i1, i2⟩ := u1 s hs' hG
      have := (mnO_is (us := fun i => (ev s).testBit i) n).2 e i i1
      rw [this] at i2
      exact absurd i2 (by decide)
    | some m =>
      obtain ⟨⟨i, i1, i2, i3⟩, -⟩ := (mnO_is (us := fun i => (ev s).testBit i) n).1 m e
      obtain ⟨a1, a2, a3, a4, a5, a6⟩ := u2 s i hs' hG i1 i2
      have hp := p3_pos i
      obtain ⟨b1, b2, b3⟩ := ih _ (by omega) a2 a3
      have hev := ev_step i1 a1
      have hle := ev_le n s
      have hm2 : m.toInt = (pr s i).toInt + (co (s + 3 ^ i)).toInt := by
        rw [← i3, Int32.toInt_add, Int.bmod_eq_of_le (by omega) (by omega)]
      have hlt : m < 1000000 := by
        rw [Int32.lt_iff_toInt_lt, show (1000000 : Int32).toInt = 1000000 from by decide, hm2]
        omega
      simp only [Option.getD_some]
      rw [if_pos hlt]
      exact ⟨rfl, by omega, by omega⟩
end N17

