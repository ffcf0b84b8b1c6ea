/-! the digits of a state to the base 3 say who is in and who has gone -/
def dg (s i : Nat) : Nat := s / 3 ^ i % 3
theorem p3_pos (i : Nat) : 0 < 3 ^ i := Nat.pow_pos (by decide)
theorem dg_low {g i t : Nat} (hi : i < g) : dg (3 ^ g + t) i = dg t i := by
  have e : 3 ^ g = (3 * 3 ^ (g - i - 1)) * 3 ^ i := by
    rw [Nat.mul_comm 3, ← Nat.pow_succ, ← Nat.pow_add]
    congr 1
    omega
  unfold dg
  rw [e, Nat.add_comm, Nat.add_mul_div_right _ _ (p3_pos i), Nat.add_mul_mod_self_left]
theorem dg_top {g t : Nat} : dg (3 ^ g + t) g = (t / 3 ^ g + 1) % 3 := by
  unfold dg
  rw [Nat.add_comm, Nat.add_div_right _ (p3_pos g)]
theorem dg_hi {s i g : Nat} (h : s < 3 ^ g) (hi : g ≤ i) : dg s i = 0 := by
  unfold dg
  rw [Nat.div_eq_of_lt (Nat.lt_of_lt_of_le h (Nat.pow_le_pow_right (by decide) hi))]
theorem dg_ne {g i t : Nat} (ht : t < 2 * 3 ^ g) (hi : i ≠ g) : dg (3 ^ g + t) i = dg t i := by
  have e : 3 ^ (g + 1) = 3 * 3 ^ g := by rw [Nat.pow_succ, Nat.mul_comm]
  by_cases c : i < g
  · exact dg_low c
  · rw [dg_hi (g := g + 1) (by omega) (by omega), dg_hi (g := g + 1) (by omega) (by omega)]
/-- in and gone of the states below N, by their digits -/
def digOK (q : (Nat → Nat) × (Nat → Nat)) (N : Nat) : Prop := ∀ s, s < N → ∀ i, i < 7 → (q.1 s).testBit i = decide (dg s i = 1) ∧ (q.2 s).testBit i = decide (dg s i = 2)
theorem sbit_t {x g : Nat} : x ||| 2 ^ g = sbit x g true := by simp [sbit]
theorem sbit_f {x g : Nat} : x &&& (127 - 2 ^ g) = sbit x g false := by simp [sbit]
theorem dig_I {g : Nat} (hg : g < 7) {q : (Nat → Nat) × (Nat → Nat)} (h1 : ∀ s, q.1 s < 128) (h2 : ∀ s, q.2 s < 128) (hq : digOK q (3 ^ g)) : ∀ t, t ≤ 2 * 3 ^ g → digOK (mkI g q t) (3 ^ g + t) := by
  have hp := p3_pos g
  intro t
  induction t with
  | zero => intro _; exact hq
  | succ t ih =>
    intro ht s hs i hi
    have ih := ih (by omega)
    have lt := mkI_lt hg h1 h2 t
    rw [show mkI g q (t + 1) = (z_up (mkI g q t).1 (3 ^ g + t) (if t < 3 ^ g then (mkI g q t).1 t ||| 2 ^ g else (mkI g q t).1 t &&& (127 - 2 ^ g)), z_up (mkI g q t).2 (3 ^ g + t) (if t < 3 ^ g then (mkI g q t).2 t else (mkI g q t).2 t ||| 2 ^ g)) from rfl]
    simp only
    by_cases c : s = 3 ^ g + t
    · subst c
      rw [z_up_s, z_up_s]
      have it := ih t (by omega) i hi
      by_cases r : t < 3 ^ g
      · rw [if_pos r, if_pos r, sbit_t, sbit_tb _ (lt.1 t) _ hg _ hi]
        by_cases e : i = g
        · subst e
          have d1 : dg (3 ^ i + t) i = 1 := by rw [dg_top, Nat.div_eq_of_lt r]
          have d2 : dg t i = 0 := dg_hi r (Nat.le_refl _)
          rw [if_pos rfl, it.2, d1, d2]
          exact ⟨by decide, by decide⟩
        · rw [if_neg e, dg_ne (by omega) e]
          exact it
      · rw [if_neg r, if_neg r, sbit_f, sbit_t, sbit_tb _ (lt.1 t) _ hg _ hi, sbit_tb _ (lt.2 t) _ hg _ hi]
        by_cases e : i = g
        · subst e
          have d0 : t / 3 ^ i = 1 := Nat.div_eq_of_lt_le (by omega) (by omega)
          have d1 : dg (3 ^ i + t) i = 2 := by rw [dg_top, d0]
          rw [if_pos rfl, if_pos rfl, d1]
          exact ⟨by decide, by decide⟩
        · rw [if_neg e, if_neg e, dg_ne (by omega) e]
          exact it
    · rw [z_up_n _ _ c, z_up_n _ _ c]
      exact ih s (by omega) i hi
theorem dig_O : ∀ g, g ≤ 7 → digOK (mkO (fun _ => 0, fun _ => 0) g) (3 ^ g) := by
  intro g
  induction g with
  | zero =>
    intro _ s hs i hi
    have e : s = 0 := by simpa using hs
    subst e
    have d0 : dg 0 i = 0 := by unfold dg; rw [Nat.zero_div]
    rw [d0]
    exact ⟨Nat.zero_testBit i, Nat.zero_testBit i⟩
  | succ g ih =>
    intro hg
    have lt := mkO_lt (q := (fun _ => 0, fun _ => 0)) (fun _ => (by decide : 0 < 128)) (fun _ => (by decide : 0 < 128)) g (by omega)
    have := dig_I (by omega) lt.1 lt.2 (ih (by omega)) (2 * 3 ^ g) (Nat.le_refl _)
    rw [show 3 ^ g + 2 * 3 ^ g = 3 ^ (g + 1) by rw [Nat.pow_succ]; omega] at this
    exact this

