/-! a new object, a new model, a row of one long: all holds -/
theorem c2_0 : (fun _ _ => 0 : Nat → Nat → Nat) = c2 (fun _ => 0) (fun _ => 0) := by
  funext i
  unfold c2
  split <;> rfl
theorem nw_9 : nm9 nwO nwC := ⟨⟨by decide, by decide, Or.inl rfl, Or.inl rfl, Or.inr (by decide)⟩, Or.inl rfl, Or.inl rfl⟩
theorem nw_T : relT nwT (fun _ => 0) := by
  refine ⟨⟨by decide, fun _ => Nat.zero_le _, fun _ => of_decide_eq_true rfl, fun _ => of_decide_eq_true rfl⟩, ⟨by decide, fun i hi => absurd hi (Nat.not_lt_zero _), fun i j hi => absurd hi (Nat.not_lt_zero _), fun i hi => absurd hi (Nat.not_lt_zero _), fun i j hi => absurd hi (Nat.not_lt_zero _)⟩, ⟨fun i j hi => absurd hi (Nat.not_lt_zero _), fun g hg => absurd hg (Nat.not_lt_zero _), rfl⟩⟩
theorem nw_W : odW nwO := by
  refine ⟨⟨0, by decide, rfl, by decide, by decide⟩, ⟨fun _ => 0, fun _ => 0, c2_0, fun _ => of_decide_eq_true rfl, fun _ => of_decide_eq_true rfl⟩, fun _ => of_decide_eq_true rfl, fun _ => of_decide_eq_true rfl, fun s hs i hi => ?_⟩
  have e : s = 0 := by
    have : s < 1 := hs
    omega
  subst e
  show ((0 : Nat).testBit i = _) ∧ ((0 : Nat).testBit i = _)
  rw [Nat.zero_testBit]
  have d0 : dg 0 i = 0 := by
    revert hi
    revert i
    decide
  rw [d0]
  exact ⟨by decide, by decide⟩
theorem nw_U : oldU nwR := ⟨by decide, by decide, by decide, fun _ => of_decide_eq_true rfl⟩
theorem nw_R : ruR nwR (fun _ => 0) 0 := by
  refine ⟨by decide, fun tf => tf 3, ?_, Or.inl ⟨rfl, fun _ => rfl⟩⟩
  exact segC_thing (a := 0) (x := 3) (by decide) (by decide)
theorem nw_all {kc ks : Nat} {h : Nat → zE} (h1 : kc ≤ 91) (h2 : ks ≤ 100000) : jAll 0 (91, kc, ks) h (0, (fun _ => 0)) nwT nwT ((fun _ => 0), (fun _ => 0), (fun _ => 0), 0, 0) (0, (fun _ => 0)) ((fun _ => 0), (fun _ => 0), (fun _ => false)) nwO nwC ((fun _ => 0), (fun _ => 0)) ((fun _ => 0), 0) nwR nwR false 0 0 (fun _ => 0) 0 0 (fun _ => 0) (fun _ => 0) 0 0 0 0 (fun _ => 0) 0 (fun _ => 0) (fun _ => 0) 0 0 (fun _ => 0) (fun _ => 0) 0 (fun _ => 0) (fun _ => 0) (fun _ => 0) (fun _ => 0) (fun _ => 0) 0 (fun i => nI (tV i)) (fun i => nI (iV i)) (fun i => nI (gV i)) (fun _ => 0) (fun _ => 0) (fun _ => 0) (fun _ => 0) (fun _ => 0) (fun _ => 0) (fun _ => 0) (fun _ => 0) (fun _ => 0) (fun _ => 0) (fun _ => 0) (fun _ => 0) (fun _ => 0) (fun _ => 0) (fun _ => 0) 0 (fun _ => 0) (fun _ => 0) (fun _ => 0) (fun _ => 0) := by
  have z7 : ∃ c : Nat → Nat, (fun _ => (0 : Int32) : Nat → Int32) = (fun i => nI (c i)) ∧ ∀ i, c i < 7 := ⟨fun _ => 0, rfl, fun _ => of_decide_eq_true rfl⟩
  have z0 : ∃ c : Nat → Nat, (fun _ => (0 : Int32) : Nat → Int32) = fun i => nI (c i) := ⟨fun _ => 0, rfl⟩
  refine ⟨⟨⟨by decide, fun _ => of_decide_eq_true rfl⟩, rfl, rfl⟩, ⟨nw_T, rfl⟩, ⟨⟨by decide, by decide⟩, rfl, fun j hj => absurd hj (Nat.not_lt_zero _), ⟨0, by decide, rfl, fun i hi => ⟨fun q => ?_, fun _ => Or.inl rfl⟩⟩, 0, Nat.le_refl _, rfl⟩, ⟨by decide, rfl, fun i hi => absurd hi (Nat.not_lt_zero _)⟩, ⟨nw_T.1, ⟨fun _ => of_decide_eq_true rfl, fun _ => of_decide_eq_true rfl⟩, fun _ => ⟨0, by decide, rfl⟩, fun _ => 0, rfl, fun _ => of_decide_eq_true rfl⟩, ⟨0, rfl, Nat.le_refl _, Or.inl rfl⟩, ⟨nw_W, fun q => absurd q (by decide)⟩, ⟨by decide, fun _ => of_decide_eq_true rfl, fun _ => of_decide_eq_true rfl, fun _ => of_decide_eq_true rfl⟩, ⟨nw_U, nw_U, 0, rfl, nw_R⟩, ⟨rfl, rfl, rfl, z0, z0, z0, z7, z7, z7, z7, fun _ => 0, rfl, fun _ => of_decide_eq_true rfl⟩, ⟨nw_9, of_decide_eq_true rfl, of_decide_eq_true rfl, of_decide_eq_true rfl, of_decide_eq_true rfl, h1, h2⟩⟩
  exact absurd q (by rw [Nat.zero_testBit]; decide)
theorem nw_jIV {h : Nat → zE} {e1 e2 : zE} {kc ks : Nat} (h1 : kc ≤ 91) (h2 : ks ≤ 100000) : jIV 0 (z_up (nwN (z_up (nwW h) 54 e1)) 90 e2) (91, kc, ks) := by
  have e : z_up (nwN (z_up (nwW h) 54 e1)) 90 e2 = z_up (nwN (nwW h)) 90 e2 := by
    congr 1
    funext j
    unfold nwN
    by_cases r : 54 ≤ j ∧ j ≤ 89
    · exact M_hi r
    · rw [M_lo r, M_lo r, z_up_n _ _ (by omega)]
  rw [e]
  unfold nwN nwW
  rw [← wm_comm nw_9, W_90 nw_9]
  exact ⟨_, _, _, _, _, _, _, _, _, _, _, _, _, _, _, _, _, _, _, _, _, _, _, _, _, _, _, _, _, _, _, _, _, _, _, _, _, _, _, _, _, _, _, _, _, _, _, _, _, _, _, _, _, _, _, _, _, _, _, _, _, _, _, rfl, nw_all h1 h2⟩

