/-! acts of a story, on both sides -/
section N36
variable {n len T : Nat} {c : Nat → Nat} {now : Nat → Int32}
theorem upd_o (f : Nat → Int32) {i j : Nat} (x : Int32) (h : j ≠ i) : upd f i x j = f j := if_neg h
theorem ra_low {k p : Nat} {A : arT} : ∀ j, j < k → (raR c T k p A).2.2.1 j = A.1 j ∧ (raR c T k p A).2.2.2.1 j = A.2.1 j ∧ (raR c T k p A).2.2.2.2.1 j = A.2.2.1 j ∧ (raR c T k p A).2.2.2.2.2 j = A.2.2.2 j := by
  intro j hj
  have u : ∀ (f : Nat → Int32) (x : Int32), upd f k x j = f j := fun f x => if_neg (by omega)
  unfold raR
  repeat' split
  all_goals simp only [u, and_self]
theorem sry_low : ∀ f k p A, ∀ j, j < k → (sryR c T f k p A).2.2.2.1 j = A.1 j ∧ (sryR c T f k p A).2.2.2.2.1 j = A.2.1 j ∧ (sryR c T f k p A).2.2.2.2.2.1 j = A.2.2.1 j ∧ (sryR c T f k p A).2.2.2.2.2.2 j = A.2.2.2 j := by
  intro f
  induction f with
  | zero => intro k p A j hj; exact ⟨rfl, rfl, rfl, rfl⟩
  | succ f ih =>
    intro k p A j hj
    have e : sryR c T (f + 1) k p A = if p < T then (if (raR c T k p A).1 = true then sryR c T f (k + 1) (raR c T k p A).2.1 (raR c T k p A).2.2 else (false, (raR c T k p A).2.1, k + 1, (raR c T k p A).2.2)) else (true, p, k, A) := rfl
    rw [e]
    have r := ra_low (c := c) (T := T) (p := p) (A := A) j hj
    split
    · split
      · obtain ⟨i1, i2, i3, i4⟩ := ih (k + 1) (raR c T k p A).2.1 (raR c T k p A).2.2 j (by omega)
        rw [i1, i2, i3, i4]
        exact r
      · exact r
    · exact ⟨rfl, rfl, rfl, rfl⟩
theorem clN_s {x : Nat} (h : x < 1000) : clN (nI x) = x := nI_clamp (by omega)
/-- an act: alike -/
theorem act_eq {t : cTold} (hr : relT t now) (hc : ∀ i, c i < 256) (hT : T ≤ len) {k p : Nat} {A : arT} (ho : raO c T p) : (actO (len, c) t p).1 = (doN now t.1 (actV (raR c T k p A).2.2 k).1 (actV (raR c T k p A).2.2 k).2.1 (actV (raR c T k p A).2.2 k).2.2.1 (actV (raR c T k p A).2.2 k).2.2.2).1 ∧ relT (actO (len, c) t p).2 (doN now t.1 (actV (raR c T k p A).2.2 k).1 (actV (raR c T k p A).2.2 k).2.1 (actV (raR c T k p A).2.2 k).2.2.1 (actV (raR c T k p A).2.2 k).2.2.2).2 ∧ (actO (len, c) t p).2.1 = t.1 := by
  obtain ⟨hp, h⟩ := ho
  have hpl : p < len := by omega
  have e1 : (atV len c p = 109) = (c p = 109) := at_v (x := 109) hc hpl (by decide)
  have e2 : (atV len c p = 99) = (c p = 99) := at_v (x := 99) hc hpl (by decide)
  have e3 : (atV len c p = 114) = (c p = 114) := at_v (x := 114) hc hpl (by decide)
  have e4 : (atV len c p = 104) = (c p = 104) := at_v (x := 104) hc hpl (by decide)
  have e5 : (atV len c p = 115) = (c p = 115) := at_v (x := 115) hc hpl (by decide)
  have dv : ∀ q, q < len → 48 ≤ c q → c q ≤ 57 → dgV len c q = nI (c q - 48) := fun q h1 h2 h3 => if_pos ⟨h1, h2, h3⟩
  have u : ∀ (f : Nat → Int32) (x : Int32), upd f k x k = x := fun f x => upd_s f k x
  have eO : actO (len, c) t p = if c p = 109 then tellO t (dgV len c (p + 1)) (dgV len c (p + 2)) (tbV len c (p + 3)) else if c p = 104 then hideO t (dgV len c (p + 1)) else if c p = 99 then copyO t (dgV len c (p + 1)) (dgV len c (p + 2)) else if c p = 114 then moveO t (dgV len c (p + 1)) (dgV len c (p + 2)) else if c p = 115 then firmO t (dgV len c (p + 1)) else (-1, t) := by
    unfold actO
    simp only [e1, e2, e3, e4, e5]
  rw [eO]
  unfold raR actV
  simp only [toH_v, if_pos hp, di_d hc (m := 10) (Nat.le_refl _), dgN_v]
  rcases h with ⟨c1, d0, d1, d2⟩ | ⟨c1, d0, d1, d2⟩ | ⟨c1, f0, d1, d2, f1, f2⟩ | ⟨c1, g0, d1, d2, f1, f2, g1⟩
  · have h1 : p + 1 < T ∧ 48 ≤ c (p + 1) ∧ c (p + 1) ≤ 57 ∧ c (p + 1) - 48 < 10 := ⟨d0, d1, d2, by omega⟩
    have n1 : ¬ c p = 109 := by omega
    rw [dv (p + 1) (by omega) d1 d2]
    simp only [if_pos c1, if_neg n1, if_pos (show 0 < 5 by decide), if_neg (show ¬ (0 : Nat) = 1 by decide), di_d hc (m := 10) (Nat.le_refl _), if_pos h1, if_pos (show 0 < 2 by decide), u, clN_s (show 0 < 1000 by decide), clN_s (show c (p + 1) - 48 < 1000 by omega), if_neg (show ¬ 2 ≤ 0 by decide), if_neg (show ¬ 4 ≤ 0 by decide)]
    have q := hide_eq hr (g := c (p + 1) - 48) (by omega)
    refine ⟨q.1, q.2, ?_⟩
    unfold hideO
    split
    · split <;> rfl
    · rfl
  · have h1 : p + 1 < T ∧ 48 ≤ c (p + 1) ∧ c (p + 1) ≤ 57 ∧ c (p + 1) - 48 < 2 := ⟨d0, d1, by omega, by omega⟩
    have n1 : ¬ c p = 109 := by omega
    have n2 : ¬ c p = 104 := by omega
    have n3 : ¬ c p = 99 := by omega
    have n4 : ¬ c p = 114 := by omega
    rw [dv (p + 1) (by omega) d1 (by omega)]
    simp only [if_pos c1, if_neg n1, if_neg n2, if_neg n3, if_neg n4, if_pos (show 1 < 5 by decide), if_true, di_d hc (m := 2) (by decide), if_pos h1, if_pos (show 1 < 2 by decide), u, clN_s (show 1 < 1000 by decide), clN_s (show c (p + 1) - 48 < 1000 by omega), if_neg (show ¬ 2 ≤ 1 by decide), if_neg (show ¬ 4 ≤ 1 by decide)]
    have q := firm_eq hr (v := c (p + 1) - 48) (by omega)
    refine ⟨q.1, q.2, ?_⟩
    unfold firmO
    split
    · rfl
    · split <;> rfl
  · have h1 : p + 1 < T ∧ 48 ≤ c (p + 1) ∧ c (p + 1) ≤ 57 ∧ c (p + 1) - 48 < 10 := ⟨by omega, d1, d2, by omega⟩
    have h2 : p + 2 < T ∧ 48 ≤ c (p + 2) ∧ c (p + 2) ≤ 57 := ⟨f0, f1, f2⟩
    have n1 : ¬ c p = 109 := by omega
    have n2 : ¬ c p = 104 := by omega
    have n3 : ¬ c p = 115 := by omega
    rw [dv (p + 1) (by omega) d1 d2, dv (p + 2) (by omega) f1 f2]
    rcases c1 with c1 | c1
    · simp only [if_pos c1, if_neg n1, if_neg n2, if_neg n3, if_pos (show 2 < 5 by decide), if_neg (show ¬ (2 : Nat) = 1 by decide), di_d hc (m := 10) (Nat.le_refl _), if_pos h1, if_neg (show ¬ 2 < 2 by decide), if_pos h2, if_pos (show 2 < 4 by decide), u, clN_s (show 2 < 1000 by decide), clN_s (show c (p + 1) - 48 < 1000 by omega), clN_s (show c (p + 2) - 48 < 1000 by omega), if_pos (show 2 ≤ 2 by decide), if_neg (show ¬ 4 ≤ 2 by decide)]
      have q := copy_eq hr (i := c (p + 1) - 48) (j := c (p + 2) - 48) (by omega) (by omega)
      refine ⟨q.1, q.2, ?_⟩
      unfold copyO
      split <;> rfl
    · have n4 : ¬ c p = 99 := by omega
      simp only [if_pos c1, if_neg n1, if_neg n2, if_neg n3, if_neg n4, if_pos (show 3 < 5 by decide), if_neg (show ¬ (3 : Nat) = 1 by decide), di_d hc (m := 10) (Nat.le_refl _), if_pos h1, if_neg (show ¬ 3 < 2 by decide), if_pos h2, if_pos (show 3 < 4 by decide), u, clN_s (show 3 < 1000 by decide), clN_s (show c (p + 1) - 48 < 1000 by omega), clN_s (show c (p + 2) - 48 < 1000 by omega), if_pos (show 2 ≤ 3 by decide), if_neg (show ¬ 4 ≤ 3 by decide)]
      have q := move_eq hr (g := c (p + 1) - 48) (w := c (p + 2) - 48) (by omega) (by omega)
      refine ⟨q.1, q.2, ?_⟩
      unfold moveO
      split
      · split <;> rfl
      · rfl
  · have h1 : p + 1 < T ∧ 48 ≤ c (p + 1) ∧ c (p + 1) ≤ 57 ∧ c (p + 1) - 48 < 10 := ⟨by omega, d1, d2, by omega⟩
    have h2 : p + 2 < T ∧ 48 ≤ c (p + 2) ∧ c (p + 2) ≤ 57 := ⟨by omega, f1, f2⟩
    have n2 : ¬ c p = 104 := by omega
    have n3 : ¬ c p = 115 := by omega
    have n4 : ¬ c p = 99 := by omega
    have n5 : ¬ c p = 114 := by omega
    have tb : tbV len c (p + 3) = nI (toI wdS 3 c (p + 3) T) := by rw [tb_v (T := T) (by omega) g0, if_pos g1]
    rw [dv (p + 1) (by omega) d1 d2, dv (p + 2) (by omega) f1 f2, tb]
    simp only [if_pos c1, if_neg n2, if_neg n3, if_neg n4, if_neg n5, if_pos (show 4 < 5 by decide), if_neg (show ¬ (4 : Nat) = 1 by decide), di_d hc (m := 10) (Nat.le_refl _), if_pos h1, if_neg (show ¬ 4 < 2 by decide), if_pos h2, if_neg (show ¬ 4 < 4 by decide), if_pos g1, u, clN_s (show 4 < 1000 by decide), clN_s (show c (p + 1) - 48 < 1000 by omega), clN_s (show c (p + 2) - 48 < 1000 by omega), clN_s (show toI wdS 3 c (p + 3) T < 1000 by omega), if_pos (show 2 ≤ 4 by decide), if_pos (show 4 ≤ 4 by decide)]
    have q := tell_eq hr (i := c (p + 1) - 48) (j := c (p + 2) - 48) (v := toI wdS 3 c (p + 3) T) (by omega) (by omega) (by omega)
    refine ⟨q.1, q.2, ?_⟩
    unfold tellO
    split
    · split <;> rfl
    · rfl
/-- the acts done: alike -/
theorem sto_rel (hc : ∀ i, c i < 256) (hl : len ≤ 80) : ∀ f k p A K A' P, p ≤ len → sryR c len f k p A = (true, P, K, A') → k ≤ K ∧ ∀ j dn t now, K - k ≤ j → relT t now → (stO (len, c) j dn p t).1 = dn + nI ((sdR A' t.1 (K - k) k now).1 - k) ∧ (stO (len, c) j dn p t).2.1 = decide ((sdR A' t.1 (K - k) k now).1 < K) ∧ relT (stO (len, c) j dn p t).2.2 (sdR A' t.1 (K - k) k now).2 ∧ k ≤ (sdR A' t.1 (K - k) k now).1 ∧ (stO (len, c) j dn p t).2.2.1 = t.1 := by
  intro f
  induction f with
  | zero =>
    intro k p A K A' P hp h
    exact absurd (congrArg Prod.fst h) (by show ¬ false = true; decide)
  | succ f ih =>
    intro k p A K A' P hp h
    have e : sryR c len (f + 1) k p A = if p < len then (if (raR c len k p A).1 = true then sryR c len f (k + 1) (raR c len k p A).2.1 (raR c len k p A).2.2 else (false, (raR c len k p A).2.1, k + 1, (raR c len k p A).2.2)) else (true, p, k, A) := rfl
    rw [e] at h
    by_cases c0 : p < len
    · rw [if_pos c0] at h
      rcases st_step (len := len) hc hl (Nat.le_refl len) (k := k) (A := A) c0 with ⟨a1, a2, a3, a4, a5, -⟩ | ⟨b1, -⟩
      · rw [if_pos a1, a3] at h
        obtain ⟨i0, i1⟩ := ih (k + 1) (p + LN (c p)) _ K A' P a4 h
        refine ⟨by omega, fun j dn t now hj hr => ?_⟩
        obtain ⟨j', ej⟩ : ∃ j', j = j' + 1 := ⟨j - 1, by omega⟩
        subst ej
        have hA : actV A' k = actV (raR c len k p A).2.2 k := by
          obtain ⟨w1, w2, w3, w4⟩ := sry_low (c := c) (T := len) f (k + 1) (p + LN (c p)) (raR c len k p A).2.2 k (by omega)
          rw [h] at w1 w2 w3 w4
          unfold actV
          simp only at w1 w2 w3 w4
          rw [w1, w2, w3, w4]
        obtain ⟨q1, q2, q3⟩ := act_eq (len := len) (A := A) (k := k) hr hc (Nat.le_refl len) a2
        rw [← hA] at q1 q2
        have eS : stO (len, c) (j' + 1) dn p t = if p < len then (if (actO (len, c) t p).1 < 0 then (dn, true, (actO (len, c) t p).2) else stO (len, c) j' (dn + 1) (p + (alV (atV len c p)).toNatClampNeg) (actO (len, c) t p).2) else (dn, false, t) := rfl
        have eD : sdR A' t.1 (K - k) k now = if (doN now t.1 (actV A' k).1 (actV A' k).2.1 (actV A' k).2.2.1 (actV A' k).2.2.2).1 < 0 then (k, (doN now t.1 (actV A' k).1 (actV A' k).2.1 (actV A' k).2.2.1 (actV A' k).2.2.2).2) else sdR A' t.1 (K - (k + 1)) (k + 1) (doN now t.1 (actV A' k).1 (actV A' k).2.1 (actV A' k).2.2.1 (actV A' k).2.2.2).2 := by
          rw [show K - k = (K - (k + 1)) + 1 by omega]
          rfl
        rw [eS, eD, if_pos c0, al_v hc c0, nI_clamp (by have := LN_le (c p); omega), q1]
        generalize doN now t.1 (actV A' k).1 (actV A' k).2.1 (actV A' k).2.2.1 (actV A' k).2.2.2 = D at *
        generalize actO (len, c) t p = O at *
        by_cases cn : D.1 < 0
        · simp only [if_pos cn]
          refine ⟨?_, (decide_eq_true (by omega)).symm, q2, Nat.le_refl k, q3⟩
          rw [Nat.sub_self]
          exact (Int32.add_zero dn).symm
        · simp only [if_neg cn]
          obtain ⟨v1, v2, v3, v4, v5⟩ := i1 j' (dn + 1) O.2 D.2 (by omega) q2
          rw [q3] at v1 v2 v3 v4 v5
          refine ⟨?_, v2, v3, by omega, v5⟩
          rw [v1, Int32.add_assoc, show (1 : Int32) = nI 1 from rfl, nI_add]
          congr 2
          omega
      · rw [if_neg (by rw [b1]; decide)] at h
        exact absurd (congrArg Prod.fst h) (by show ¬ false = true; decide)
    · rw [if_neg c0] at h
      simp only [Prod.mk.injEq, true_and] at h
      obtain ⟨h1, h2, h3⟩ := h
      subst h1 h2 h3
      refine ⟨Nat.le_refl k, fun j dn t now hj hr => ?_⟩
      have eS : stO (len, c) j dn p t = (dn, false, t) := by
        cases j with
        | zero => rfl
        | succ j => exact if_neg c0
      rw [eS, Nat.sub_self]
      show dn = dn + nI (k - k) ∧ false = decide (k < k) ∧ relT t now ∧ k ≤ k ∧ t.1 = t.1
      rw [Nat.sub_self, decide_eq_false (Nat.lt_irrefl k)]
      exact ⟨(Int32.add_zero dn).symm, rfl, hr, Nat.le_refl k, rfl⟩
/-- a story: alike -/
theorem sto_eq {t : cTold} (hr : relT t now) (hc : ∀ i, c i < 256) (hl : len ≤ 60) {A : arT} {r : Bool × Nat × Nat × arT} (hs : sryS c len A = r) (h1 : r.1 = true) {C : Nat} {N : Nat → Int32} (hC : sdR r.2.2.2 t.1 r.2.2.1 0 now = (C, N)) : (stO (len, c) 60 0 0 t).1 = nI C ∧ (stO (len, c) 60 0 0 t).2.1 = decide (C < r.2.2.1) ∧ relT (stO (len, c) 60 0 0 t).2.2 N ∧ (stO (len, c) 60 0 0 t).2.2.1 = t.1 ∧ C ≤ 60 := by
  have e : sryR c len (len + 1) 0 0 A = (true, r.2.1, r.2.2.1, r.2.2.2) := by
    rw [← h1, ← hs]
    unfold sryS
    rw [show min len 60 = len by omega]
  have hb := (sryS_b (sg := c) (len := len) (A := A)).2
  rw [hs] at hb
  have hb := (hb h1).1
  obtain ⟨-, h⟩ := sto_rel hc (by omega) (len + 1) 0 0 A _ _ _ (Nat.zero_le _) e
  obtain ⟨v1, v2, v3, v4, v5⟩ := h 60 0 t now (by omega) hr
  simp only [Nat.sub_zero] at v1 v2 v3 v4
  simp only [hC] at v1 v2 v3 v4
  have hle := sdR_le (n := t.1) r.2.2.2 r.2.2.1 0 now
  rw [hC] at hle
  refine ⟨?_, v2, v3, v5, by show C ≤ 60; have : C ≤ 0 + r.2.2.1 := hle; omega⟩
  rw [v1]
  exact Int32.zero_add _
end N36

