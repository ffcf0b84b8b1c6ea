/-! it can have been: sets on the class's side, orders on the model's -/
theorem sub_iff {x c : Nat} (hx : x < 128) (hc : c < 128) : x &&& (127 - c) = 0 ↔ ∀ y, x.testBit y = true → c.testBit y = true := by
  rw [and0]
  constructor
  · intro h y hy
    have h7 : y < 7 := by
      by_cases q : y < 7
      · exact q
      · rw [bit_out hx (by omega)] at hy; exact absurd hy (by decide)
    cases e : c.testBit y
    · exact absurd ⟨hy, by rw [cpl_bit hc, e]; simp [h7]⟩ (h y)
    · rfl
  · intro h y ⟨h1, h2⟩
    rw [cpl_bit hc, h y h1] at h2
    simp at h2
def dS (nd : Nat → Nat) (s c i : Nat) : Nat := if s.testBit i = true then (if c.testBit i = true then (if nd i &&& (127 - c) = 0 then 2 else 1) else 0) else 2
theorem dS_lt (nd : Nat → Nat) (s c i : Nat) : dS nd s c i < 3 := by
  unfold dS
  repeat' split
  all_goals decide
theorem fits_eq {n : Nat} (hn : n ≤ 7) {nd br nN mN rN : Nat → Nat} {s : Nat} {rc : Nat → Bool} (hs : s < 2 ^ n) (hm : ∀ i, i < n → mN i = nd i) (hb : ∀ i, i < n → nN i ||| rN i = br i) (hsub : ∀ i, i < n → sbs (nd i) s) (hsy : ∀ i j, i < n → j < n → s.testBit i = true → s.testBit j = true → (nd i).testBit j = (nd j).testBit i) {x0 : Nat} (hx0 : x0 < 3 ^ n) (hd0 : ∀ i, i < n → dg x0 i = if s.testBit i = true then 0 else 2) : (¬ tabN n (qOf (ldB iV gV nN mN rN)) x0 = 0) ↔ acm nd br s rc s s = true := by
  have h2n : 2 ^ n ≤ 128 := Nat.pow_le_pow_right (n := 2) (by decide) hn
  have hs128 : s < 128 := by omega
  have hD := tb_dig hn
  have hq := q_ok (nN := nN) (mN := mN) (rN := rN) hD hn
  have hT := tab_cnt n (qOf (ldB iV gV nN mN rN))
  generalize tabN n (qOf (ldB iV gV nN mN rN)) = T at *
  have h30 := p3_pos n
  have sn : ∀ i, s.testBit i = true → i < n := by
    intro i h
    by_cases c : i < n
    · exact c
    · rw [bit_n hs (by omega)] at h; exact absurd h (by decide)
  have hnd : ∀ i, i < n → nd i < 128 := by
    intro i hi
    apply Nat.lt_pow_two_of_testBit (n := 7)
    intro j hj
    cases e : (nd i).testBit j
    · rfl
    · have := sn j (hsub i hi j e); omega
  have hin : ∀ x, x < 3 ^ n → ∀ i, i < n → (iV x).testBit i = decide (dg x i = 1) ∧ (gV x).testBit i = decide (dg x i = 2) := fun x hx i hi => hD x hx i (by omega)
  have qc : ∀ x i, x < 3 ^ n → i < n → (qOf (ldB iV gV nN mN rN) x i = true ↔ dg x i = 1 ∨ (dg x i = 0 ∧ iV x &&& br i = 0 ∧ gV x &&& nd i = 0)) := by
    intro x i hx hi
    unfold qOf
    rw [ld_c hD hn hx hi, ld_g hD hn hx hi, Bool.or_eq_true, Bool.and_eq_true]
    unfold mcB
    rw [Bool.and_eq_true, decide_eq_true_iff, decide_eq_true_iff, decide_eq_true_iff, decide_eq_true_iff, hb i hi, hm i hi]
    constructor
    · rintro (h | h)
      · exact Or.inr h
      · exact Or.inl h
    · rintro (h | h)
      · exact Or.inr h
      · exact Or.inl h
  have inv : ∀ x i, x < 3 ^ n → i < n → qOf (ldB iV gV nN mN rN) x i = true → (∀ j, j < n → s.testBit j = false → dg x j = 2) → (∀ j, j < n → s.testBit j = false → dg (x + 3 ^ i) j = 2) := by
    intro x i hx hi h hv j hj hs0
    obtain ⟨a1, a2⟩ := dg_step (hq x i hx hi h)
    have hij : j ≠ i := fun e => by
      have := hv j hj hs0
      have h2 := hq x i hx hi h
      rw [e] at this
      omega
    rw [a2 j hij]; exact hv j hj hs0
  constructor
  · intro h0
    have dead := cnt_bad (b := fun x => (∀ j, j < n → s.testBit j = false → dg x j = 2) ∧ ∃ a y, a < n ∧ y < n ∧ s.testBit a = true ∧ s.testBit y = true ∧ dg x a = 2 ∧ (nd a).testBit y = true ∧ dg x y = 0) hq hT (fun x i hx hi hbx h => by
      obtain ⟨hv, a, y, ha, hy, sa, sy, d1, d2, d3⟩ := hbx
      refine ⟨inv x i hx hi h hv, a, y, ha, hy, sa, sy, ?_, d2, ?_⟩
      · obtain ⟨a1, a2⟩ := dg_step (hq x i hx hi h)
        have : a ≠ i := fun e => by have := hq x i hx hi h; rw [← e] at this; omega
        rw [a2 a this]; exact d1
      · obtain ⟨a1, a2⟩ := dg_step (hq x i hx hi h)
        by_cases e : y = i
        · exfalso
          rw [e] at d2 d3 sy
          rcases (qc x i hx hi).mp h with z | ⟨-, -, z⟩
          · omega
          · rw [and0] at z
            refine z a ⟨?_, ?_⟩
            · rw [(hin x hx a ha).2, d1]; rfl
            · rw [hsy i a hi ha sy sa]; exact d2
        · rw [a2 y e]; exact d3) (fun z => by
      obtain ⟨-, a, y, ha, hy, sa, sy, d1, d2, d3⟩ := z
      have := dg_last hy
      omega)
    have main : ∀ x, x < 3 ^ n → (∀ j, j < n → s.testBit j = false → dg x j = 2) → ¬ T x = 0 → ∀ c, c < 128 → (∀ i, c.testBit i = true ↔ s.testBit i = true ∧ ¬ dg x i = 0) → acm nd br s rc s c = true → acm nd br s rc s s = true := by
      refine dw_ind (fun x hx ih hv hl c hc128 hcb hc => ?_)
      by_cases e : x = 3 ^ n - 1
      · have : c = s := by
          refine sbs_eq (fun t h => ((hcb t).mp h).1) (fun t h => (hcb t).mpr ⟨h, ?_⟩)
          rw [e, dg_last (sn t h)]; decide
        rw [← this]; rw [this] at hc ⊢; exact hc
      · rw [hT.2 x (by omega)] at hl
        obtain ⟨i, hi, hne⟩ := sumN_ex n hl
        have hqi : qOf (ldB iV gV nN mN rN) x i = true ∧ ¬ T (x + 3 ^ i) = 0 := by
          by_cases z : qOf (ldB iV gV nN mN rN) x i = true
          · rw [if_pos z] at hne; exact ⟨z, hne⟩
          · rw [if_neg z] at hne; exact absurd rfl hne
        have hd := hq x i hx hi hqi.1
        have hl2 := dg_add hi hx hd
        have hp := p3_pos i
        obtain ⟨a1, a2⟩ := dg_step hd
        have hv2 := inv x i hx hi hqi.1 hv
        have hsi : s.testBit i = true := by
          cases z : s.testBit i
          · have := hv i hi z; omega
          · rfl
        rcases (qc x i hx hi).mp hqi.1 with z | ⟨z0, z1, z2⟩
        · refine ih _ (by omega) hl2 hv2 hqi.2 c hc128 (fun t => ?_) hc
          rw [hcb t]
          by_cases et : t = i
          · rw [et, a1, z]; simp
          · rw [a2 t et]
        · have hci : c.testBit i = false := by
            cases w : c.testBit i
            · rfl
            · exact absurd z0 ((hcb i).mp w).2
          have hcs : c < s := by
            have h1 : sbs c s := fun t h => ((hcb t).mp h).1
            have h2 : c ≠ s := fun e => by rw [e, hsi] at hci; exact absurd hci (by decide)
            have h3 : c ≤ s := by
              have := sbs_and h1
              rw [← this]; exact Nat.and_le_right
            omega
          refine ih _ (by omega) hl2 hv2 hqi.2 (c ||| 2 ^ i) (q_or_lt hc128 (q_pow_lt (by omega))) (fun t => ?_) ?_
          · rw [or_bit, hcb t, Nat.testBit_two_pow, decide_eq_true_iff]
            by_cases et : t = i
            · rw [et, a1, z0]; simp [hsi]
            · rw [a2 t et]
              constructor
              · rintro (w | w)
                · exact w
                · exact absurd w.symm et
              · exact fun w => Or.inl w
          · refine acm_cl hs128 hcs hc (by omega) hsi hci ?_
            rw [and0]
            intro y ⟨y1, y2⟩
            rw [stl_bit] at y2
            obtain ⟨w1, w2, w3⟩ := of_decide_eq_true y2
            obtain ⟨v1, v2⟩ := (hcb y).mp w2
            have hyn := sn y v1
            have hdy : dg x y = 1 := by
              apply Classical.byContradiction
              intro nd1
              have d2 : dg x y = 2 := by have := dg_lt x y; omega
              apply w3
              rw [sub_iff (hnd y hyn) hc128]
              intro t ht
              apply Classical.byContradiction
              intro nt
              have st := hsub y hyn t ht
              have d0 : dg x t = 0 := by
                apply Classical.byContradiction
                intro z
                exact nt ((hcb t).mpr ⟨st, z⟩)
              have := dead x hx ⟨hv, y, t, hyn, sn t st, v1, st, d2, ht, d0⟩
              have hmn := cnt_mono hq hT hx hi hqi.1
              omega
            rw [and0] at z1
            exact z1 y ⟨by rw [(hin x hx y hyn).1, hdy]; rfl, y1⟩
    refine main x0 hx0 (fun j hj h => by rw [hd0 j hj, if_neg (by rw [h]; decide)]) h0 0 (by decide) (fun i => ?_) ?_
    · rw [Nat.zero_testBit]
      constructor
      · intro h; exact absurd h (by decide)
      · intro ⟨h1, h2⟩
        rw [hd0 i (sn i h1), if_pos h1] at h2
        exact absurd rfl h2
    · have : acm nd br s rc 0 0 = true := rfl
      have := acm_up this s
      rw [Nat.zero_add] at this
      exact this
  · intro hA
    have main : ∀ k, k ≤ s → ∀ c, c < 128 → acm nd br s rc k c = true → sbs c s ∧ ∀ x, x < 3 ^ n → (∀ i, i < n → dg x i = dS nd s c i) → ¬ T x = 0 → ¬ T x0 = 0 := by
      intro k
      induction k with
      | zero =>
        intro _ c hc h
        have h : (if c < 128 then decide (c = 0) else rc c) = true := h
        rw [if_pos hc] at h
        have e := of_decide_eq_true h
        subst e
        refine ⟨fun t h => by rw [Nat.zero_testBit] at h; exact absurd h (by decide), fun x hx hd hl => ?_⟩
        have : x = x0 := dig_ext n x x0 hx hx0 (fun i hi => by
          rw [hd i hi, hd0 i hi]
          unfold dS
          rw [Nat.zero_testBit]
          by_cases z : s.testBit i = true
          · rw [if_pos z, if_pos z, if_neg (by decide)]
          · rw [if_neg z, if_neg z])
        rw [← this]; exact hl
      | succ k ih =>
        intro hk c hc h
        have ih := ih (by omega)
        rcases (acm_s k c).mp h with h | ⟨hkk, g, g1, g2, g3, g4⟩
        · exact ih c hc h
        · have hk128 : k < 128 := by omega
          obtain ⟨i1, i2⟩ := ih k hk128 hkk
          rw [and_bit, cpl_bit hk128] at g2
          have hsg := g2.1
          have hkg : k.testBit g = false := by
            cases e : k.testBit g
            · rfl
            · rw [e] at g2; simp at g2
          have hgn := sn g hsg
          have hcb : ∀ t, c.testBit t = true ↔ k.testBit t = true ∨ t = g := by
            intro t
            rw [g4, or_bit, Nat.testBit_two_pow, decide_eq_true_iff]
            constructor
            · rintro (z | z)
              · exact Or.inl z
              · exact Or.inr z.symm
            · rintro (z | z)
              · exact Or.inl z
              · exact Or.inr z.symm
          refine ⟨fun t ht => ?_, fun x hx hd hl => ?_⟩
          · rcases (hcb t).mp ht with z | z
            · exact i1 t z
            · rw [z]; exact hsg
          · obtain ⟨r, r1, r2⟩ := mk_dig (dS nd s k) (dS_lt nd s k) n
            refine i2 r r1 r2 ?_
            have hdg : dg r g = 0 := by
              rw [r2 g hgn]
              unfold dS
              rw [if_pos hsg, if_neg (by rw [hkg]; decide)]
            have hqg : qOf (ldB iV gV nN mN rN) r g = true := by
              refine (qc r g r1 hgn).mpr (Or.inr ⟨hdg, ?_, ?_⟩)
              · rw [and0]
                intro y ⟨y1, y2⟩
                rw [and0] at g3
                have hy7 : y < 7 := by
                  by_cases z : y < 7
                  · exact z
                  · rw [bit_out (iV_lt r) (by omega)] at y1; exact absurd y1 (by decide)
                have hdy : dg r y = 1 := by
                  have := (hD r r1 y hy7).1
                  simp only at this
                  rw [this] at y1
                  exact of_decide_eq_true y1
                have hyn : y < n := by
                  by_cases z : y < n
                  · exact z
                  · rw [dg_hi r1 (by omega)] at hdy; exact absurd hdy (by decide)
                rw [r2 y hyn] at hdy
                unfold dS at hdy
                refine g3 y ⟨y2, ?_⟩
                rw [stl_bit]
                apply decide_eq_true
                by_cases q1 : s.testBit y = true
                · rw [if_pos q1] at hdy
                  by_cases q2 : k.testBit y = true
                  · rw [if_pos q2] at hdy
                    by_cases q3 : nd y &&& (127 - k) = 0
                    · rw [if_pos q3] at hdy; exact absurd hdy (by decide)
                    · exact ⟨hy7, q2, q3⟩
                  · rw [if_neg q2] at hdy; exact absurd hdy (by decide)
                · rw [if_neg q1] at hdy; exact absurd hdy (by decide)
              · rw [and0]
                intro y ⟨y1, y2⟩
                have sy := hsub g hgn y y2
                have hyn := sn y sy
                have hdy : dg r y = 2 := by
                  rw [(hin r r1 y hyn).2] at y1
                  exact of_decide_eq_true y1
                rw [r2 y hyn] at hdy
                unfold dS at hdy
                rw [if_pos sy] at hdy
                by_cases q2 : k.testBit y = true
                · rw [if_pos q2] at hdy
                  by_cases q3 : nd y &&& (127 - k) = 0
                  · rw [sub_iff (hnd y hyn) hk128] at q3
                    have := q3 g (by rw [← hsy g y hgn hyn hsg sy]; exact y2)
                    rw [hkg] at this
                    exact absurd this (by decide)
                  · rw [if_neg q3] at hdy; exact absurd hdy (by decide)
                · rw [if_neg q2] at hdy; exact absurd hdy (by decide)
            obtain ⟨a1, a2⟩ := dg_step (s := r) (i := g) (by omega)
            have hl2 := dg_add hgn r1 (by omega)
            have hlive := go_live hq hT (fun x i hx hi h => (qc x i hx hi).mpr (Or.inl h)) hx hl (r + 3 ^ g) hl2 (fun i hi => by
              by_cases e : i = g
              · rw [e, a1, hdg, hd g hgn]
                unfold dS
                rw [if_pos hsg, if_pos ((hcb g).mpr (Or.inr rfl))]
                split
                · exact Or.inr ⟨rfl, rfl⟩
                · exact Or.inl rfl
              · rw [a2 i e, hd i hi, r2 i hi]
                unfold dS
                by_cases q1 : s.testBit i = true
                · rw [if_pos q1, if_pos q1]
                  by_cases q2 : k.testBit i = true
                  · rw [if_pos q2, if_pos ((hcb i).mpr (Or.inl q2))]
                    by_cases q3 : nd i &&& (127 - k) = 0
                    · rw [if_pos q3]
                      left
                      rw [if_pos]
                      rw [sub_iff (hnd i hi) hc]
                      intro t ht
                      exact (hcb t).mpr (Or.inl ((sub_iff (hnd i hi) hk128).mp q3 t ht))
                    · rw [if_neg q3]
                      split
                      · exact Or.inr ⟨rfl, rfl⟩
                      · exact Or.inl rfl
                  · rw [if_neg q2, if_neg (fun z => by rcases (hcb i).mp z with w | w; exact q2 w; exact e w)]
                    exact Or.inl rfl
                · rw [if_neg q1, if_neg q1]
                  exact Or.inl rfl)
            have hmn := cnt_mono hq hT r1 hgn hqg
            omega
    obtain ⟨-, m2⟩ := main s (Nat.le_refl _) s hs128 hA
    refine m2 (3 ^ n - 1) (by omega) (fun i hi => ?_) (by rw [hT.1]; decide)
    rw [dg_last hi]
    unfold dS
    by_cases q1 : s.testBit i = true
    · rw [if_pos q1, if_pos q1, if_pos]
      rw [sub_iff (hnd i hi) hs128]
      exact hsub i hi
    · rw [if_neg q1]

