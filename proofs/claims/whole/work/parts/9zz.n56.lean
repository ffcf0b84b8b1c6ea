/-! how likely it can have been: both answers -/
section N56
variable {n m : Nat} {O W : Nat → Nat} {op : Nat → Int32} {opn : Nat → Nat → Bool} {A : Nat → Nat → Nat} {p q qx : Nat → Nat → Bool} {TC TM Tx : Nat → Nat} {gd : Nat → Prop} {w : Nat → Int64} {x : Nat}
theorem aN_pred {r : Nat → Nat → Bool} : ∀ k t, 0 < aN r n k t → t = 0 ∨ ∃ s i, s < k ∧ i < n ∧ r s i = true ∧ s + 3 ^ i = t ∧ 0 < aN r n s s := by
  intro k
  induction k with
  | zero =>
    intro t h
    have h : 0 < dl0 t := h
    by_cases e : t = 0
    · exact Or.inl e
    · unfold dl0 at h
      split at h
      · exact Or.inl (by omega)
      · exact absurd h (by decide)
  | succ k ih =>
    intro t h
    rw [aN_s] at h
    rcases Nat.eq_zero_or_pos (aN r n k t) with z | z
    · rw [z, Nat.zero_add] at h
      obtain ⟨i, hi, hv⟩ := sumN_ex n (Nat.pos_iff_ne_zero.mp h)
      split at hv
      · rename_i c
        exact Or.inr ⟨k, i, by omega, hi, c.1, c.2, by omega⟩
      · exact absurd rfl hv
    · rcases ih t z with e | ⟨s, i, a1, a2⟩
      · exact Or.inl e
      · exact Or.inr ⟨s, i, by omega, a2⟩
/-- outcome x is found just where there is an order for it -/
theorem out_eq (H : twoH n A p q TC TM gd) (hA : digA n A) (hP : numP opn n m O W op (fun _ _ => True)) (hs : ∀ a b, a < n → b < n → opn a b = opn b a) (hm : m ≤ 6) (hw : ∀ t p, t < 3 ^ n → btM (w t) p = true → t = 0 ∧ p = 0) (hw0 : ¬ TC 0 = 0 → btM (w 0) 0 = true) (hX : qX q m n O W x qx) (hqx : pOK n qx) (hT : cntT n qx Tx) (hx : x < 2 ^ m) : btM (ooS A op n w (3 ^ n - 1) (3 ^ n - 1)) x = true ↔ 0 < Tx 0 := by
  have hn := H.1
  have hp3 := p3_pos n
  have H' := H
  obtain ⟨h1, h2, h3, h4, h5, h6, h7, h8, h9, h10, h11, h12, h13⟩ := H'
  have inn := mk_in H hA hP hs hm hw
  have hx64 : x < 64 := Nat.lt_of_lt_of_le hx (Nat.pow_le_pow_right (n := 2) (j := 6) (by decide) hm)
  have pal : paT m O W x (3 ^ n - 1) = x := by
    apply Nat.eq_of_testBit_eq
    intro i
    rw [Bool.eq_iff_iff, pa_b]
    constructor
    · exact fun z => z.2.1
    · intro z
      have hi : i < m := by
        rcases Nat.lt_or_ge i m with c | c
        · exact c
        · rw [Nat.testBit_lt_two_pow (Nat.lt_of_lt_of_le hx (Nat.pow_le_pow_right (n := 2) (by decide) c))] at z
          exact absurd z (by decide)
      have hW := (hP.2 i hi).2.1
      have hO := (hP.2 i hi).1
      exact ⟨hi, z, by rw [dg_last (by omega)]; decide, by rw [dg_last hW]; decide⟩
  have fw : ∀ t, t < 3 ^ n → btM (ooS A op n w t t) (paT m O W x t) = true → 0 < aN qx n t t := by
    intro t
    induction t using Nat.strongRecOn with
    | ind t ih =>
      intro ht h
      rcases (fin_at ht (pa_lt hm)).mp h with h | ⟨s, j, s1, j1, j2, j3, j4⟩
      · obtain ⟨e1, -⟩ := hw t _ ht h
        subst e1
        show 0 < dl0 0
        decide
      · obtain ⟨a1, a2, a3, a4, a5⟩ := two_in H s1 j2
        have hd : dg s j ≤ 1 := h3 s j s1 j1 a3
        have hpj := p3_pos j
        subst j3
        unfold oTx at j4
        have hin := (hA.2.2 s s1 j (by omega)).1
        by_cases c : (A 0 s).testBit j = true
        · have d1 : dg s j = 1 := by rw [hin] at c; exact of_decide_eq_true c
          rw [if_pos c, pa_go d1] at j4
          have gs := (inn s s1 _ (pa_lt hm) j4).1
          have i1 := ih s (by omega) s1 j4
          have eq : qx s j = true := (hX s j s1 j1).mpr ⟨(h10 s j s1 j1 gs a3).1, fun z => by omega⟩
          have := aN_next (r := qx) j1 eq
          omega
        · have c' : (A 0 s).testBit j = false := by cases e : (A 0 s).testBit j <;> simp_all
          have d0 : dg s j = 0 := by
            rw [hin] at c'
            have := of_decide_eq_false c'
            omega
          rw [if_neg c, oTS_bt n _ (pa_lt hm), Bool.and_eq_true, decide_eq_true_eq] at j4
          obtain ⟨n1, n2⟩ := ns_bit hP hs hm j1 c' n (Nat.le_refl _)
          have pl : paT m O W x (s + 3 ^ j) < 64 := pa_lt hm
          obtain ⟨gs, g2⟩ := inn s s1 _ (by omega) j4.2
          obtain ⟨e1, e2⟩ := dg_step (s := s) (i := j) hd
          have dz : (paT m O W x (s + 3 ^ j) - nsO op (A 0 s) j n) &&& nsO op (A 0 s) j n = 0 := by
            rw [and0]
            rintro i ⟨z1, z2⟩
            obtain ⟨b, b1, b2, b3⟩ := (n2 i).mp z2
            obtain ⟨-, y1, y2⟩ := g2 i z1
            rcases b3.2 with ⟨q1, q2⟩ | ⟨q1, q2⟩
            · rw [q1] at y1; exact y1 d0
            · rw [q2] at y2; exact y2 d0
          have ep : paT m O W x (s + 3 ^ j) = (paT m O W x (s + 3 ^ j) - nsO op (A 0 s) j n) ||| nsO op (A 0 s) j n := by
            rw [← or_add2 _ (by omega) _ n1 dz]; omega
          have bit : ∀ i, (paT m O W x (s + 3 ^ j)).testBit i = true ↔ (paT m O W x (s + 3 ^ j) - nsO op (A 0 s) j n).testBit i = true ∨ (nsO op (A 0 s) j n).testBit i = true := fun i => by
            have e := congrArg (fun y => y.testBit i) ep
            rw [e, Nat.testBit_or, Bool.or_eq_true]
          have cond : ∀ b i, b < n → nuP m O W j b i → (dg s b = 1 → x.testBit i = true) ∧ (dg s b = 2 → x.testBit i = false) := by
            intro b i hb hnu
            constructor
            · intro db
              have nb : (nsO op (A 0 s) j n).testBit i = true := (n2 i).mpr ⟨b, hb, by rw [(hA.2.2 s s1 b (by omega)).1]; exact decide_eq_true db, hnu⟩
              exact (pa_b.mp ((bit i).mpr (Or.inr nb))).2.1
            · intro db
              cases xi : x.testBit i
              · rfl
              · exfalso
                have hj : ¬ dg (s + 3 ^ j) j = 0 := by rw [e1]; omega
                have hb' : ¬ dg (s + 3 ^ j) b = 0 := dg_up hd (by omega)
                have pb : (paT m O W x (s + 3 ^ j)).testBit i = true := pa_b.mpr ⟨hnu.1, xi, by
                  rcases hnu.2 with ⟨q1, q2⟩ | ⟨q1, q2⟩
                  · rw [q1, q2]; exact ⟨hj, hb'⟩
                  · rw [q1, q2]; exact ⟨hb', hj⟩⟩
                rcases (bit i).mp pb with z | z
                · obtain ⟨-, y1, y2⟩ := g2 i z
                  rcases hnu.2 with ⟨q1, q2⟩ | ⟨q1, q2⟩
                  · rw [q1] at y1; exact y1 d0
                  · rw [q2] at y2; exact y2 d0
                · obtain ⟨b', b1, b2, b3⟩ := (n2 i).mp z
                  have := nu_uni hP b3 hnu
                  subst this
                  rw [(hA.2.2 s s1 b' (by omega)).1] at b2
                  have := of_decide_eq_true b2
                  omega
          have est := pa_st hA hn hP hs hm s1 j1 d0 cond
          rw [est, Nat.add_sub_cancel] at j4
          have i1 := ih s (by omega) s1 j4.2
          have eq : qx s j = true := (hX s j s1 j1).mpr ⟨(h10 s j s1 j1 gs a3).1, fun _ => cond⟩
          have := aN_next (r := qx) j1 eq
          omega
  have sub : ∀ s, s < 3 ^ n → Tx s ≤ TM s := by
    refine dw_ind (fun s hs' ih => ?_)
    by_cases c : s = 3 ^ n - 1
    · rw [c, hT.1, h6.1]; exact Nat.le_refl _
    · rw [hT.2 s (by omega), h6.2 s (by omega)]
      refine sumN_le n (fun i hi => ?_)
      by_cases c1 : qx s i = true
      · have c2 := ((hX s i hs' hi).mp c1).1
        have := p3_pos i
        rw [if_pos c1, if_pos c2]
        exact ih (s + 3 ^ i) (by omega) (dg_add hi hs' (hqx s i hs' hi c1))
      · rw [if_neg c1]; exact Nat.zero_le _
  have bw : ∀ t, t < 3 ^ n → 0 < aN qx n t t → ¬ Tx t = 0 → btM (ooS A op n w t t) (paT m O W x t) = true := by
    intro t
    induction t using Nat.strongRecOn with
    | ind t ih =>
      intro ht ha hTt
      rcases aN_pred t t ha with e | ⟨s, j, s1, j1, j2, j3, j4⟩
      · subst e
        have h0 : ¬ TC 0 = 0 := by
          rw [h11 0 hp3 h2]
          have := sub 0 hp3
          omega
        have e : paT m O W x 0 = 0 := by
          apply Nat.eq_of_testBit_eq
          intro i
          rw [Nat.zero_testBit]
          cases z : (paT m O W x 0).testBit i
          · rfl
          · exact absurd (dg_z _) (pa_b.mp z).2.2.1
        rw [e]
        exact (fin_at hp3 (by decide)).mpr (Or.inl (hw0 h0))
      · have s3 : s < 3 ^ n := by omega
        have hd : dg s j ≤ 1 := hqx s j s3 j1 j2
        have hpj := p3_pos j
        subst j3
        have mono := cnt_mono hqx hT s3 j1 j2
        have i1 := ih s (by omega) s3 j4 (by omega)
        have tm := sub (s + 3 ^ j) ht
        obtain ⟨c1, c2⟩ := (hX s j s3 j1).mp j2
        have gs : gd s := Classical.byContradiction (fun z => by
          have := h12 s s3 z
          have := sub s s3
          omega)
        have ev : (A 2 s).testBit j = true := by
          rw [two_nx H (by omega) j1 gs, c1]
          exact decide_eq_true (by omega)
        refine (fin_at ht (pa_lt hm)).mpr (Or.inr ⟨s, j, s3, j1, ev, rfl, ?_⟩)
        unfold oTx
        have hin := (hA.2.2 s s3 j (by omega)).1
        rcases (show dg s j = 1 ∨ dg s j = 0 by omega) with d | d
        · rw [if_pos (by rw [hin]; exact decide_eq_true d), pa_go d]; exact i1
        · rw [if_neg (by rw [hin]; exact fun z => by have := of_decide_eq_true z; omega)]
          have est := pa_st hA hn hP hs hm s3 j1 d (c2 d)
          rw [oTS_bt n _ (pa_lt hm), est, Nat.add_sub_cancel, i1, decide_eq_true (Nat.le_add_left _ _)]
          rfl
  -- the last state is reached just where there is an order
  have hr : ∀ s i, s < 3 ^ n → i < n → qx s i = true → s + 3 ^ i < 3 ^ n := fun s i hs' hi c => dg_add hi hs' (hqx s i hs' hi c)
  have du := dual (r := qx) (n := n) (N := 3 ^ n) (V := Tx) (w := fun s => if s = 3 ^ n - 1 then 1 else 0) hp3 hr (fun s hs' => by
    by_cases c : s = 3 ^ n - 1
    · rw [if_pos c, c, hT.1]
      rw [sumN_0 n (fun i hi => ?_)]
      rw [if_neg]
      intro z
      have := hqx (3 ^ n - 1) i (by omega) hi z
      have := dg_last hi
      omega
    · rw [if_neg c, Nat.zero_add, hT.2 s (by omega)])
  have al : aN qx n (3 ^ n) (3 ^ n - 1) = aN qx n (3 ^ n - 1) (3 ^ n - 1) := aN_at (by omega)
  constructor
  · intro h
    rw [← pal] at h
    have f := fw (3 ^ n - 1) (by omega) h
    have := sumN_mem (f := fun s => aN qx n (3 ^ n) s * (if s = 3 ^ n - 1 then 1 else 0)) (3 ^ n) (3 ^ n - 1) (by omega)
    rw [if_pos rfl, Nat.mul_one, du, al] at this
    omega
  · intro h
    rw [← du] at h
    obtain ⟨s, hs', hv⟩ := sumN_ex _ (show ¬ sumN (fun s => aN qx n (3 ^ n) s * (if s = 3 ^ n - 1 then 1 else 0)) (3 ^ n) = 0 by omega)
    by_cases c : s = 3 ^ n - 1
    · rw [if_pos c, Nat.mul_one, c, al] at hv
      have := bw (3 ^ n - 1) (by omega) (by omega) (by rw [hT.1]; decide)
      rw [pal] at this
      exact this
    · rw [if_neg c, Nat.mul_zero] at hv
      exact absurd rfl hv
end N56

