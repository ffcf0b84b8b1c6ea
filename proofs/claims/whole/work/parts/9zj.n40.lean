/-! the most that were in at once, and the fewest beds, on both sides -/
section N40
variable {n : Nat} {A : Nat → Nat → Nat} {p q : Nat → Nat → Bool} {TC TM : Nat → Nat} {gd : Nat → Prop}
theorem aN_mono {r : Nat → Nat → Bool} {t : Nat} (k : Nat) : ∀ j, aN r n k t ≤ aN r n (k + j) t := by
  intro j
  induction j with
  | zero => exact Nat.le_refl _
  | succ j ih => rw [show k + (j + 1) = k + j + 1 by omega, aN_s]; omega
theorem aN_next {r : Nat → Nat → Bool} {s i : Nat} (hi : i < n) (h : r s i = true) : aN r n s s ≤ aN r n (s + 3 ^ i) (s + 3 ^ i) := by
  have hp := p3_pos i
  have h1 := aN_mono (n := n) (r := r) (t := s + 3 ^ i) (s + 1) (3 ^ i - 1)
  rw [show s + 1 + (3 ^ i - 1) = s + 3 ^ i by omega, aN_s] at h1
  have h2 := sumN_mem (f := fun j => if r s j = true ∧ s + 3 ^ j = s + 3 ^ i then aN r n s s else 0) n i hi
  rw [if_pos ⟨h, rfl⟩] at h2
  omega
theorem aN_at {r : Nat → Nat → Bool} {s k : Nat} (h : s ≤ k) : aN r n k s = aN r n s s := by
  obtain ⟨j, rfl⟩ : ∃ j, k = s + j := ⟨k - s, by omega⟩
  exact aN_fin j
/-- states that are reached and lead to an end: both know the same ones -/
theorem two_live (H : twoH n A p q TC TM gd) (h0 : ¬ TC 0 = 0) {s : Nat} (hs : s < 3 ^ n) : (0 < aN (rCA A) n (3 ^ n - 1) s) ↔ (0 < TM s ∧ 0 < aN q n (3 ^ n) s) := by
  have H' := H
  obtain ⟨h1, h2, h3, h4, h5, h6, h7, h8, h9, h10, h11, h12, h13⟩ := H'
  have hp := p3_pos n
  have e : ¬ TM s = 0 → aN (rCA A) n (3 ^ n - 1) s = aN q n (3 ^ n) s := fun z => by
    rw [two_a H (by omega) z hs, aN_at (k := 3 ^ n - 1) (by omega), aN_at (k := 3 ^ n) (by omega)]
  constructor
  · intro hz
    have z : ¬ TM s = 0 := by
      intro z
      have := aN_bad (rC := rCA A) (n := n) (N := 3 ^ n) (gd := fun t => gd t ∧ ¬ TM t = 0) ⟨h2, by rw [← h11 0 (by omega) h2]; exact h0⟩ (fun s i hs _ hg h => by
        obtain ⟨a, b, c, d, f⟩ := two_in H hs h
        have g := two_gd H hs hg.1 h
        exact ⟨g, by rw [← h11 _ f g]; exact d⟩) (3 ^ n - 1) (by omega) s (fun w => w.2 z)
      omega
    exact ⟨by omega, by rw [← e z]; exact hz⟩
  · intro ⟨z1, z2⟩
    rw [e (by omega)]
    exact z2
theorem most_eq (H : twoH n A p q TC TM gd) (h0 : ¬ TC 0 = 0) {ahC ahM W : Nat → Int64} (hC : ∀ s, s < 3 ^ n → ahC s = lN (aN (rCA A) n (3 ^ n - 1) s)) (hM : ∀ s, s < 3 ^ n → ahM s = lN (aN q n (3 ^ n) s)) (hW : ∀ s, s < 3 ^ n → W s = lN (TM s)) (hI : ∀ s, s < 3 ^ n → A 0 s = iV s) : ∀ k, k ≤ 3 ^ n → fsB A ahC k = itr (moF iV ahM W) 0 k := by
  intro k
  induction k with
  | zero => exact fun _ => rfl
  | succ k ih =>
    intro hk
    have hk' : k < 3 ^ n := by omega
    have ih := ih (by omega)
    rw [fsB_s, itr_s, ih, hI k hk']
    generalize itr (moF iV ahM W) 0 k = b
    unfold moF
    have tb := cnt_le H.1 H.2.2.2.1 H.2.2.2.2.2.1 hk'
    have ea : (0 < ahC k) = (0 < aN (rCA A) n (3 ^ n - 1) k) := by
      rw [hC k hk', aN_at (by omega)]
      exact lN_pos' (two_b H h0 hk')
    have ew : (0 < W k) = (0 < TM k) := by rw [hW k hk']; exact lN_pos' tb
    have em : 0 < TM k → (0 < ahM k) = (0 < aN q n (3 ^ n) k) := fun z => by
      rw [hM k hk', ← two_a H (Nat.le_refl _) (by omega) hk', aN_at (by omega)]
      exact lN_pos' (two_b H h0 hk')
    simp only [ea, ew]
    have tl := two_live H h0 hk'
    by_cases c : 0 < aN (rCA A) n (3 ^ n - 1) k
    · obtain ⟨t1, t2⟩ := tl.mp c
      rw [if_pos c]
      simp only [em t1]
      by_cases c1 : pop b < pop (iV k)
      · rw [if_pos c1, if_pos ⟨Or.inl c1, t1, t2⟩]
      · rw [if_neg c1]
        by_cases c2 : pop (iV k) = pop b
        · rw [if_pos c2]
          by_cases c3 : iV k < b
          · rw [if_pos c3, if_pos ⟨Or.inr ⟨c2, c3⟩, t1, t2⟩]
          · rw [if_neg c3, if_neg (by rintro ⟨z | z, -⟩; exact c1 z; exact c3 z.2)]
        · rw [if_neg c2, if_neg (by rintro ⟨z | z, -⟩; exact c1 z; exact c2 z.1)]
    · rw [if_neg c, if_neg]
      rintro ⟨-, z1, z2⟩
      rw [em z1] at z2
      exact c (tl.mpr ⟨z1, z2⟩)
theorem tabR_all {q : Nat → Nat → Bool} {T : Nat → Nat} {ok : Nat → Bool} (hq : pOK n q) (hT : cntT n q T) (ho : ∀ s, s < 3 ^ n → ok s = true) : ∀ s, s < 3 ^ n → tabR n q ok s = T s := by
  refine dw_ind (fun s hs ih => ?_)
  rw [tabR_at n q ok s hs, if_pos (ho s hs)]
  by_cases c : s = 3 ^ n - 1
  · rw [if_pos c, c, hT.1]
  · rw [if_neg c, hT.2 s (by omega)]
    refine sumN_cg n (fun i hi => ?_)
    by_cases c1 : q s i = true
    · have hp := p3_pos i
      rw [if_pos c1, if_pos c1, ih (s + 3 ^ i) (by omega) (dg_add hi hs (hq s i hs hi c1))]
    · rw [if_neg c1, if_neg c1]
theorem bed_eq (H : twoH n A p q TC TM gd) (h0 : ¬ TM 0 = 0) {bh : Nat → Int64} (hB : ∀ s, s < 3 ^ n → bh s = lN (TC s)) (hA : digA n A) {qq : lrT} (hq : ∀ s i, s < 3 ^ n → i < n → qOf (ldB iV gV qq.1 qq.2.1 qq.2.2) s i = q s i) (w w' : Nat → Int64) : ∃ e x, 0 < x ∧ x ≤ 681080400 ∧ e ≤ n ∧ (bdV A bh n (3 ^ n - 1) 0 n (wwG A bh n (3 ^ n - 1) 0 (-1) (3 ^ n - 1 + 1) w)).1 = e ∧ (bdV A bh n (3 ^ n - 1) 0 n (wwG A bh n (3 ^ n - 1) 0 (-1) (3 ^ n - 1 + 1) w)).2 0 = lN x ∧ (mbdV iV gV qq n 0 7 (wyV iV gV qq n 0 (-1) w')).1 = e ∧ (mbdV iV gV qq n 0 7 (wyV iV gV qq n 0 (-1) w')).2 0 = lN x := by
  have H' := H
  obtain ⟨h1, h2, h3, h4, h5, h6, h7, h8, h9, h10, h11, h12, h13⟩ := H'
  have hp := p3_pos n
  have hn := H.1
  have hI : ∀ s, s < 3 ^ n → A 0 s = iV s := fun s hs => (dig_eq hA.2.2 (tb_dig hn) hA.1 hA.2.1 iV_lt gV_lt hs).1
  let TB : Nat → Nat := fun e => tabR n q (fun s => decide (pop (iV s) ≤ e ∧ ¬ nI (iV s) = -1)) 0
  have bC : ∀ e w, wwG A bh n (3 ^ n - 1) e (-1) (3 ^ n - 1 + 1) w 0 = lN (TB e) := fun e w => by
    rw [show 3 ^ n - 1 + 1 = 3 ^ n by omega, ww_T H hB w 0 hp h2]
    exact congrArg lN (tabR_cg h4 (fun _ _ _ _ => rfl) (fun s hs => by rw [hI s hs]) 0 hp)
  have bM : ∀ e w, wyV iV gV qq n e (-1) w 0 = lN (TB e) := fun e w => by
    have := wyR_T (nN := qq.1) (mN := qq.2.1) (rN := qq.2.2) (tb_dig hn) hn (ca := e) (bu := -1) w 0 hp
    refine this.trans (congrArg lN (tabR_cg (q_ok (tb_dig hn) hn) (fun s i hs hi => hq s i hs hi) (fun s hs => rfl) 0 hp))
  have bl : ∀ e, TB e ≤ 681080400 := fun e => Nat.le_trans (tabR_le h4 h6 0 hp) (cnt_le hn h4 h6 hp)
  have bn : ¬ TB n = 0 := by
    have : TB n = TM 0 := tabR_all h4 h6 (fun s hs => decide_eq_true ⟨by rw [← hI s hs]; exact pop_all n (by omega) _ (set_lt hA hn hs).2, ni_m1 (by have := iV_lt s; omega)⟩) 0 hp
    rw [this]; exact h0
  have z0 : ∀ e, (lN (TB e) = 0) = (TB e = 0) := fun e => lN_z (by have := bl e; omega)
  have key : ∀ j e w w', e + j = n → w 0 = lN (TB e) → w' 0 = lN (TB e) → ∃ f, f ≤ n ∧ ¬ TB f = 0 ∧ (bdV A bh n (3 ^ n - 1) e j w).1 = f ∧ (bdV A bh n (3 ^ n - 1) e j w).2 0 = lN (TB f) ∧ (mbdV iV gV qq n e (j + (7 - n)) w').1 = f ∧ (mbdV iV gV qq n e (j + (7 - n)) w').2 0 = lN (TB f) := by
    intro j
    induction j with
    | zero =>
      intro e w w' he hw hw'
      have e1 : e = n := by omega
      subst e1
      refine ⟨e, Nat.le_refl _, bn, rfl, hw, ?_⟩
      cases hj : 0 + (7 - e) with
      | zero => exact ⟨rfl, hw'⟩
      | succ j => rw [mbdV_s, if_neg (by rw [hw', z0]; exact bn)]; exact ⟨rfl, hw'⟩
    | succ j ih =>
      intro e w w' he hw hw'
      rw [bdV_s, show j + 1 + (7 - n) = j + (7 - n) + 1 by omega, mbdV_s, hw, hw']
      simp only [z0]
      by_cases c : TB e = 0
      · rw [if_pos c, if_pos c]
        exact ih (e + 1) _ _ (by omega) (bC _ _) (bM _ _)
      · rw [if_neg c, if_neg c]
        exact ⟨e, by omega, c, rfl, hw, rfl, hw'⟩
  obtain ⟨f, f1, f2, f3, f4, f5, f6⟩ := key n 0 _ _ (Nat.zero_add _) (bC 0 w) (bM 0 w')
  rw [show n + (7 - n) = 7 by omega] at f5 f6
  exact ⟨f, TB f, by omega, bl f, f1, f3, f4, f5, f6⟩
end N40

