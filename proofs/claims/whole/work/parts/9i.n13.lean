/-! the model's ways from the start, and its sums -/
theorem aN_cg {r r' : Nat → Nat → Bool} {n : Nat} : ∀ k, (∀ s i, s < k → i < n → r s i = r' s i) → ∀ t, aN r n k t = aN r' n k t := by
  intro k
  induction k with
  | zero => intro _ t; rfl
  | succ k ih =>
    intro h t
    have ih := ih (fun s i hs hi => h s i (by omega) hi)
    rw [aN_s, aN_s, ih t]
    congr 1
    refine sumN_cg n (fun i hi => ?_)
    rw [h k i (by omega) hi, ih k]
theorem ah0_at (ah : Nat → Int64) : ∀ k t, t < k → itr ah0 ah k t = if t = 0 then 1 else 0 := by
  intro k
  induction k with
  | zero => intro t h; exact absurd h (Nat.not_lt_zero _)
  | succ k ih =>
    intro t ht
    rw [itr_s]
    show z_up (itr ah0 ah k) k (if k = 0 then 1 else 0) t = _
    by_cases c : t = k
    · subst c; rw [zup_eq]
    · rw [zup_ne _ _ c, ih t (by omega)]
section N13
variable {n : Nat} {iN gN nN mN rN : Nat → Nat}
theorem ahE_2 {ld : Nat → Nat → Bool} {s : Nat} (hx : ∀ i, i < n → ¬ (ld s (2 * i) = true ∧ ld s (2 * i + 1) = true)) (hs : s < 3 ^ n) (hr : ∀ i, i < n → qOf ld s i = true → s + 3 ^ i < 3 ^ n) {f : Nat → Int64} {g : Nat → Nat} (hf : ∀ t, t < 3 ^ n → f t = lN (g t)) : ∀ k, k ≤ n → ∀ t, t < 3 ^ n → itr (ahE ld s) f (2 * k) t = lN (itr (scE (qOf ld) s) g k t) := by
  intro k
  induction k with
  | zero => intro _ t ht; exact hf t ht
  | succ k ih =>
    intro hk t ht
    have ih := ih (by omega)
    rw [show 2 * (k + 1) = 2 * k + 1 + 1 by omega, itr_s, itr_s, itr_s]
    generalize itr (ahE ld s) f (2 * k) = F at *
    generalize itr (scE (qOf ld) s) g k = G at *
    have e1 : ahE ld s (2 * k) F = if ld s (2 * k) = true then z_up F (s + 3 ^ k) (F (s + 3 ^ k) + F s) else F := by unfold ahE; rw [show 2 * k / 2 = k by omega]
    have e2 : ∀ X, ahE ld s (2 * k + 1) X = if ld s (2 * k + 1) = true then z_up X (s + 3 ^ k) (X (s + 3 ^ k) + X s) else X := by intro X; unfold ahE; rw [show (2 * k + 1) / 2 = k by omega]
    have add : ∀ (h : qOf ld s k = true), z_up F (s + 3 ^ k) (F (s + 3 ^ k) + F s) t = lN (z_up G (s + 3 ^ k) (G (s + 3 ^ k) + G s) t) := by
      intro h
      have hl := hr k (by omega) h
      by_cases c : t = s + 3 ^ k
      · rw [c, zup_eq, zup_eq, ih _ hl, ih s hs, lN_add]
      · rw [zup_ne _ _ c, zup_ne _ _ c, ih t ht]
    have hx := hx k (by omega)
    have eS : scE (qOf ld) s k G = if qOf ld s k = true then z_up G (s + 3 ^ k) (G (s + 3 ^ k) + G s) else G := rfl
    rw [e2, e1, eS]
    by_cases c1 : ld s (2 * k) = true
    · have c2 : ¬ ld s (2 * k + 1) = true := fun z => hx ⟨c1, z⟩
      have hq : qOf ld s k = true := by unfold qOf; rw [c1]; rfl
      rw [if_neg c2, if_pos c1, if_pos hq]
      exact add hq
    · rw [if_neg c1]
      by_cases c2 : ld s (2 * k + 1) = true
      · have hq : qOf ld s k = true := by unfold qOf; rw [c2, Bool.or_true]
        rw [if_pos c2, if_pos hq]
        exact add hq
      · have hq : ¬ qOf ld s k = true := by
          unfold qOf
          rw [Bool.or_eq_true]
          exact fun z => z.elim c1 c2
        rw [if_neg c2, if_neg hq]
        exact ih t ht
theorem ah_T (hD : digOK (iN, gN) (3 ^ n)) (hn : n ≤ 7) (ah : Nat → Int64) : ∀ t, t < 3 ^ n → itr (ahS (ldB iN gN nN mN rN) n) (itr ah0 ah (3 ^ n)) (3 ^ n) t = lN (aN (qOf (ldB iN gN nN mN rN)) n (3 ^ n) t) := by
  have key : ∀ k, k ≤ 3 ^ n → ∀ t, t < 3 ^ n → itr (ahS (ldB iN gN nN mN rN) n) (itr ah0 ah (3 ^ n)) k t = lN (aN (qOf (ldB iN gN nN mN rN)) n k t) := by
    intro k
    induction k with
    | zero =>
      intro _ t ht
      rw [itr_0, ah0_at ah (3 ^ n) t ht]
      show _ = lN (dl0 t)
      unfold dl0
      by_cases c : t = 0
      · rw [if_pos c, if_pos c.symm]; rfl
      · rw [if_neg c, if_neg (fun z => c z.symm)]; rfl
    | succ k ih =>
      intro hk t ht
      rw [itr_s]
      have hk' : k < 3 ^ n := by omega
      exact ahE_2 (fun i hi z => by
        rw [ld_c hD hn hk' hi, ld_g hD hn hk' hi, Bool.and_eq_true] at z
        have a := of_decide_eq_true z.1.1
        have b := of_decide_eq_true z.2
        omega) hk' (fun i hi h => dg_add hi hk' (q_ok hD hn k i hk' hi h)) (ih (by omega)) n (Nat.le_refl _) t ht
  exact key (3 ^ n) (Nat.le_refl _)
theorem mcw_T (hD : digOK (iN, gN) (3 ^ n)) (hn : n ≤ 7) {V W : Nat → Int64} {T : Nat → Nat} {a b w : Nat} (ha : a < n) (hV : ∀ t, t < 3 ^ n → V t = lN (aN (qOf (ldB iN gN nN mN rN)) n (3 ^ n) t)) (hW : ∀ t, t < 3 ^ n → W t = lN (T t)) : mcwV iN gN (nN, mN, rN) n V W a b w = lN (gatN (qOf (ldB iN gN nN mN rN)) T n a (fun s => decide (dg s b = w))) := by
  have key : ∀ k, k ≤ 3 ^ n → itr (cwF (ldB iN gN nN mN rN) V W a b w) 0 k = lN (sumN (fun s => aN (qOf (ldB iN gN nN mN rN)) n (3 ^ n) s * (if decide (dg s b = w) = true ∧ qOf (ldB iN gN nN mN rN) s a = true ∧ dg s a = 0 then T (s + 3 ^ a) else 0)) k) := by
    intro k
    induction k with
    | zero => intro _; rfl
    | succ k ih =>
      intro hk
      have hk' : k < 3 ^ n := by omega
      have ih := ih (by omega)
      rw [itr_s, sumN_s, ih, ← lN_add]
      have eC : ldB iN gN nN mN rN k (2 * a) = (decide (dg k a = 0) && mcB iN gN nN mN rN k a) := ld_c hD hn hk' ha
      have eQ : (qOf (ldB iN gN nN mN rN) k a = true ∧ dg k a = 0) ↔ ldB iN gN nN mN rN k (2 * a) = true := by
        unfold qOf
        rw [ld_g hD hn hk' ha, eC, Bool.or_eq_true, Bool.and_eq_true]
        constructor
        · rintro ⟨z | z, h0⟩
          · exact z
          · have := of_decide_eq_true z; omega
        · intro z
          exact ⟨Or.inl z, of_decide_eq_true z.1⟩
      unfold cwF
      by_cases c1 : dg k b = w
      · rw [if_pos c1]
        by_cases c2 : ldB iN gN nN mN rN k (2 * a) = true
        · have hq := eQ.mpr c2
          rw [if_pos c2, if_pos ⟨decide_eq_true c1, hq.1, hq.2⟩, hV k hk', hW _ (dg_add ha hk' (by omega)), lN_mul]
        · rw [if_neg c2, if_neg (fun z => c2 (eQ.mp z.2)), Nat.mul_zero]
          rfl
      · rw [if_neg c1, if_neg (fun z => c1 (of_decide_eq_true z.1)), Nat.mul_zero]
        rfl
  exact key (3 ^ n) (Nat.le_refl _)
end N13
section N13b
variable {n : Nat} {rm mt nt : Nat → Nat} {fm : Bool} {now : Nat → Int32}
/-- the model's events, by what is told -/
def qM (now : Nat → Int32) (n : Nat) : Nat → Nat → Bool := qOf (ldB iV gV (fun i => thoV now n i 0) (fun i => thoV now n i 1) (fun i => rmV now n i))
theorem qM_ru (q : lrT) {s i : Nat} (hi : i < n) : qOf (ldB iV gV (ruV now n q).1 (ruV now n q).2.1 (ruV now n q).2.2) s i = qM now n s i := by
  unfold qM qOf
  rw [ld_cg (n := n) (fun i hi => (ruV_at q hi).1) (fun i hi => (ruV_at q hi).2.1) (fun i hi => (ruV_at q hi).2.2) (show 2 * i < 2 * n by omega), ld_cg (n := n) (fun i hi => (ruV_at q hi).1) (fun i hi => (ruV_at q hi).2.1) (fun i hi => (ruV_at q hi).2.2) (show 2 * i + 1 < 2 * n by omega)]
theorem mk_two {vr : Int32} {o : cOrd} (hr : ∀ i, rm i ≤ 9) (hg : gdT n mt nt) (hR : nowR n rm mt nt fm now) (hW : odW o) (hO : odT (n, rm, mt, nt, fm, vr) o) : twoH n o.2.2.2.1 (posC mt (barN n rm nt fm) iV gV) (qM now n) (cTab n rm mt nt fm) (mTab now n) (goodS n mt) := by
  have hn := hg.1
  have hf := two_f (I := iV) (G := gV) (mt := mt) (br := barN n rm nt fm) (nN := fun i => thoV now n i 0) (mN := fun i => thoV now n i 1) (rN := fun i => rmV now n i) hn (tb_dig hn) iV_lt gV_lt (fun i j hi hj => (hg.2.2.1 i j hi hj).1) (fun i hi => (hg.2.1 i hi).1) (fun i hi => tho_1 hg hR hi) (fun i hi => by
    show thoV now n i 0 ||| rmV now n i = nt i ||| matesOf n rm fm i
    rw [tho_0 hg hR hi, rm_m hr hR hi])
  have hb := two_bad (I := iV) (G := gV) (mt := mt) (br := barN n rm nt fm) (nN := fun i => thoV now n i 0) (mN := fun i => thoV now n i 1) (rN := fun i => rmV now n i) hn (tb_dig hn) iV_lt gV_lt (fun i j hi hj => (hg.2.2.1 i j hi hj).1) (fun i hi => (hg.2.1 i hi).1) (fun i hi => tho_1 hg hR hi) (fun i hi => by
    show thoV now n i 0 ||| rmV now n i = nt i ||| matesOf n rm fm i
    rw [tho_0 hg hR hi, rm_m hr hR hi])
  have ng : ∀ s, ¬ goodS n mt s → badS n mt s := by
    intro s h
    apply Classical.byContradiction
    intro hb
    apply h
    intro i hi e j hj hm e0
    exact hb ⟨i, j, hi, hj, e, hm, e0⟩
  have gb : ∀ s, badS n mt s → ¬ goodS n mt s := by
    intro s ⟨i, j, hi, hj, e, hm, e0⟩ hg
    exact hg i hi e j hj hm e0
  obtain ⟨c1, c2⟩ := cd_T (vr := vr) hn hW hO
  obtain ⟨-, -, hA0, hA1, hD⟩ := hW
  have hl := hO.2.2.2.1
  simp only at hl
  exact ⟨hn, good_0, posC_ok, q_ok (tb_dig hn) hn, tab_cnt _ _, tab_cnt _ _, fun s hs i hi => (hD s (by omega) i (by omega)).1, c2, hO.2.2.2.2.2.1, hf.2.2.1, fun s hs hgs => both_T hr hg hR hs hgs, fun s hs h => hb s hs (ng s h), fun s i hs hi hgs a b => gb _ (hf.2.2.2 s i hs hi hgs a b)⟩
end N13b

