/-! years drawn by a seed, on both sides -/
section N52
variable {n : Nat} {rm mt nt : Nat → Nat} {fm : Bool} {now : Nat → Int32} {vr : Int32}
/-- all of them: the class's sets against the model's count -/
theorem full_eq (hg : gdT n mt nt) (hR : nowR n rm mt nt fm now) (hr : ∀ i, rm i ≤ 9) (f : cFits) : (0 < lN (mTab now n 0)) ↔ (amgO (n, rm, mt, nt, fm, vr) f (2 ^ n - 1)).1 = true := by
  have hn := hg.1
  have h3 := p3_pos n
  have hD := tb_dig hn
  have h2 : 0 < 2 ^ n := Nat.pow_pos (by decide)
  have em : ∀ i, i < n → mt i &&& (2 ^ n - 1) = mt i := fun i hi => by
    apply Nat.eq_of_testBit_eq
    intro b
    rw [Nat.testBit_and, all_bit]
    by_cases d : b < n
    · rw [decide_eq_true d, Bool.and_true]
    · rw [bit_n (hg.2.1 i hi).1 (by omega), Bool.false_and]
  have key := fits_eq hn (nd := pre (fun i => mt i &&& (2 ^ n - 1)) f.1 n) (br := pre (fun i => nt i ||| matesOf n rm fm i) f.2.1 n) (nN := fun i => thoV now n i 0) (mN := fun i => thoV now n i 1) (rN := fun i => rmV now n i) (s := 2 ^ n - 1) (rc := f.2.2) (by omega) (fun i hi => by
      unfold pre
      dsimp only
      rw [if_pos hi, tho_1 hg hR hi, em i hi]) (fun i hi => by
      unfold pre
      dsimp only
      rw [if_pos hi, rm_m hr hR hi, tho_0 hg hR hi]) (fun i hi => by
      unfold pre
      rw [if_pos hi]
      intro b h
      rw [Nat.testBit_and] at h
      exact ((Bool.and_eq_true _ _).mp h).2) (fun i j hi hj si sj => by
      unfold pre
      rw [if_pos hi, if_pos hj]
      dsimp only
      rw [em i hi, em j hj, (hg.2.2.1 i j hi hj).1]) (x0 := 0) h3 (fun i hi => by rw [dg_z, all_bit, decide_eq_true hi, if_pos rfl])
  have hb : mTab now n 0 ≤ 681080400 := cnt_le hn (q_ok hD hn) (tab_cnt _ _) h3
  rw [lN_pos' hb, Nat.pos_iff_ne_zero]
  exact key
end N52
/-- the count of orders, by what is told alone -/
def cAll (n : Nat) (nw : Nat → Int32) : Int64 := lN (mTab nw n 0)
theorem cAll_h {n : Nat} (hn : n ≤ 7) : ∀ nw (qv : lrT) wv, wyV iV gV (ruV nw n qv) n 7 (-1) wv 0 = cAll n nw := fun nw qv wv => md_T hn qv wv 0 (p3_pos n)
theorem years_R {n : Nat} {now : Nat → Int32} {q : yrT} {s : Int32} (hn : n ≤ 7) (h1 : q.1.1 = n) (hR : relT q.1 now) (hs : q.2.1 = s) (h0 : q.2.2.2 = 0) : ∀ k, (itr (yrF n) q k).1.1 = n ∧ relT (itr (yrF n) q k).1 (itr (ysF (yD1 n) (yD2 n) (cAll n)) (s, now, 0) k).2.1 ∧ (itr (yrF n) q k).2.1 = (itr (ysF (yD1 n) (yD2 n) (cAll n)) (s, now, 0) k).1 ∧ (itr (yrF n) q k).2.2.2 = nI (itr (ysF (yD1 n) (yD2 n) (cAll n)) (s, now, 0) k).2.2 := by
  intro k
  refine itr_two (f := yrF n) (g := ysF (yD1 n) (yD2 n) (cAll n)) (x := q) (y := (s, now, 0)) (R := fun _ (a : yrT) (b : ysT) => a.1.1 = n ∧ relT a.1 b.2.1 ∧ a.2.1 = b.1 ∧ a.2.2.2 = nI b.2.2) ⟨h1, hR, hs, h0⟩ k (fun i a b _ ⟨a1, a2, a3, a4⟩ => ?_)
  obtain ⟨t, sd, f, c⟩ := a
  obtain ⟨s', nw, c'⟩ := b
  dsimp only at a1 a2 a3 a4
  subst a3 a4
  have key : (yrD n (t, sd, f, nI c')).1.1 = n ∧ relT (yrD n (t, sd, f, nI c')).1 (yD2 n sd nw) ∧ (yrD n (t, sd, f, nI c')).2 = yD1 n sd := by
    unfold yrD yD1 yD2
    by_cases c0 : n = 0
    · rw [if_pos c0, if_pos c0, if_pos c0]; exact ⟨a1, a2, rfl⟩
    · rw [if_neg c0, if_neg c0, if_neg c0]
      dsimp only
      rw [drV_N _ (show 0 < n by omega) (by omega), drV_N _ (show 0 < n by omega) (by omega), show (3 : Int32) = nI 3 from rfl, drV_N _ (show 0 < 3 by decide) (by decide)]
      have l1 := drN_lt (drS sd) (show 0 < n by omega)
      have l2 := drN_lt (drS (drS sd)) (show 0 < n by omega)
      have l3 := drN_lt (drS (drS (drS sd))) (show 0 < 3 by decide)
      obtain ⟨-, e2⟩ := tell_eq a2 (i := drN (drS sd) n) (j := drN (drS (drS sd)) n) (v := drN (drS (drS (drS sd))) 3) (by omega) (by omega) (by omega)
      rw [a1] at e2
      exact ⟨tellO_n.trans a1, e2, rfl⟩
  obtain ⟨k1, k2, k3⟩ := key
  show (yrD n (t, sd, f, nI c')).1.1 = n ∧ relT (yrD n (t, sd, f, nI c')).1 (yD2 n sd nw) ∧ (yrD n (t, sd, f, nI c')).2 = yD1 n sd ∧ (if (amgO (yrD n (t, sd, f, nI c')).1 f (2 ^ n - 1)).1 = true then nI c' + 1 else nI c') = nI (c' + (if 0 < cAll n (yD2 n sd nw) then 1 else 0))
  refine ⟨k1, k2, k3, ?_⟩
  generalize yD2 n sd nw = nw' at *
  generalize (yrD n (t, sd, f, nI c')).1 = t' at *
  obtain ⟨n', rm, mt, nt, fm, vr⟩ := t'
  have k1 : n' = n := k1
  subst k1
  have e := full_eq (vr := vr) k2.2.1 k2.2.2 k2.1.2.1 f
  by_cases c1 : (amgO (n', rm, mt, nt, fm, vr) f (2 ^ n' - 1)).1 = true
  · rw [if_pos c1, if_pos (show 0 < cAll n' nw' from e.mpr c1), ← nI_add]; rfl
  · rw [if_neg c1, if_neg (show ¬ 0 < cAll n' nw' from fun z => c1 (e.mp z)), Nat.add_zero]

