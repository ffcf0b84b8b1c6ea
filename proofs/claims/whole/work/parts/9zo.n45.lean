/-! who alone can have lied; the fewest among whom it can't have been -/
theorem bit_i {x i : Nat} {c : Nat} (h : i < 7) (hc : c < 7) : (127 - 2 ^ c).testBit i = decide (i ≠ c) := by
  have key : ∀ c, c < 7 → ∀ i, i < 7 → (127 - 2 ^ c).testBit i = decide (i ≠ c) := by decide
  exact key c hc i h
theorem all_bit {n : Nat} (i : Nat) : (2 ^ n - 1).testBit i = decide (i < n) := Nat.testBit_two_pow_sub_one n i
theorem two7 {n : Nat} (hn : n ≤ 7) : 2 ^ n ≤ 128 := Nat.pow_le_pow_right (n := 2) (j := 7) (by decide) hn
section N45
variable {n : Nat} {rm mt nt : Nat → Nat} {fm : Bool} {now : Nat → Int32} {vr : Int32}
theorem alF_at {g : Nat} {q : nnT} : ∀ k i, (itr (alF g) q k).1 i = (if i < k then q.1 i &&& (127 - 2 ^ g) else q.1 i) ∧ (itr (alF g) q k).2 i = (if i < k then q.2 i &&& (127 - 2 ^ g) else q.2 i) := by
  intro k
  induction k with
  | zero => intro i; exact ⟨rfl, rfl⟩
  | succ k ih =>
    intro i
    rw [itr_s]
    have ihk := ih k
    have ih := ih i
    generalize itr (alF g) q k = w at *
    show z_up w.1 k (w.1 k &&& (127 - 2 ^ g)) i = _ ∧ z_up w.2 k (w.2 k &&& (127 - 2 ^ g)) i = _
    by_cases c : i = k
    · subst c
      rw [if_neg (Nat.lt_irrefl _), if_neg (Nat.lt_irrefl _)] at ihk
      rw [zup_eq, zup_eq, if_pos (Nat.lt_succ_self _), if_pos (Nat.lt_succ_self _), ihk.1, ihk.2]
      exact ⟨rfl, rfl⟩
    · rw [zup_ne _ _ c, zup_ne _ _ c, ih.1, ih.2]
      by_cases d : i < k
      · rw [if_pos d, if_pos d, if_pos (by omega), if_pos (by omega)]; exact ⟨rfl, rfl⟩
      · rw [if_neg d, if_neg d, if_neg (by omega), if_neg (by omega)]; exact ⟨rfl, rfl⟩
theorem dg_z (i : Nat) : dg 0 i = 0 := by unfold dg; rw [Nat.zero_div]
/-- one guest's words set aside: both find alike whether it can have been -/
theorem wth_eq (hg : gdT n mt nt) (hR : nowR n rm mt nt fm now) (hr : ∀ i, rm i ≤ 9) {g : Nat} (hgn : g < n) (f : cFits) (q : lrT) (w : Nat → Int64) : (0 < alW now iV gV n g q w 0) ↔ (wthO (n, rm, mt, nt, fm, vr) f g).1 = true := by
  have hn := hg.1
  have h3 := p3_pos n
  have hD := tb_dig hn
  have hlow := Nat.pow_le_pow_right (n := 2) (j := 7) (by decide) hn
  have rw_ := fun i (hi : i < n) => ruV_at (now := now) (n := n) q hi
  have m1 : ∀ i, i < n → (alP now n g q).2 i = mt i &&& hrd n g i := by
    intro i hi
    unfold alP hrd
    rw [(alF_at n i).2, if_pos hi]
    by_cases c : i = g
    · subst c
      show z_up _ i 0 i &&& _ = _
      rw [zup_eq, if_pos rfl, Nat.zero_and, Nat.and_zero]
    · show z_up _ g 0 i &&& _ = _
      rw [zup_ne _ _ c, if_neg c, (rw_ i hi).2.1, tho_1 hg hR hi, ← Nat.and_assoc]
      congr 1
      apply Nat.eq_of_testBit_eq
      intro b
      rw [Nat.testBit_and, all_bit]
      by_cases d : b < n
      · rw [decide_eq_true d, Bool.and_true]
      · rw [bit_n (hg.2.1 i hi).1 (by omega), Bool.false_and]
  have n1 : ∀ i, i < n → (alP now n g q).1 i = nt i &&& hrd n g i := by
    intro i hi
    unfold alP hrd
    rw [(alF_at n i).1, if_pos hi]
    by_cases c : i = g
    · subst c
      show z_up _ i 0 i &&& _ = _
      rw [zup_eq, if_pos rfl, Nat.zero_and, Nat.and_zero]
    · show z_up _ g 0 i &&& _ = _
      rw [zup_ne _ _ c, if_neg c, (rw_ i hi).1, tho_0 hg hR hi, ← Nat.and_assoc]
      congr 1
      apply Nat.eq_of_testBit_eq
      intro b
      rw [Nat.testBit_and, all_bit]
      by_cases d : b < n
      · rw [decide_eq_true d, Bool.and_true]
      · rw [bit_n (hg.2.1 i hi).2 (by omega), Bool.false_and]
  have hb : ∀ i b, i < n → (mt i &&& hrd n g i).testBit b = decide ((mt i).testBit b = true ∧ i ≠ g ∧ b ≠ g) := by
    intro i b hi
    unfold hrd
    rw [Nat.testBit_and]
    by_cases c : i = g
    · rw [if_pos c, Nat.zero_testBit, Bool.and_false, decide_eq_false (fun z => z.2.1 c)]
    · rw [if_neg c, Nat.testBit_and, all_bit]
      by_cases d : b < n
      · rw [bit_i (x := 0) (by omega) (by omega), decide_eq_true d, Bool.true_and]
        cases e : (mt i).testBit b
        · simp
        · simp [c]
      · rw [bit_n (hg.2.1 i hi).1 (by omega), Bool.false_and]
        exact (decide_eq_false (fun z => absurd z.1 Bool.false_ne_true)).symm
  have key := fits_eq hn (nd := pre (fun i => mt i &&& hrd n g i) f.1 n) (br := pre (fun i => nt i &&& hrd n g i ||| matesOf n rm fm i) f.2.1 n) (nN := (alP now n g q).1) (mN := (alP now n g q).2) (rN := (ruV now n q).2.2) (s := 2 ^ n - 1) (rc := f.2.2) (by have : 0 < 2 ^ n := Nat.pow_pos (by decide); omega) (fun i hi => by unfold pre; rw [if_pos hi, m1 i hi]) (fun i hi => by unfold pre; rw [if_pos hi, n1 i hi, (rw_ i hi).2.2, rm_m hr hR hi]) (fun i hi => by
      unfold pre
      rw [if_pos hi]
      intro b h
      rw [hb i b hi] at h
      have h := of_decide_eq_true h
      rw [all_bit]
      refine decide_eq_true ?_
      rcases Nat.lt_or_ge b n with c | c
      · exact c
      · rw [bit_n (hg.2.1 i hi).1 c] at h; exact absurd h.1 (by decide)) (fun i j hi hj _ _ => by
      unfold pre
      rw [if_pos hi, if_pos hj, hb i j hi, hb j i hj, (hg.2.2.1 i j hi hj).1]
      exact decide_eq_decide.mpr ⟨fun z => ⟨z.1, z.2.2, z.2.1⟩, fun z => ⟨z.1, z.2.2, z.2.1⟩⟩) (x0 := 0) h3 (fun i hi => by rw [dg_z, all_bit, decide_eq_true hi, if_pos rfl])
  have ew : alW now iV gV n g q w 0 = lN (tabN n (qOf (ldB iV gV (alP now n g q).1 (alP now n g q).2 (ruV now n q).2.2)) 0) := wy_tab hD hn iV_lt w 0 h3
  rw [ew, lN_pos' (cnt_le hn (q_ok hD hn) (tab_cnt _ _) h3), Nat.pos_iff_ne_zero]
  exact key
theorem alone_eq (hg : gdT n mt nt) (hR : nowR n rm mt nt fm now) (hr : ∀ i, rm i ≤ 9) (f : cFits) (q : lrT) (w : Nat → Int64) : (itr (aloF (n, rm, mt, nt, fm, vr)) (0, f) n).1 = (malV now iV gV n q w).1 := by
  refine itr_two (R := fun _ (a : Nat × cFits) (b : alT) => a.1 = b.1) (f := aloF (n, rm, mt, nt, fm, vr)) (g := alG now iV gV n) (x := (0, f)) (y := (0, q, w)) rfl n (fun i a b hi h => ?_)
  have e := wth_eq (vr := vr) hg hR hr hi a.2 b.2.1 b.2.2
  show (if (wthO (n, rm, mt, nt, fm, vr) a.2 i).1 = true then a.1 ||| 2 ^ i else a.1) = (if 0 < alW now iV gV n i b.2.1 b.2.2 0 then b.1 ||| 2 ^ i else b.1)
  rw [h]
  by_cases c : (wthO (n, rm, mt, nt, fm, vr) a.2 i).1 = true
  · rw [if_pos c, if_pos (e.mpr c)]
  · rw [if_neg c, if_neg (fun z => c (e.mp z))]
theorem cbF_dig (x : Nat) : ∀ k, itr (cbF x) 0 k < 3 ^ k ∧ ∀ i, dg (itr (cbF x) 0 k) i = if i < k ∧ x.testBit i = false then 2 else 0 := by
  intro k
  induction k with
  | zero => exact ⟨by show 0 < 1; decide, fun i => by rw [itr_0, dg_z, if_neg (fun z => absurd z.1 (Nat.not_lt_zero _))]⟩
  | succ k ih =>
    obtain ⟨h1, h2⟩ := ih
    rw [itr_s]
    generalize itr (cbF x) 0 k = r at *
    have e3 : 3 ^ (k + 1) = 3 ^ k * 3 := Nat.pow_succ _ _
    have hp := p3_pos k
    unfold cbF
    by_cases c : x.testBit k = true
    · rw [if_pos c, Nat.add_zero]
      refine ⟨by omega, fun i => ?_⟩
      rw [h2 i]
      by_cases d : i = k
      · subst d
        rw [if_neg (fun z => absurd z.1 (Nat.lt_irrefl _)), if_neg (fun z => by rw [c] at z; exact absurd z.2 (by decide))]
      · by_cases e : i < k ∧ x.testBit i = false
        · rw [if_pos e, if_pos ⟨by omega, e.2⟩]
        · rw [if_neg e, if_neg (fun z => e ⟨by omega, z.2⟩)]
    · have c' : x.testBit k = false := by cases e : x.testBit k <;> simp_all
      rw [if_neg c]
      have h0 : dg r k = 0 := dg_hi h1 (Nat.le_refl _)
      obtain ⟨a1, a2⟩ := dg_step (s := r) (i := k) (by omega)
      obtain ⟨b1, b2⟩ := dg_step (s := r + 3 ^ k) (i := k) (by omega)
      rw [show r + 2 * 3 ^ k = r + 3 ^ k + 3 ^ k by omega]
      refine ⟨by omega, fun i => ?_⟩
      by_cases d : i = k
      · subst d
        rw [b1, a1, h0, if_pos ⟨Nat.lt_succ_self _, c'⟩]
      · rw [b2 i d, a2 i d, h2 i]
        by_cases e : i < k ∧ x.testBit i = false
        · rw [if_pos e, if_pos ⟨by omega, e.2⟩]
        · rw [if_neg e, if_neg (fun z => e ⟨by omega, z.2⟩)]
theorem cbM_at {x : Nat} {f : Nat → Nat} : ∀ k i, itr (cbM x) f k i = if i < k then f i &&& x else f i := by
  intro k
  induction k with
  | zero => intro i; rfl
  | succ k ih =>
    intro i
    rw [itr_s]
    have ihk := ih k
    have ih := ih i
    generalize itr (cbM x) f k = w at *
    show z_up w k (w k &&& x) i = _
    by_cases c : i = k
    · subst c
      rw [if_neg (Nat.lt_irrefl _)] at ihk
      rw [zup_eq, if_pos (Nat.lt_succ_self _), ihk]
    · rw [zup_ne _ _ c, ih]
      by_cases d : i < k
      · rw [if_pos d, if_pos (by omega)]
      · rw [if_neg d, if_neg (by omega)]
/-- some alone: both find alike whether it can have been -/
theorem amg_eq (hg : gdT n mt nt) (hR : nowR n rm mt nt fm now) (hr : ∀ i, rm i ≤ 9) {x : Nat} (hx : x < 2 ^ n) (f : cFits) (q : lrT) (w : Nat → Int64) : cbB now iV gV n x q w = (amgO (n, rm, mt, nt, fm, vr) f x).1 := by
  have hn := hg.1
  have h3 := p3_pos n
  have hD := tb_dig hn
  have rw_ := fun i (hi : i < n) => ruV_at (now := now) (n := n) q hi
  obtain ⟨d1, d2⟩ := cbF_dig x n
  have key := fits_eq hn (nd := pre (fun i => mt i &&& x) f.1 n) (br := pre (fun i => nt i ||| matesOf n rm fm i) f.2.1 n) (nN := (cbQ now n x q).1) (mN := (cbQ now n x q).2.1) (rN := (cbQ now n x q).2.2) (s := x) (rc := f.2.2) hx (fun i hi => by
      unfold pre cbQ
      dsimp only
      rw [if_pos hi, cbM_at, if_pos hi, (rw_ i hi).2.1, tho_1 hg hR hi]) (fun i hi => by
      unfold pre cbQ
      dsimp only
      rw [if_pos hi, (rw_ i hi).1, (rw_ i hi).2.2, rm_m hr hR hi, tho_0 hg hR hi]) (fun i hi => by
      unfold pre
      rw [if_pos hi]
      intro b h
      rw [Nat.testBit_and] at h
      exact ((Bool.and_eq_true _ _).mp h).2) (fun i j hi hj si sj => by
      unfold pre
      rw [if_pos hi, if_pos hj, Nat.testBit_and, Nat.testBit_and, si, sj, Bool.and_true, Bool.and_true, (hg.2.2.1 i j hi hj).1]) (x0 := itr (cbF x) 0 n) d1 (fun i hi => by
      rw [d2 i]
      cases e : x.testBit i
      · rw [if_pos ⟨hi, rfl⟩, if_neg (by decide)]
      · rw [if_neg (fun z => absurd z.2 (by decide)), if_pos rfl])
  have ew : cbW now iV gV n x q w (itr (cbF x) 0 n) = lN (tabN n (qOf (ldB iV gV (cbQ now n x q).1 (cbQ now n x q).2.1 (cbQ now n x q).2.2)) (itr (cbF x) 0 n)) := wy_tab hD hn iV_lt w _ d1
  have e0 : (0 < cbW now iV gV n x q w (itr (cbF x) 0 n)) ↔ (amgO (n, rm, mt, nt, fm, vr) f x).1 = true := by
    rw [ew, lN_pos' (cnt_le hn (q_ok hD hn) (tab_cnt _ _) d1), Nat.pos_iff_ne_zero]
    exact key
  unfold cbB
  rw [show (amgO (n, rm, mt, nt, fm, vr) f x).1 = decide ((amgO (n, rm, mt, nt, fm, vr) f x).1 = true) by cases (amgO (n, rm, mt, nt, fm, vr) f x).1 <;> rfl]
  exact decide_eq_decide.mpr e0
end N45
/-- if all can have come, every few of them can -/
theorem acm_sub {nd nd' br br' : Nat → Nat} {s x : Nat} {rc rc' : Nat → Bool} (hs : s < 128) (hx : x < 128) (hnd : ∀ i, i < 7 → x.testBit i = true → ∀ j, (nd' i).testBit j = true → (nd i).testBit j = true ∧ x.testBit j = true) (hn1 : ∀ i, i < 7 → x.testBit i = true → nd i < 128 ∧ nd' i < 128) (hbr : ∀ i, i < 7 → x.testBit i = true → br' i = br i) : ∀ k c, k ≤ s → c < 128 → acm nd br s rc k c = true → acm nd' br' x rc' x (c &&& x) = true := by
  intro k
  induction k with
  | zero =>
    intro c _ hc h
    have h : fl0 rc c = true := h
    unfold fl0 at h
    rw [if_pos hc] at h
    rw [of_decide_eq_true h, Nat.zero_and]
    have := acm_up (nd := nd') (br := br') (s := x) (rc := rc') (k := 0) (x := 0) (by show fl0 rc' 0 = true; unfold fl0; rw [if_pos (by decide)]; rfl) x
    rw [Nat.zero_add] at this
    exact this
  | succ k ih =>
    intro c hk hc h
    rcases (acm_s k c).mp h with h | ⟨h1, g, g1, g2, g3, g4⟩
    · exact ih c (by omega) hc h
    · have ik := ih k (by omega) (by omega) h1
      rw [and_bit, cpl_bit (by omega)] at g2
      have kg : k.testBit g = false := by
        cases e : k.testBit g
        · rfl
        · rw [e] at g2; simp at g2
      rw [g4]
      by_cases c2 : x.testBit g = true
      · have e : (k ||| 2 ^ g) &&& x = (k &&& x) ||| 2 ^ g := by
          apply Nat.eq_of_testBit_eq
          intro b
          rw [Nat.testBit_and, Nat.testBit_or, Nat.testBit_or, Nat.testBit_and, Nat.testBit_two_pow]
          by_cases d : g = b
          · subst d; simp [c2]
          · simp [d]
        rw [e]
        have kx : (k &&& x).testBit g = false := by rw [Nat.testBit_and, kg, Bool.false_and]
        have lt : k &&& x < x := by
          have l1 : k &&& x ≤ x := Nat.and_le_right
          rcases Nat.lt_or_ge (k &&& x) x with q | q
          · exact q
          · have : k &&& x = x := by omega
            rw [this, c2] at kx
            exact absurd kx (by decide)
        refine acm_cl hx lt ik g1 c2 kx ?_
        rw [hbr g g1 c2, and0]
        rw [and0] at g3
        intro b ⟨b1, b2⟩
        refine g3 b ⟨b1, ?_⟩
        rw [stl_bit] at b2 ⊢
        obtain ⟨q1, q2, q3⟩ := of_decide_eq_true b2
        rw [Nat.testBit_and, Bool.and_eq_true] at q2
        refine decide_eq_true ⟨q1, q2.1, fun z => q3 ?_⟩
        obtain ⟨l1, l2⟩ := hn1 b q1 q2.2
        rw [sub_iff l1 (by omega)] at z
        rw [sub_iff l2 (q_and_lt (by omega))]
        intro j hj
        obtain ⟨w1, w2⟩ := hnd b q1 q2.2 j hj
        rw [Nat.testBit_and, z j w1, w2]
        rfl
      · have e : (k ||| 2 ^ g) &&& x = k &&& x := by
          apply Nat.eq_of_testBit_eq
          intro b
          rw [Nat.testBit_and, Nat.testBit_or, Nat.testBit_and, Nat.testBit_two_pow]
          by_cases d : g = b
          · subst d
            have c2' : x.testBit g = false := by cases e : x.testBit g <;> simp_all
            simp [c2']
          · simp [d]
        rw [e]
        exact ik
theorem pop_lt_all : ∀ n, n < 8 → ∀ x, x < 2 ^ n - 1 → pop x < pop (2 ^ n - 1) := by decide +kernel
section N45b
variable {n : Nat} {rm mt nt : Nat → Nat} {fm : Bool} {now : Nat → Int32} {vr : Int32}
theorem amg_mono (hg : gdT n mt nt) {x : Nat} (hx : x < 2 ^ n) (f f' : cFits) (h : (amgO (n, rm, mt, nt, fm, vr) f (2 ^ n - 1)).1 = true) : (amgO (n, rm, mt, nt, fm, vr) f' x).1 = true := by
  have hn := hg.1
  have h2 := two7 hn
  have h20 : 0 < 2 ^ n := Nat.pow_pos (by decide)
  have xn : ∀ i, x.testBit i = true → i < n := fun i hi => by
    rcases Nat.lt_or_ge i n with c | c
    · exact c
    · rw [bit_n hx c] at hi; exact absurd hi (by decide)
  have key := acm_sub (nd := pre (fun i => mt i &&& (2 ^ n - 1)) f.1 n) (nd' := pre (fun i => mt i &&& x) f'.1 n) (br := pre (fun i => nt i ||| matesOf n rm fm i) f.2.1 n) (br' := pre (fun i => nt i ||| matesOf n rm fm i) f'.2.1 n) (s := 2 ^ n - 1) (x := x) (rc := f.2.2) (rc' := f'.2.2) (by omega) (by omega) (fun i h7 hi j hj => by
      have := xn i hi
      unfold pre at hj ⊢
      rw [if_pos this] at hj ⊢
      rw [Nat.testBit_and, Bool.and_eq_true] at hj
      refine ⟨?_, hj.2⟩
      rw [Nat.testBit_and, hj.1, all_bit]
      exact decide_eq_true (xn j hj.2)) (fun i h7 hi => by
      have := xn i hi
      unfold pre
      rw [if_pos this, if_pos this]
      have := (hg.2.1 i this).1
      exact ⟨q_and_lt (by omega), q_and_lt (by omega)⟩) (fun i h7 hi => by
      have := xn i hi
      unfold pre
      rw [if_pos this, if_pos this]) (2 ^ n - 1) (2 ^ n - 1) (Nat.le_refl _) (by omega) h
  have e : (2 ^ n - 1) &&& x = x := by
    apply Nat.eq_of_testBit_eq
    intro b
    rw [Nat.testBit_and, all_bit]
    cases e : x.testBit b
    · rw [Bool.and_false]
    · rw [decide_eq_true (xn b e), Bool.and_true]
  rw [e] at key
  exact key
/-- the clash, on both sides -/
theorem clash_eq (hg : gdT n mt nt) (hR : nowR n rm mt nt fm now) (hr : ∀ i, rm i ≤ 9) (f : cFits) (ro : cRow) (q : lrT) (w : Nat → Int64) {r : alT} (hV : mclV now iV gV n q w = r) : (claO (n, rm, mt, nt, fm, vr) f ro).1 = (if r.1 = 0 then -2 else nI (pop r.1)) ∧ ((r.1 = 0 ∧ (claO (n, rm, mt, nt, fm, vr) f ro).2.2 = ro) ∨ (¬ r.1 = 0 ∧ (claO (n, rm, mt, nt, fm, vr) f ro).2.2 = (1, vp_updL ro.2 0 (lN r.1)))) := by
  have hn := hg.1
  have h2 := two7 hn
  have h20 : 0 < 2 ^ n := Nat.pow_pos (by decide)
  unfold claO
  dsimp only
  by_cases c : (amgO (n, rm, mt, nt, fm, vr) f (2 ^ n - 1)).1 = true
  · rw [if_pos c]
    have e : r.1 = 0 := by
      rw [← hV]
      refine itr_inv (N := 2 ^ n - 1) (f := clF now iV gV n) (fun _ (b : alT) => b.1 = 0) rfl (fun i b hi hb => ?_) _ (Nat.le_refl _)
      unfold clF
      rw [if_pos (Or.inl hb), amg_eq (vr := vr) hg hR hr (by omega) f, amg_mono hg (by omega) f f c, if_pos rfl]
      exact hb
    rw [if_pos e]
    exact ⟨rfl, Or.inl ⟨e, rfl⟩⟩
  · rw [if_neg c]
    have c' : (amgO (n, rm, mt, nt, fm, vr) f (2 ^ n - 1)).1 = false := by cases e : (amgO (n, rm, mt, nt, fm, vr) f (2 ^ n - 1)).1 <;> simp_all
    generalize (amgO (n, rm, mt, nt, fm, vr) f (2 ^ n - 1)).2 = f1
    have n0 : ¬ n = 0 := by
      intro z
      subst z
      have : (amgO (0, rm, mt, nt, fm, vr) f (2 ^ 0 - 1)).1 = true := by
        show fl0 f.2.2 0 = true
        unfold fl0
        rw [if_pos (by decide)]
        rfl
      rw [this] at c'
      exact absurd c' (by decide)
    have e2 : 2 ≤ 2 ^ n := by
      have := Nat.pow_le_pow_right (n := 2) (by decide) (show 1 ≤ n by omega)
      omega
    -- both loops side by side; the class is one set ahead
    have key : ∀ k, k + 1 ≤ 2 ^ n - 1 → ((itr (claF (n, rm, mt, nt, fm, vr)) (2 ^ n - 1, f1) (k + 1)).1 = 2 ^ n - 1 ∧ (itr (clF now iV gV n) (0, q, w) k).1 = 0) ∨ ((itr (claF (n, rm, mt, nt, fm, vr)) (2 ^ n - 1, f1) (k + 1)).1 = (itr (clF now iV gV n) (0, q, w) k).1 ∧ ¬ (itr (clF now iV gV n) (0, q, w) k).1 = 0) := by
      intro k
      induction k with
      | zero =>
        intro _
        refine Or.inl ⟨?_, rfl⟩
        rw [itr_s, itr_0]
        unfold claF
        dsimp only
        have : (amgO (n, rm, mt, nt, fm, vr) f1 0).1 = true := by
          show fl0 f1.2.2 0 = true
          unfold fl0
          rw [if_pos (by decide)]
          rfl
        rw [this]
        split <;> rfl
      | succ k ih =>
        intro hk
        have ih := ih (by omega)
        rw [itr_s (claF (n, rm, mt, nt, fm, vr)), itr_s (clF now iV gV n)]
        generalize itr (claF (n, rm, mt, nt, fm, vr)) (2 ^ n - 1, f1) (k + 1) = a at *
        generalize itr (clF now iV gV n) (0, q, w) k = b at *
        have ea := amg_eq (vr := vr) hg hR hr (show k + 1 < 2 ^ n by omega) a.2 b.2.1 b.2.2
        have ep := pop_lt_all n (by omega) (k + 1) (by omega)
        unfold claF clF
        rw [ea]
        rcases ih with ⟨i1, i2⟩ | ⟨i1, i2⟩
        · rw [i1, i2, if_pos ep, if_pos (Or.inl rfl)]
          cases e : (amgO (n, rm, mt, nt, fm, vr) a.2 (k + 1)).1
          · exact Or.inr ⟨rfl, by show ¬ k + 1 = 0; omega⟩
          · exact Or.inl ⟨rfl, rfl⟩
        · rw [i1]
          by_cases d : pop (k + 1) < pop b.1
          · rw [if_pos d, if_pos (Or.inr d)]
            cases e : (amgO (n, rm, mt, nt, fm, vr) a.2 (k + 1)).1
            · exact Or.inr ⟨rfl, by show ¬ k + 1 = 0; omega⟩
            · exact Or.inr ⟨rfl, i2⟩
          · rw [if_neg d, if_neg (by rintro (z | z); exact i2 z; exact d z)]
            exact Or.inr ⟨i1, i2⟩
    have k1 := key (2 ^ n - 2) (by omega)
    rw [show 2 ^ n - 2 + 1 = 2 ^ n - 1 by omega] at k1
    have er : r = clF now iV gV n (2 ^ n - 2) (itr (clF now iV gV n) (0, q, w) (2 ^ n - 2)) := by
      rw [← hV]
      unfold mclV
      rw [show 2 ^ n - 1 = 2 ^ n - 2 + 1 by omega]
      rfl
    have hb : (itr (clF now iV gV n) (0, q, w) (2 ^ n - 2)).1 < 2 ^ n := itr_inv (N := 2 ^ n - 2) (f := clF now iV gV n) (fun _ (b : alT) => b.1 < 2 ^ n) h20 (fun i b hi hb => by
      unfold clF
      split
      · show (if cbB now iV gV n (i + 1) b.2.1 b.2.2 = true then b.1 else i + 1) < 2 ^ n
        split
        · exact hb
        · omega
      · exact hb) _ (Nat.le_refl _)
    generalize itr (claF (n, rm, mt, nt, fm, vr)) (2 ^ n - 1, f1) (2 ^ n - 1) = a at *
    generalize itr (clF now iV gV n) (0, q, w) (2 ^ n - 2) = b at *
    have fin : a.1 = r.1 ∧ ¬ r.1 = 0 := by
      rw [er]
      unfold clF
      rw [show 2 ^ n - 2 + 1 = 2 ^ n - 1 by omega]
      have ea := amg_eq (vr := vr) hg hR hr (show 2 ^ n - 1 < 2 ^ n by omega) f b.2.1 b.2.2
      rw [ea, c']
      rcases k1 with ⟨i1, i2⟩ | ⟨i1, i2⟩
      · rw [if_pos (Or.inl i2)]
        exact ⟨i1, by show ¬ 2 ^ n - 1 = 0; omega⟩
      · have le : ¬ pop (2 ^ n - 1) < pop b.1 := by
          have := pop_all n (by omega) b.1 hb
          have h3 : ∀ n, n < 8 → pop (2 ^ n - 1) = n := by decide +kernel
          have := h3 n (by omega)
          omega
        rw [if_neg (by rintro (z | z); exact i2 z; exact le z)]
        exact ⟨i1, i2⟩
    rw [fin.1, if_neg fin.2]
    exact ⟨rfl, Or.inr ⟨fin.2, rfl⟩⟩
end N45b

