/-! what is told, on both sides -/
theorem tab_cg {n : Nat} {p p' : Nat → Nat → Bool} (hp : pOK n p) (h : ∀ s i, s < 3 ^ n → i < n → p s i = p' s i) : ∀ s, s < 3 ^ n → tabN n p s = tabN n p' s := by
  have hT := tab_cnt n p
  have hU := tab_cnt n p'
  refine cnt_un hp hT ⟨hU.1, fun s hs => ?_⟩
  rw [hU.2 s hs]
  refine sumN_cg n (fun i hi => ?_)
  rw [h s i (by omega) hi]
/-- rows of meetings as they must be -/
def gdT (n : Nat) (mt nt : Nat → Nat) : Prop := n ≤ 7 ∧ (∀ i, i < n → mt i < 2 ^ n ∧ nt i < 2 ^ n) ∧ (∀ i j, i < n → j < n → (mt i).testBit j = (mt j).testBit i ∧ (nt i).testBit j = (nt j).testBit i) ∧ (∀ i, i < n → (mt i).testBit i = false ∧ (nt i).testBit i = false) ∧ ∀ i j, i < n → ¬ ((mt i).testBit j = true ∧ (nt i).testBit j = true)
/-- the model's row says what is told -/
def nowR (n : Nat) (rm mt nt : Nat → Nat) (fm : Bool) (now : Nat → Int32) : Prop := (∀ i j, i < n → j < n → i ≠ j → now (7 * i + j) = nI (abt mt nt i j)) ∧ (∀ g, g < n → now (49 + g) = nI (rm g)) ∧ now 56 = (if fm then 1 else 0)
section N5
variable {n : Nat} {rm mt nt : Nat → Nat} {fm : Bool} {now : Nat → Int32}
theorem bit_n {x k : Nat} (hx : x < 2 ^ n) (hk : n ≤ k) : x.testBit k = false := Nat.testBit_lt_two_pow (Nat.lt_of_lt_of_le hx (Nat.pow_le_pow_right (n := 2) (by decide) hk))
theorem abt_1 {i j : Nat} : (abt mt nt i j = 1) = ((mt i).testBit j = true) := by
  unfold abt
  cases c1 : (mt i).testBit j <;> cases c2 : (nt i).testBit j <;> simp
theorem abt_0 (hd : ∀ i j, i < n → ¬ ((mt i).testBit j = true ∧ (nt i).testBit j = true)) {i j : Nat} (hi : i < n) : (abt mt nt i j = 0) = ((nt i).testBit j = true) := by
  have := hd i j hi
  unfold abt
  cases c1 : (mt i).testBit j <;> cases c2 : (nt i).testBit j <;> simp_all
theorem abt_2 {i j : Nat} : (abt mt nt i j = 2) = ((mt i).testBit j = false ∧ (nt i).testBit j = false) := by
  unfold abt
  cases c1 : (mt i).testBit j <;> cases c2 : (nt i).testBit j <;> simp
theorem now_v (hR : nowR n rm mt nt fm now) {i j v : Nat} (hi : i < n) (hj : j < n) (hij : i ≠ j) (hv : v < 1000) : (now (7 * i + j) = nI v) = (abt mt nt i j = v) := by
  rw [hR.1 i j hi hj hij]
  have := abt_le mt nt i j
  exact nI_eqI (by omega) (by omega)
theorem tho_1 (hg : gdT n mt nt) (hR : nowR n rm mt nt fm now) {g : Nat} (h : g < n) : thoV now n g 1 = mt g := by
  obtain ⟨g1, g2, g3, g4, g5⟩ := hg
  apply Nat.eq_of_testBit_eq
  intro b
  rw [thoV_bit]
  by_cases c1 : b < n
  · by_cases c2 : b = g
    · subst c2
      rw [(g4 b h).1, decide_eq_false (fun q => q.2.1 rfl)]
    · have e : (now (7 * g + b) = 1) = (abt mt nt g b = 1) := now_v hR (v := 1) h c1 (fun e => c2 e.symm) (by decide)
      simp only [e, abt_1]
      cases c3 : (mt g).testBit b <;> simp [c1, c2]
  · rw [decide_eq_false (fun q => c1 q.1), bit_n (g2 g h).1 (by omega)]
theorem tho_0 (hg : gdT n mt nt) (hR : nowR n rm mt nt fm now) {g : Nat} (h : g < n) : thoV now n g 0 = nt g := by
  obtain ⟨g1, g2, g3, g4, g5⟩ := hg
  apply Nat.eq_of_testBit_eq
  intro b
  rw [thoV_bit]
  by_cases c1 : b < n
  · by_cases c2 : b = g
    · subst c2
      rw [(g4 b h).2, decide_eq_false (fun q => q.2.1 rfl)]
    · have e : (now (7 * g + b) = 0) = (abt mt nt g b = 0) := now_v hR (v := 0) h c1 (fun e => c2 e.symm) (by decide)
      simp only [e, abt_0 g5 h]
      cases c3 : (nt g).testBit b <;> simp [c1, c2]
  · rw [decide_eq_false (fun q => c1 q.1), bit_n (g2 g h).2 (by omega)]
theorem tho_2 (hR : nowR n rm mt nt fm now) {g : Nat} (h : g < n) (b : Nat) : (thoV now n g 2).testBit b = decide (b < n ∧ b ≠ g ∧ (mt g).testBit b = false ∧ (nt g).testBit b = false) := by
  rw [thoV_bit]
  by_cases c1 : b < n
  · by_cases c2 : b = g
    · simp [c2]
    · have e : (now (7 * g + b) = 2) = (abt mt nt g b = 2) := now_v hR (v := 2) h c1 (fun e => c2 e.symm) (by decide)
      simp only [e, abt_2]
  · simp [c1]
theorem rmF_bit (now : Nat → Int32) (g : Nat) : ∀ k b, (itr (rmF now g) 0 k).testBit b = decide (b < k ∧ now 56 = 1 ∧ b ≠ g ∧ now (49 + b) = now (49 + g)) := by
  intro k
  induction k with
  | zero => intro b; rw [itr_0, Nat.zero_testBit, decide_eq_false (fun q => Nat.not_lt_zero _ q.1)]
  | succ k ih =>
    intro b
    rw [itr_s]
    generalize itr (rmF now g) 0 k = r at *
    unfold rmF
    by_cases c : now 56 = 1 ∧ k ≠ g ∧ now (49 + k) = now (49 + g)
    · rw [if_pos c, Nat.testBit_or, ih, Nat.testBit_two_pow]
      by_cases c2 : k = b
      · subst c2; simp [c.1, c.2.1, c.2.2]
      · simp only [c2, decide_false, Bool.or_false]
        congr 1
        apply propext
        constructor
        · exact fun q => ⟨by omega, q.2⟩
        · exact fun q => ⟨by have := q.1; omega, q.2⟩
    · rw [if_neg c, ih]
      congr 1
      apply propext
      constructor
      · exact fun q => ⟨by omega, q.2⟩
      · refine fun q => ⟨?_, q.2⟩
        have h1 : b ≠ k := fun e => c (e ▸ q.2)
        have := q.1
        omega
theorem matesTo_bit (rm : Nat → Nat) (g : Nat) : ∀ k b, (matesTo rm g k).testBit b = decide (b < k ∧ b ≠ g ∧ rm b = rm g) := by
  intro k
  induction k with
  | zero => intro b; rw [decide_eq_false (fun q => Nat.not_lt_zero _ q.1)]; exact Nat.zero_testBit _
  | succ k ih =>
    intro b
    show (if k ≠ g ∧ rm k = rm g then matesTo rm g k ||| 2 ^ k else matesTo rm g k).testBit b = _
    by_cases c : k ≠ g ∧ rm k = rm g
    · rw [if_pos c, Nat.testBit_or, ih, Nat.testBit_two_pow]
      by_cases c2 : k = b
      · subst c2; simp [c.1, c.2]
      · simp only [c2, decide_false, Bool.or_false]
        congr 1
        apply propext
        constructor
        · exact fun q => ⟨by omega, q.2⟩
        · exact fun q => ⟨by have := q.1; omega, q.2⟩
    · rw [if_neg c, ih]
      congr 1
      apply propext
      constructor
      · exact fun q => ⟨by omega, q.2⟩
      · refine fun q => ⟨?_, q.2⟩
        have h1 : b ≠ k := fun e => c (e ▸ q.2)
        have := q.1
        omega
theorem rm_m (hr : ∀ i, rm i ≤ 9) (hR : nowR n rm mt nt fm now) {g : Nat} (h : g < n) : rmV now n g = matesOf n rm fm g := by
  apply Nat.eq_of_testBit_eq
  intro b
  unfold rmV matesOf
  rw [rmF_bit, hR.2.2]
  cases fm
  · simp
  · simp only [if_true, true_and]
    rw [matesTo_bit]
    by_cases c1 : b < n
    · have e : (now (49 + b) = now (49 + g)) = (rm b = rm g) := by
        rw [hR.2.1 b c1, hR.2.1 g h]
        exact nI_eqI (by have := hr b; omega) (by have := hr g; omega)
      simp only [e]
    · simp [c1]
/-- the model's count, a function of what is told alone -/
def mTab (now : Nat → Int32) (n : Nat) : Nat → Nat := tabN n (qOf (ldB iV gV (fun i => thoV now n i 0) (fun i => thoV now n i 1) (fun i => rmV now n i)))
theorem ld_cg {iN gN nN mN rN nN' mN' rN' : Nat → Nat} (h1 : ∀ i, i < n → nN i = nN' i) (h2 : ∀ i, i < n → mN i = mN' i) (h3 : ∀ i, i < n → rN i = rN' i) {s e : Nat} (he : e < 2 * n) : ldB iN gN nN mN rN s e = ldB iN gN nN' mN' rN' s e := by
  unfold ldB mcB
  rw [h1 (e / 2) (by omega), h2 (e / 2) (by omega), h3 (e / 2) (by omega)]
theorem md_T (hn : n ≤ 7) (q : lrT) (wy : Nat → Int64) : ∀ s, s < 3 ^ n → wyV iV gV (ruV now n q) n 7 (-1) wy s = lN (mTab now n s) := by
  intro s hs
  show dtr (lwS (ldB iV gV (ruV now n q).1 (ruV now n q).2.1 (ruV now n q).2.2) iV n (3 ^ n - 1) 7 (-1)) (3 ^ n) wy s = _
  rw [wy_tab (tb_dig hn) hn iV_lt wy s hs]
  congr 1
  refine tab_cg (q_ok (tb_dig hn) hn) (fun s i hs hi => ?_) s hs
  unfold qOf
  rw [ld_cg (n := n) (fun i hi => (ruV_at q hi).1) (fun i hi => (ruV_at q hi).2.1) (fun i hi => (ruV_at q hi).2.2) (show 2 * i < 2 * n by omega), ld_cg (n := n) (fun i hi => (ruV_at q hi).1) (fun i hi => (ruV_at q hi).2.1) (fun i hi => (ruV_at q hi).2.2) (show 2 * i + 1 < 2 * n by omega)]
def barN (n : Nat) (rm nt : Nat → Nat) (fm : Bool) (i : Nat) : Nat := nt i ||| matesOf n rm fm i
def cTab (n : Nat) (rm mt nt : Nat → Nat) (fm : Bool) : Nat → Nat := tabN n (posC mt (barN n rm nt fm) iV gV)
theorem good_0 : goodS n mt 0 := by
  intro i hi h
  have : dg 0 i = 0 := by unfold dg; rw [Nat.zero_div]
  omega
theorem both_T (hr : ∀ i, rm i ≤ 9) (hg : gdT n mt nt) (hR : nowR n rm mt nt fm now) {s : Nat} (hs : s < 3 ^ n) (hgo : goodS n mt s) : cTab n rm mt nt fm s = mTab now n s := by
  have hn := hg.1
  refine two_eq hn (tb_dig hn) iV_lt gV_lt (fun i j hi hj => (hg.2.2.1 i j hi hj).1) (fun i hi => (hg.2.1 i hi).1) (fun i hi => tho_1 hg hR hi) (fun i hi => ?_) s hs hgo
  show thoV now n i 0 ||| rmV now n i = nt i ||| matesOf n rm fm i
  rw [tho_0 hg hR hi, rm_m hr hR hi]
theorem dig_eq {a b a' b' : Nat → Nat} {N : Nat} (h1 : digOK (a, b) N) (h2 : digOK (a', b') N) (ha : ∀ s, a s < 128) (hb : ∀ s, b s < 128) (ha' : ∀ s, a' s < 128) (hb' : ∀ s, b' s < 128) {s : Nat} (hs : s < N) : a s = a' s ∧ b s = b' s := by
  constructor
  · apply Nat.eq_of_testBit_eq
    intro k
    by_cases c : k < 7
    · rw [(h1 s hs k c).1, (h2 s hs k c).1]
    · rw [bit_out (ha s) (by omega), bit_out (ha' s) (by omega)]
  · apply Nat.eq_of_testBit_eq
    intro k
    by_cases c : k < 7
    · rw [(h1 s hs k c).2, (h2 s hs k c).2]
    · rw [bit_out (hb s) (by omega), bit_out (hb' s) (by omega)]
/-- the class's rows are the count and who may be next -/
theorem cd_T {vr : Int32} {o : cOrd} (hn : n ≤ 7) (hW : odW o) (hO : odT (n, rm, mt, nt, fm, vr) o) : (∀ s, s < 3 ^ n → o.2.2.2.2.1 1 s = lN (cTab n rm mt nt fm s)) ∧ ∀ s, s < 3 ^ n - 1 → ∀ j, (o.2.2.2.1 2 s).testBit j = decide (j < n ∧ posC mt (barN n rm nt fm) iV gV s j = true ∧ ¬ cTab n rm mt nt fm (s + 3 ^ j) = 0) := by
  obtain ⟨-, -, hA0, hA1, hD⟩ := hW
  obtain ⟨-, -, -, hl, h1, -, h2, h3⟩ := hO
  simp only at hl h1 h2 h3
  have hD' : digOK (o.2.2.2.1 0, o.2.2.2.1 1) (3 ^ n) := fun s hs => hD s (by omega)
  refine od_tab hn posC_ok h1 h2 (fun s hs i hi => ?_)
  rw [h3 s hs i hi]
  obtain ⟨e1, e2⟩ := dig_eq hD' (tb_dig hn) hA0 hA1 iV_lt gV_lt hs
  unfold posB posC barN
  simp only
  rw [e1, e2]
end N5

