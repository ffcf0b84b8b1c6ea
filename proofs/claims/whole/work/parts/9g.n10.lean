/-! bounds of what is gathered; the model's sums -/
def tabW (n : Nat) (r : Nat → Nat → Bool) (w : Nat → Nat) : Nat → Nat := dtr (fun s f => z_up f s (w s + sumN (fun i => if r s i = true then f (s + 3 ^ i) else 0) n)) (3 ^ n) (fun _ => 0)
theorem tabW_at (n : Nat) (r : Nat → Nat → Bool) (w : Nat → Nat) : ∀ s, s < 3 ^ n → tabW n r w s = w s + sumN (fun i => if r s i = true then tabW n r w (s + 3 ^ i) else 0) n := by
  have key := dtr_tab (f := fun s f => z_up f s (w s + sumN (fun i => if r s i = true then f (s + 3 ^ i) else 0) n)) (fun t x j h => zup_ne _ _ h) (fun t x y h => by
    show z_up x t _ t = z_up y t _ t
    rw [zup_eq, zup_eq]
    congr 1
    refine sumN_cg n (fun i hi => ?_)
    have := p3_pos i
    rw [h (t + 3 ^ i) (by omega)]) (3 ^ n) (fun _ => 0)
  intro s hs
  have k := key s hs
  show dtr _ (3 ^ n) (fun _ => 0) s = _
  rw [k]
  exact zup_eq _ _ _
section N10
variable {n : Nat} {r q : Nat → Nat → Bool} {T w : Nat → Nat}
/-- a table that stays below the count -/
theorem W_le (hr : ∀ s i, s < 3 ^ n → i < n → r s i = true → s + 3 ^ i < 3 ^ n) (hT : ∀ s, s < 3 ^ n → w s + sumN (fun i => if r s i = true ∧ ¬ tabW n r w (s + 3 ^ i) = 0 then T (s + 3 ^ i) else 0) n ≤ T s) : ∀ s, s < 3 ^ n → tabW n r w s ≤ T s := by
  refine dw_ind (fun s hs ih => ?_)
  refine Nat.le_trans ?_ (hT s hs)
  rw [tabW_at n r w s hs]
  refine Nat.add_le_add_left (sumN_le n (fun i hi => ?_)) _
  by_cases c : r s i = true
  · rw [if_pos c]
    have hp := p3_pos i
    by_cases c2 : tabW n r w (s + 3 ^ i) = 0
    · rw [c2]; exact Nat.zero_le _
    · rw [if_pos ⟨c, c2⟩]
      exact ih _ (by omega) (hr s i hs hi c)
  · rw [if_neg c]; exact Nat.zero_le _
theorem W_0 (hr : ∀ s i, s < 3 ^ n → i < n → r s i = true → s + 3 ^ i < 3 ^ n) {z : Nat → Prop} (hz : ∀ s i, s < 3 ^ n → i < n → z s → r s i = true → z (s + 3 ^ i)) (hw : ∀ s, s < 3 ^ n → z s → w s = 0) : ∀ s, s < 3 ^ n → z s → tabW n r w s = 0 := by
  refine dw_ind (fun s hs ih hzs => ?_)
  rw [tabW_at n r w s hs, hw s hs hzs, Nat.zero_add]
  refine sumN_0 n (fun i hi => ?_)
  by_cases c : r s i = true
  · rw [if_pos c]
    have hp := p3_pos i
    exact ih _ (by omega) (hr s i hs hi c) (hz s i hs hi hzs c)
  · rw [if_neg c]
/-- the ways to a state, times the ways from it, are at most all -/
theorem aT_le (hr : ∀ s i, s < 3 ^ n → i < n → r s i = true → s + 3 ^ i < 3 ^ n) (hT : ∀ s, s < 3 ^ n → sumN (fun i => if r s i = true then T (s + 3 ^ i) else 0) n ≤ T s) {x : Nat} (hx : x < 3 ^ n) : aN r n x x * T x ≤ T 0 := by
  have h3 := p3_pos n
  have hd := dual (r := r) (n := n) (N := 3 ^ n) (V := tabW n r (fun s => if x = s then T x else 0)) (w := fun s => if x = s then T x else 0) h3 hr (fun s hs => tabW_at n r _ s hs)
  have e : sumN (fun s => aN r n (3 ^ n) s * (if x = s then T x else 0)) (3 ^ n) = aN r n x x * T x := by
    have e1 : sumN (fun s => aN r n (3 ^ n) s * (if x = s then T x else 0)) (3 ^ n) = sumN (fun s => if x = s then aN r n (3 ^ n) s * T x else 0) (3 ^ n) := by
      refine sumN_cg _ (fun s _ => ?_)
      by_cases c : x = s
      · rw [if_pos c, if_pos c]
      · rw [if_neg c, if_neg c, Nat.mul_zero]
    rw [e1, sumN_dl (f := fun s => aN r n (3 ^ n) s * T x), if_pos hx]
    have := aN_fin (r := r) (n := n) (t := x) (3 ^ n - x)
    rw [show x + (3 ^ n - x) = 3 ^ n by omega] at this
    rw [this]
  rw [← e, hd]
  have z0 := W_0 (w := fun s => if x = s then T x else 0) hr (z := fun s => x < s) (fun s i _ _ hz _ => by show x < s + 3 ^ i; have := p3_pos i; omega) (fun s _ hz => by rw [if_neg]; intro e; omega)
  refine W_le hr (fun s hs => ?_) 0 h3
  by_cases c : x = s
  · subst c
    rw [if_pos rfl]
    rw [sumN_0 n (fun i hi => ?_)]
    · exact Nat.le_refl _
    · by_cases c1 : r x i = true
      · have hp := p3_pos i
        rw [if_neg (fun z => z.2 (z0 _ (hr x i hs hi c1) (by omega)))]
      · rw [if_neg (fun z => c1 z.1)]
  · rw [if_neg c, Nat.zero_add]
    refine Nat.le_trans (sumN_le n (fun i _ => ?_)) (hT s hs)
    by_cases c1 : r s i = true
    · rw [if_pos c1]
      split
      · exact Nat.le_refl _
      · exact Nat.zero_le _
    · rw [if_neg c1, if_neg (fun z => c1 z.1)]
      exact Nat.le_refl _
/-- what is gathered where one guest comes is at most all -/
theorem gat_le (hq : pOK n q) (hT : cntT n q T) {a : Nat} (ha : a < n) {cd : Nat → Bool} : sumN (fun s => aN q n (3 ^ n) s * (if cd s = true ∧ q s a = true ∧ dg s a = 0 then T (s + 3 ^ a) else 0)) (3 ^ n) ≤ T 0 := by
  have h3 := p3_pos n
  have hr : ∀ s i, s < 3 ^ n → i < n → q s i = true → s + 3 ^ i < 3 ^ n := fun s i hs hi c => dg_add hi hs (hq s i hs hi c)
  rw [dual (r := q) (n := n) (N := 3 ^ n) (V := tabW n q (fun s => if cd s = true ∧ q s a = true ∧ dg s a = 0 then T (s + 3 ^ a) else 0)) (w := fun s => if cd s = true ∧ q s a = true ∧ dg s a = 0 then T (s + 3 ^ a) else 0) h3 hr (fun s hs => tabW_at n q _ s hs)]
  have z0 := W_0 (w := fun s => if cd s = true ∧ q s a = true ∧ dg s a = 0 then T (s + 3 ^ a) else 0) hr (z := fun s => ¬ dg s a = 0) (fun s i hs hi hz c => by
      obtain ⟨e1, e2⟩ := dg_step (hq s i hs hi c)
      by_cases e : a = i
      · rw [e, e1]; omega
      · rw [e2 a e]; exact hz) (fun s _ hz => by rw [if_neg (fun z => hz z.2.2)])
  refine W_le hr (fun s hs => ?_) 0 h3
  by_cases c : s = 3 ^ n - 1
  · have hd := dg_last ha
    rw [c, if_neg (fun z => by rw [hd] at z; exact absurd z.2.2 (by decide)), Nat.zero_add, hT.1]
    rw [sumN_0 n (fun i hi => ?_)]
    · decide
    · rw [if_neg]
      intro z
      have := hq (3 ^ n - 1) i (by omega) hi z.1
      have := dg_last hi
      omega
  · rw [hT.2 s (by omega)]
    have key := sumN_one (f := fun i => if q s i = true ∧ ¬ tabW n q (fun s => if cd s = true ∧ q s a = true ∧ dg s a = 0 then T (s + 3 ^ a) else 0) (s + 3 ^ i) = 0 then T (s + 3 ^ i) else 0) (g := fun i => if i = a then 0 else (if q s i = true ∧ ¬ tabW n q (fun s => if cd s = true ∧ q s a = true ∧ dg s a = 0 then T (s + 3 ^ a) else 0) (s + 3 ^ i) = 0 then T (s + 3 ^ i) else 0)) (k := a) n ha (fun i _ hi => by rw [if_neg hi])
    rw [if_pos rfl, Nat.add_zero] at key
    have k2 := sumN_one (f := fun i => if q s i = true then T (s + 3 ^ i) else 0) (g := fun i => if i = a then 0 else (if q s i = true then T (s + 3 ^ i) else 0)) (k := a) n ha (fun i _ hi => by rw [if_neg hi])
    rw [if_pos rfl, Nat.add_zero] at k2
    have k3 : sumN (fun i => if i = a then 0 else (if q s i = true ∧ ¬ tabW n q (fun s => if cd s = true ∧ q s a = true ∧ dg s a = 0 then T (s + 3 ^ a) else 0) (s + 3 ^ i) = 0 then T (s + 3 ^ i) else 0)) n ≤ sumN (fun i => if i = a then 0 else (if q s i = true then T (s + 3 ^ i) else 0)) n := by
      refine sumN_le n (fun i _ => ?_)
      by_cases e : i = a
      · rw [if_pos e, if_pos e]; exact Nat.le_refl _
      · rw [if_neg e, if_neg e]
        by_cases c1 : q s i = true
        · rw [if_pos c1]
          split
          · exact Nat.le_refl _
          · exact Nat.zero_le _
        · rw [if_neg c1, if_neg (fun z => c1 z.1)]
          exact Nat.le_refl _
    rw [key, k2]
    by_cases c1 : q s a = true
    · have hd := hq s a hs ha c1
      have hz := z0 (s + 3 ^ a) (hr s a hs ha c1) (by rw [(dg_step hd).1]; omega)
      by_cases cw : cd s = true ∧ q s a = true ∧ dg s a = 0
      · rw [if_pos cw, if_neg (fun z => z.2 hz), if_pos c1]
        omega
      · rw [if_neg cw, if_neg (fun z => z.2 hz), if_pos c1]
        omega
    · rw [if_neg (fun z => c1 z.2.1), if_neg (fun z => c1 z.1), if_neg c1]
      omega
end N10

