/-! rests and circle: both sides alike -/
theorem itr_ok (p : Nat → Bool) : ∀ k, itr (fun i (r : Bool) => r && !p i) true k = okF p 0 k := by
  intro k
  have key : ∀ k, (itr (fun i (r : Bool) => r && !p i) true k = true ↔ ∀ x, x < k → p x = false) := by
    intro k
    induction k with
    | zero => exact ⟨fun _ x h => absurd h (Nat.not_lt_zero _), fun _ => rfl⟩
    | succ k ih =>
      rw [itr_s, Bool.and_eq_true, ih]
      constructor
      · intro ⟨a, b⟩ x hx
        by_cases c : x = k
        · rw [c]; cases e : p k
          · rfl
          · rw [e] at b; exact absurd b (by decide)
        · exact a x (by omega)
      · intro h
        refine ⟨fun x hx => h x (by omega), ?_⟩
        rw [h k (by omega)]; rfl
  have h2 := okF_iff p k 0
  cases e1 : itr (fun i (r : Bool) => r && !p i) true k <;> cases e2 : okF p 0 k
  · rfl
  · exfalso
    have := h2.mp e2
    have := (key k).mpr (fun x hx => this x (Nat.zero_le _) (by omega))
    rw [e1] at this
    exact absurd this (by decide)
  · exfalso
    have := (key k).mp e1
    have := h2.mpr (fun x _ hx => this x (by omega))
    rw [e2] at this
    exact absurd this (by decide)
  · rfl
theorem rst_eq (a b v : Int32) : rstB a b v = bestB a b v := itr_ok (fun i => decide (gnI a b v < gnI (nI i) b v)) 10
theorem rsM_eq (v : Int32) : rsM v = rsB v := by
  funext x y
  unfold rsM rsB
  rw [rst_eq, rst_eq]
theorem rsN_eq (v : Int32) : rsN v = rtG v := by
  unfold rsN rtG
  rw [rsM_eq]
theorem itr_cg {α : Type} {f g : Nat → α → α} {x : α} : ∀ k, (∀ i r, i < k → f i r = g i r) → itr f x k = itr g x k := by
  intro k
  induction k with
  | zero => intro _; rfl
  | succ k ih => intro h; rw [itr_s, itr_s, ih (fun i r hi => h i r (by omega)), h k _ (by omega)]
theorem cpl_or : ∀ m, m < 128 → ∀ g, g < 7 → (127 - 2 ^ g) &&& (127 - m) = 127 - (m ||| 2 ^ g) := by decide +kernel
section N22
variable {n : Nat} {rm mt nt : Nat → Nat} {fm : Bool} {now : Nat → Int32}
theorem mt_lt (hg : gdT n mt nt) {i : Nat} (hi : i < n) : mt i < 128 := Nat.lt_of_lt_of_le (hg.2.1 i hi).1 (Nat.pow_le_pow_right (n := 2) (by decide) hg.1)
theorem nt_lt (hg : gdT n mt nt) {i : Nat} (hi : i < n) : nt i < 128 := Nat.lt_of_lt_of_le (hg.2.1 i hi).2 (Nat.pow_le_pow_right (n := 2) (by decide) hg.1)
theorem mcr_eq (hg : gdT n mt nt) (hR : nowR n rm mt nt fm now) (x : Nat) : mcrB now n x = okF (crB mt x) 0 n := by
  rw [← itr_ok]
  unfold mcrB
  refine itr_cg n (fun g r hgn => ?_)
  unfold mcrF crB
  have hm := mt_lt hg hgn
  have h7 : g < 7 := by have := hg.1; omega
  rw [tho_1 hg hR hgn, Nat.and_assoc, cpl_or _ hm g h7]
  cases x.testBit g
  · simp
  · by_cases c : x &&& (127 - (mt g ||| 2 ^ g)) = 0
    · simp [c]
    · simp [c]
theorem mgc_eq (hg : gdT n mt nt) (hR : nowR n rm mt nt fm now) : mgcV now n = gcV mt n := by
  unfold mgcV gcV
  have e : mcrB now n = fun x => okF (crB mt x) 0 n := funext (fun x => mcr_eq hg hR x)
  rw [e]
end N22

