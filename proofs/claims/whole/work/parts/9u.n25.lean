/-! threes as a whole; the game -/
theorem t3_cg {p p' : Nat → Nat → Nat → Bool} {n : Nat} (h : ∀ a b c, a < b → b < c → c < n → p a b c = p' a b c) (x : Int32 × cRow) : itr (t3H p n) x n = itr (t3H p' n) x n := by
  refine itr_cg n (fun a r ha => ?_)
  unfold t3H
  refine itr_cg _ (fun j r hj => ?_)
  unfold t3G
  refine itr_cg _ (fun i r hi => ?_)
  unfold t3F
  rw [h a (a + 1 + j) (a + 1 + j + 1 + i) (by omega) (by omega) (by omega)]
theorem thr_eq {n : Nat} {rm mt nt : Nat → Nat} {fm : Bool} {now : Nat → Int32} (hg : gdT n mt nt) (hR : nowR n rm mt nt fm now) (x : Int32 × cRow) : itr (t3H (f3B now n) n) x n = itr (t3H (farB mt nt n) n) x n := t3_cg (fun a b c h1 h2 h3 => far_eq hg hR (by omega) (by omega) h3 (by omega) (by omega) (by omega)) x

