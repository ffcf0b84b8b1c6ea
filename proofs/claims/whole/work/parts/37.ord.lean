/-! ORDERS: the cells; the smallest of its methods -/
theorem eX4_eventOf_0 {d : Nat} {S : zS} {Q : zR → Prop} : zW d MX4_eventOf 0 S Q = zGo d MX4_eventOf (.iconst 2) (zv (.int 2)) 1 S Q := zW_step (I := .iconst 2) rfl S Q
theorem eX4_eventOf_1 {d : Nat} {S : zS} {Q : zR → Prop} : zW d MX4_eventOf 1 S Q = zGo d MX4_eventOf (.iload 2) z0 2 S Q := zW_step (I := .iload_n 2) rfl S Q
theorem eX4_eventOf_2 {d : Nat} {S : zS} {Q : zR → Prop} : zW d MX4_eventOf 2 S Q = zGo d MX4_eventOf (.imul) z0 3 S Q := zW_step (I := .imul) rfl S Q
theorem eX4_eventOf_3 {d : Nat} {S : zS} {Q : zR → Prop} : zW d MX4_eventOf 3 S Q = zGo d MX4_eventOf (.aload 0) z0 4 S Q := zW_step (I := .aload_n 0) rfl S Q
theorem eX4_eventOf_4 {d : Nat} {S : zS} {Q : zR → Prop} : zW d MX4_eventOf 4 S Q = zGo d MX4_eventOf (.getfield 9) (zf 3 4 0) 7 S Q := zW_step (I := .getfield 9) rfl S Q
theorem eX4_eventOf_7 {d : Nat} {S : zS} {Q : zR → Prop} : zW d MX4_eventOf 7 S Q = zGo d MX4_eventOf (.iload 1) z0 8 S Q := zW_step (I := .iload_n 1) rfl S Q
theorem eX4_eventOf_8 {d : Nat} {S : zS} {Q : zR → Prop} : zW d MX4_eventOf 8 S Q = zGo d MX4_eventOf (.iaload) z0 9 S Q := zW_step (I := .iaload) rfl S Q
theorem eX4_eventOf_9 {d : Nat} {S : zS} {Q : zR → Prop} : zW d MX4_eventOf 9 S Q = zGo d MX4_eventOf (.iload 2) z0 10 S Q := zW_step (I := .iload_n 2) rfl S Q
theorem eX4_eventOf_10 {d : Nat} {S : zS} {Q : zR → Prop} : zW d MX4_eventOf 10 S Q = zGo d MX4_eventOf (.ishr) z0 11 S Q := zW_step (I := .ishr) rfl S Q
theorem eX4_eventOf_11 {d : Nat} {S : zS} {Q : zR → Prop} : zW d MX4_eventOf 11 S Q = zGo d MX4_eventOf (.iconst 1) (zv (.int 1)) 12 S Q := zW_step (I := .iconst 1) rfl S Q
theorem eX4_eventOf_12 {d : Nat} {S : zS} {Q : zR → Prop} : zW d MX4_eventOf 12 S Q = zGo d MX4_eventOf (.iand) z0 13 S Q := zW_step (I := .iand) rfl S Q
theorem eX4_eventOf_13 {d : Nat} {S : zS} {Q : zR → Prop} : zW d MX4_eventOf 13 S Q = zGo d MX4_eventOf (.iadd) z0 14 S Q := zW_step (I := .iadd) rfl S Q
theorem eX4_eventOf_14 {d : Nat} {S : zS} {Q : zR → Prop} : zW d MX4_eventOf 14 S Q = zGo d MX4_eventOf (.ireturn) z0 15 S Q := zW_step (I := .ireturn) rfl S Q
theorem rX4_eventOf : MX4_eventOf.2.2.2.2.1 = some .int := rfl
theorem eX4_sumOfNext_0 {d : Nat} {S : zS} {Q : zR → Prop} : zW d MX4_sumOfNext 0 S Q = zGo d MX4_sumOfNext (.aload 0) z0 1 S Q := zW_step (I := .aload_n 0) rfl S Q
theorem eX4_sumOfNext_1 {d : Nat} {S : zS} {Q : zR → Prop} : zW d MX4_sumOfNext 1 S Q = zGo d MX4_sumOfNext (.getfield 18) (zf 3 4 2) 4 S Q := zW_step (I := .getfield 18) rfl S Q
theorem eX4_sumOfNext_4 {d : Nat} {S : zS} {Q : zR → Prop} : zW d MX4_sumOfNext 4 S Q = zGo d MX4_sumOfNext (.iload 1) z0 5 S Q := zW_step (I := .iload_n 1) rfl S Q
theorem eX4_sumOfNext_5 {d : Nat} {S : zS} {Q : zR → Prop} : zW d MX4_sumOfNext 5 S Q = zGo d MX4_sumOfNext (.iaload) z0 6 S Q := zW_step (I := .iaload) rfl S Q
theorem eX4_sumOfNext_6 {d : Nat} {S : zS} {Q : zR → Prop} : zW d MX4_sumOfNext 6 S Q = zGo d MX4_sumOfNext (.istore 2) z0 7 S Q := zW_step (I := .istore_n 2) rfl S Q
theorem eX4_sumOfNext_7 {d : Nat} {S : zS} {Q : zR → Prop} : zW d MX4_sumOfNext 7 S Q = zGo d MX4_sumOfNext (.lconst 0) (zv (.long 0)) 8 S Q := zW_step (I := .lconst 0) rfl S Q
theorem eX4_sumOfNext_8 {d : Nat} {S : zS} {Q : zR → Prop} : zW d MX4_sumOfNext 8 S Q = zGo d MX4_sumOfNext (.lstore 3) z0 9 S Q := zW_step (I := .lstore_n 3) rfl S Q
theorem eX4_sumOfNext_9 {d : Nat} {S : zS} {Q : zR → Prop} : zW d MX4_sumOfNext 9 S Q = zGo d MX4_sumOfNext (.iconst 0) (zv (.int 0)) 10 S Q := zW_step (I := .iconst 0) rfl S Q
theorem eX4_sumOfNext_10 {d : Nat} {S : zS} {Q : zR → Prop} : zW d MX4_sumOfNext 10 S Q = zGo d MX4_sumOfNext (.istore 5) z0 12 S Q := zW_step (I := .istore 5) rfl S Q
theorem eX4_sumOfNext_12 {d : Nat} {S : zS} {Q : zR → Prop} : zW d MX4_sumOfNext 12 S Q = zGo d MX4_sumOfNext (.iload 5) z0 14 S Q := zW_step (I := .iload 5) rfl S Q
theorem eX4_sumOfNext_14 {d : Nat} {S : zS} {Q : zR → Prop} : zW d MX4_sumOfNext 14 S Q = zGo d MX4_sumOfNext (.aload 0) z0 15 S Q := zW_step (I := .aload_n 0) rfl S Q
theorem eX4_sumOfNext_15 {d : Nat} {S : zS} {Q : zR → Prop} : zW d MX4_sumOfNext 15 S Q = zGo d MX4_sumOfNext (.getfield 58) (zf 0 4 13) 18 S Q := zW_step (I := .getfield 58) rfl S Q
theorem eX4_sumOfNext_18 {d : Nat} {S : zS} {Q : zR → Prop} : zW d MX4_sumOfNext 18 S Q = zGo d MX4_sumOfNext (.if_icmp .ge 35) (zt 53) 21 S Q := zW_step (I := .if_icmp .ge 35) rfl S Q
theorem eX4_sumOfNext_21 {d : Nat} {S : zS} {Q : zR → Prop} : zW d MX4_sumOfNext 21 S Q = zGo d MX4_sumOfNext (.iload 2) z0 22 S Q := zW_step (I := .iload_n 2) rfl S Q
theorem eX4_sumOfNext_22 {d : Nat} {S : zS} {Q : zR → Prop} : zW d MX4_sumOfNext 22 S Q = zGo d MX4_sumOfNext (.iload 5) z0 24 S Q := zW_step (I := .iload 5) rfl S Q
theorem eX4_sumOfNext_24 {d : Nat} {S : zS} {Q : zR → Prop} : zW d MX4_sumOfNext 24 S Q = zGo d MX4_sumOfNext (.ishr) z0 25 S Q := zW_step (I := .ishr) rfl S Q
theorem eX4_sumOfNext_25 {d : Nat} {S : zS} {Q : zR → Prop} : zW d MX4_sumOfNext 25 S Q = zGo d MX4_sumOfNext (.iconst 1) (zv (.int 1)) 26 S Q := zW_step (I := .iconst 1) rfl S Q
theorem eX4_sumOfNext_26 {d : Nat} {S : zS} {Q : zR → Prop} : zW d MX4_sumOfNext 26 S Q = zGo d MX4_sumOfNext (.iand) z0 27 S Q := zW_step (I := .iand) rfl S Q
theorem eX4_sumOfNext_27 {d : Nat} {S : zS} {Q : zR → Prop} : zW d MX4_sumOfNext 27 S Q = zGo d MX4_sumOfNext (.iconst 1) (zv (.int 1)) 28 S Q := zW_step (I := .iconst 1) rfl S Q
theorem eX4_sumOfNext_28 {d : Nat} {S : zS} {Q : zR → Prop} : zW d MX4_sumOfNext 28 S Q = zGo d MX4_sumOfNext (.if_icmp .ne 19) (zt 47) 31 S Q := zW_step (I := .if_icmp .ne 19) rfl S Q
theorem eX4_sumOfNext_31 {d : Nat} {S : zS} {Q : zR → Prop} : zW d MX4_sumOfNext 31 S Q = zGo d MX4_sumOfNext (.lload 3) z0 32 S Q := zW_step (I := .lload_n 3) rfl S Q
theorem eX4_sumOfNext_32 {d : Nat} {S : zS} {Q : zR → Prop} : zW d MX4_sumOfNext 32 S Q = zGo d MX4_sumOfNext (.aload 0) z0 33 S Q := zW_step (I := .aload_n 0) rfl S Q
theorem eX4_sumOfNext_33 {d : Nat} {S : zS} {Q : zR → Prop} : zW d MX4_sumOfNext 33 S Q = zGo d MX4_sumOfNext (.getfield 28) (zf 3 4 5) 36 S Q := zW_step (I := .getfield 28) rfl S Q
theorem eX4_sumOfNext_36 {d : Nat} {S : zS} {Q : zR → Prop} : zW d MX4_sumOfNext 36 S Q = zGo d MX4_sumOfNext (.iload 1) z0 37 S Q := zW_step (I := .iload_n 1) rfl S Q
theorem eX4_sumOfNext_37 {d : Nat} {S : zS} {Q : zR → Prop} : zW d MX4_sumOfNext 37 S Q = zGo d MX4_sumOfNext (.getstatic 59) (zv (.ref 1000)) 40 S Q := zW_step (I := .getstatic 59) rfl S Q
theorem eX4_sumOfNext_40 {d : Nat} {S : zS} {Q : zR → Prop} : zW d MX4_sumOfNext 40 S Q = zGo d MX4_sumOfNext (.iload 5) z0 42 S Q := zW_step (I := .iload 5) rfl S Q
theorem eX4_sumOfNext_42 {d : Nat} {S : zS} {Q : zR → Prop} : zW d MX4_sumOfNext 42 S Q = zGo d MX4_sumOfNext (.iaload) z0 43 S Q := zW_step (I := .iaload) rfl S Q
theorem eX4_sumOfNext_43 {d : Nat} {S : zS} {Q : zR → Prop} : zW d MX4_sumOfNext 43 S Q = zGo d MX4_sumOfNext (.iadd) z0 44 S Q := zW_step (I := .iadd) rfl S Q
theorem eX4_sumOfNext_44 {d : Nat} {S : zS} {Q : zR → Prop} : zW d MX4_sumOfNext 44 S Q = zGo d MX4_sumOfNext (.laload) z0 45 S Q := zW_step (I := .laload) rfl S Q
theorem eX4_sumOfNext_45 {d : Nat} {S : zS} {Q : zR → Prop} : zW d MX4_sumOfNext 45 S Q = zGo d MX4_sumOfNext (.ladd) z0 46 S Q := zW_step (I := .ladd) rfl S Q
theorem eX4_sumOfNext_46 {d : Nat} {S : zS} {Q : zR → Prop} : zW d MX4_sumOfNext 46 S Q = zGo d MX4_sumOfNext (.lstore 3) z0 47 S Q := zW_step (I := .lstore_n 3) rfl S Q
theorem eX4_sumOfNext_47 {d : Nat} {S : zS} {Q : zR → Prop} : zW d MX4_sumOfNext 47 S Q = zGo d MX4_sumOfNext (.iinc 5 1) (zv (.int 1)) 50 S Q := zW_step (I := .iinc 5 1) rfl S Q
theorem eX4_sumOfNext_50 {d : Nat} {S : zS} {Q : zR → Prop} : zW d MX4_sumOfNext 50 S Q = zGo d MX4_sumOfNext (.goto (-38)) (zt 12) 53 S Q := zW_step (I := .goto (-38)) rfl S Q
theorem eX4_sumOfNext_53 {d : Nat} {S : zS} {Q : zR → Prop} : zW d MX4_sumOfNext 53 S Q = zGo d MX4_sumOfNext (.lload 3) z0 54 S Q := zW_step (I := .lload_n 3) rfl S Q
theorem eX4_sumOfNext_54 {d : Nat} {S : zS} {Q : zR → Prop} : zW d MX4_sumOfNext 54 S Q = zGo d MX4_sumOfNext (.lreturn) z0 55 S Q := zW_step (I := .lreturn) rfl S Q
theorem rX4_sumOfNext : MX4_sumOfNext.2.2.2.2.1 = some .long := rfl
/-- in, gone, next are A 0, A 1, A 2; ahead, behind, ways, byCome, byIn are B 0 .. B 4; canGo, canCome are C 0, C 1 -/
def ordSet (h : Nat → zE) (o k len m : Nat) (A : Nat → Nat → Nat) (B : Nat → Nat → Int64) (C : Nat → Nat → Nat) (op : Nat → Int32) (sn : Int32) (tl : Bool) (n la : Nat) : Nat → zE := fun j =>
  if j = o then zO 4 [.ref k, .ref (k + 1), .ref (k + 2), .ref (k + 3), .ref (k + 4), .ref (k + 5), .ref (k + 6), .ref (k + 7), .ref (o + 9), .ref (o + 10), .ref (o + 11), .int sn, .int (b01 tl), .int (nI n), .int (nI la)]
  else if k ≤ j ∧ j < k + 3 then zI 0 len (fun i => nI (A (j - k) i))
  else if k + 3 ≤ j ∧ j < k + 6 then zJ len (B (j - k - 3))
  else if k + 6 ≤ j ∧ j < k + 8 then zJ m (B (j - k - 3))
  else if o + 9 ≤ j ∧ j < o + 11 then zI 0 128 (fun i => nI (C (j - o - 9) i))
  else if j = o + 11 then zI 0 49 op
  else h j
def ordOK (o k : Nat) : Prop := o + 11 < 1000 ∧ k + 7 < 1000 ∧ (k = o + 1 ∨ o + 12 ≤ k)
section ORD
variable {h h' : Nat → zE} {o k len m n la : Nat} {A : Nat → Nat → Nat} {B : Nat → Nat → Int64} {C : Nat → Nat → Nat} {op : Nat → Int32} {sn : Int32} {tl : Bool} {d : Nat} {u : zU} {Q : zR → Prop}
theorem ord_0 : ordSet h o k len m A B C op sn tl n la o = zO 4 [.ref k, .ref (k + 1), .ref (k + 2), .ref (k + 3), .ref (k + 4), .ref (k + 5), .ref (k + 6), .ref (k + 7), .ref (o + 9), .ref (o + 10), .ref (o + 11), .int sn, .int (b01 tl), .int (nI n), .int (nI la)] := if_pos rfl
theorem ord_A (hk : ordOK o k) {i : Nat} (hi : i < 3) : ordSet h o k len m A B C op sn tl n la (k + i) = zI 0 len (fun x => nI (A i x)) := by
  obtain ⟨h1, h2, h3⟩ := hk
  unfold ordSet
  rw [if_neg (by omega), if_pos (by omega), show k + i - k = i by omega]
theorem ord_B (hk : ordOK o k) {i : Nat} (hi : i < 3) : ordSet h o k len m A B C op sn tl n la (k + 3 + i) = zJ len (B i) := by
  obtain ⟨h1, h2, h3⟩ := hk
  unfold ordSet
  rw [if_neg (by omega), if_neg (by omega), if_pos (by omega), show k + 3 + i - k - 3 = i by omega]
theorem ord_D (hk : ordOK o k) {i : Nat} (hi : i < 2) : ordSet h o k len m A B C op sn tl n la (k + 6 + i) = zJ m (B (3 + i)) := by
  obtain ⟨h1, h2, h3⟩ := hk
  unfold ordSet
  rw [if_neg (by omega), if_neg (by omega), if_neg (by omega), if_pos (by omega), show k + 6 + i - k - 3 = 3 + i by omega]
theorem ord_C (hk : ordOK o k) {i : Nat} (hi : i < 2) : ordSet h o k len m A B C op sn tl n la (o + 9 + i) = zI 0 128 (fun x => nI (C i x)) := by
  obtain ⟨h1, h2, h3⟩ := hk
  unfold ordSet
  rw [if_neg (by omega), if_neg (by omega), if_neg (by omega), if_neg (by omega), if_pos (by omega), show o + 9 + i - o - 9 = i by omega]
theorem ord_op (hk : ordOK o k) : ordSet h o k len m A B C op sn tl n la (o + 11) = zI 0 49 op := by
  obtain ⟨h1, h2, h3⟩ := hk
  unfold ordSet
  rw [if_neg (by omega), if_neg (by omega), if_neg (by omega), if_neg (by omega), if_neg (by omega), if_pos rfl]
theorem ord_out {j : Nat} (h0 : j ≠ o) (h1 : j < k ∨ k + 7 < j) (h2 : j < o + 9 ∨ o + 11 < j) : ordSet h o k len m A B C op sn tl n la j = h j := by
  unfold ordSet
  rw [if_neg h0, if_neg (by omega), if_neg (by omega), if_neg (by omega), if_neg (by omega), if_neg (by omega)]
theorem ord_upA (hk : ordOK o k) {i : Nat} (hi : i < 3) {f : Nat → Nat} : z_up (ordSet h o k len m A B C op sn tl n la) (k + i) (zI 0 len (fun x => nI (f x))) = ordSet h o k len m (z_up A i f) B C op sn tl n la := by
  obtain ⟨h1, h2, h3⟩ := hk
  funext j
  by_cases c : j = k + i
  · subst c
    rw [z_up_s, ord_A ⟨h1, h2, h3⟩ hi, z_up_s]
  · rw [z_up_n _ _ c]
    unfold ordSet
    by_cases c1 : k ≤ j ∧ j < k + 3
    · rw [if_neg (show ¬ j = o by omega), if_neg (show ¬ j = o by omega), if_pos c1, if_pos c1, z_up_n _ _ (show j - k ≠ i by omega)]
    · simp only [if_neg c1]
theorem ord_upB (hk : ordOK o k) {i : Nat} (hi : i < 3) {f : Nat → Int64} : z_up (ordSet h o k len m A B C op sn tl n la) (k + 3 + i) (zJ len f) = ordSet h o k len m A (z_up B i f) C op sn tl n la := by
  obtain ⟨h1, h2, h3⟩ := hk
  funext j
  by_cases c : j = k + 3 + i
  · subst c
    rw [z_up_s, ord_B ⟨h1, h2, h3⟩ hi, z_up_s]
  · rw [z_up_n _ _ c]
    unfold ordSet
    by_cases c1 : k + 3 ≤ j ∧ j < k + 6
    · simp only [if_pos c1, z_up_n B f (show j - k - 3 ≠ i by omega)]
    · by_cases c2 : k + 6 ≤ j ∧ j < k + 8
      · simp only [if_neg c1, if_pos c2, z_up_n B f (show j - k - 3 ≠ i by omega)]
      · simp only [if_neg c1, if_neg c2]
theorem ord_upD (hk : ordOK o k) {i : Nat} (hi : i < 2) {f : Nat → Int64} : z_up (ordSet h o k len m A B C op sn tl n la) (k + 6 + i) (zJ m f) = ordSet h o k len m A (z_up B (3 + i) f) C op sn tl n la := by
  obtain ⟨h1, h2, h3⟩ := hk
  funext j
  by_cases c : j = k + 6 + i
  · subst c
    rw [z_up_s, ord_D ⟨h1, h2, h3⟩ hi, z_up_s]
  · rw [z_up_n _ _ c]
    unfold ordSet
    by_cases c1 : k + 3 ≤ j ∧ j < k + 6
    · simp only [if_pos c1, z_up_n B f (show j - k - 3 ≠ 3 + i by omega)]
    · by_cases c2 : k + 6 ≤ j ∧ j < k + 8
      · simp only [if_neg c1, if_pos c2, z_up_n B f (show j - k - 3 ≠ 3 + i by omega)]
      · simp only [if_neg c1, if_neg c2]
theorem ord_upC (hk : ordOK o k) {i : Nat} (hi : i < 2) {f : Nat → Nat} : z_up (ordSet h o k len m A B C op sn tl n la) (o + 9 + i) (zI 0 128 (fun x => nI (f x))) = ordSet h o k len m A B (z_up C i f) op sn tl n la := by
  obtain ⟨h1, h2, h3⟩ := hk
  funext j
  by_cases c : j = o + 9 + i
  · subst c
    rw [z_up_s, ord_C ⟨h1, h2, h3⟩ hi, z_up_s]
  · rw [z_up_n _ _ c]
    unfold ordSet
    by_cases c1 : o + 9 ≤ j ∧ j < o + 11
    · simp only [if_pos c1, z_up_n C f (show j - o - 9 ≠ i by omega)]
    · simp only [if_neg c1]
theorem ord_upO (hk : ordOK o k) {f : Nat → Int32} : z_up (ordSet h o k len m A B C op sn tl n la) (o + 11) (zI 0 49 f) = ordSet h o k len m A B C f sn tl n la := by
  obtain ⟨h1, h2, h3⟩ := hk
  funext j
  by_cases c : j = o + 11
  · subst c
    rw [z_up_s, ord_op ⟨h1, h2, h3⟩]
  · rw [z_up_n _ _ c]
    unfold ordSet
    simp only [if_neg c]
theorem ord_up0 (hk : ordOK o k) {sn' : Int32} {tl' : Bool} {n' la' : Nat} : z_up (ordSet h o k len m A B C op sn tl n la) o (zO 4 [.ref k, .ref (k + 1), .ref (k + 2), .ref (k + 3), .ref (k + 4), .ref (k + 5), .ref (k + 6), .ref (k + 7), .ref (o + 9), .ref (o + 10), .ref (o + 11), .int sn', .int (b01 tl'), .int (nI n'), .int (nI la')]) = ordSet h o k len m A B C op sn' tl' n' la' := by
  funext j
  by_cases c : j = o
  · subst c
    rw [z_up_s, ord_0]
  · rw [z_up_n _ _ c]
    unfold ordSet
    simp only [if_neg c]
theorem z_pw_eq : ∀ i, i < 8 → z_pw i = nI (3 ^ i) := by decide
theorem pow_cell : z_cell h 1000 = zI 0 8 z_pw := rfl
def snx (w : Nat → Int64) (us s : Nat) : Nat → Int64
  | 0 => 0
  | i + 1 => if us.testBit i = true then snx w us s i + w (s + 3 ^ i) else snx w us s i
theorem p3_lt {i : Nat} (hi : i < 7) : 3 ^ i < 1000 := Nat.lt_of_le_of_lt (Nat.pow_le_pow_right (by decide) (show i ≤ 6 by omega)) (by decide)
theorem w_snx (hk : ordOK o k) (hn : n ≤ 7) (hlen : len < 10000) {s us : Nat} (hs : s < len) (hus : us < 128) (hb : ∀ i, i < n → us.testBit i = true → s + 3 ^ i < len) : ∀ j i, n - i = j → i ≤ n → zW d MX4_sumOfNext 12 ([.ref o, .int (nI s), .int (nI us), .long (snx (B 2) us s i), .null, .int (nI i)], [], (ordSet h o k len m A B C op sn tl n la, u)) (fun q => q = (some (.long (snx (B 2) us s n)), (ordSet h o k len m A B C op sn tl n la, u))) := by
  obtain ⟨k1, k2, k3⟩ := id hk
  have ho0 : o < 1000 := by omega
  have hk5 : k + 5 < 1000 := by omega
  have g5 : ∀ A B C op sn tl n la, ordSet h o k len m A B C op sn tl n la (k + 5) = zJ len (B 2) := fun A B C op sn tl n la => ord_B (i := 2) hk (by decide)
  intro j
  induction j with
  | zero =>
    intro i hi hle
    have e : i = n := by omega
    subst e
    rw [eX4_sumOfNext_12]
    simp only [eX4_sumOfNext_0, eX4_sumOfNext_1, eX4_sumOfNext_4, eX4_sumOfNext_5, eX4_sumOfNext_6, eX4_sumOfNext_7, eX4_sumOfNext_8, eX4_sumOfNext_9, eX4_sumOfNext_10, eX4_sumOfNext_14, eX4_sumOfNext_15, eX4_sumOfNext_18, eX4_sumOfNext_21, eX4_sumOfNext_22, eX4_sumOfNext_24, eX4_sumOfNext_25, eX4_sumOfNext_26, eX4_sumOfNext_27, eX4_sumOfNext_28, eX4_sumOfNext_31, eX4_sumOfNext_32, eX4_sumOfNext_33, eX4_sumOfNext_36, eX4_sumOfNext_37, eX4_sumOfNext_40, eX4_sumOfNext_42, eX4_sumOfNext_43, eX4_sumOfNext_44, eX4_sumOfNext_45, eX4_sumOfNext_46, eX4_sumOfNext_47, eX4_sumOfNext_50, eX4_sumOfNext_53, eX4_sumOfNext_54, rX4_sumOfNext, zg_aload, zg_getfield, zg_getstatic, zg_goto, zg_iadd, zg_iaload, zg_iand, zg_icmp, zg_iconst, zg_iinc, zg_iload, zg_ishr, zg_istore, zg_ladd, zg_laload, zg_lconst, zg_lload, zg_lreturn, zg_lstore, q10, q01, q00, ite_self, zLd_i, zLd_l, zLd_a, zInc_i, zGet_o, zGet2_s, zPut_o, zAld_i, zAll_j, zAst_i, zAsl_j, zLen_i, zLen_j, zRt_i, zRt_z, zRl2_l, zRv_n, List.getElem?_cons_zero, List.getElem?_cons_succ, List.length_cons, List.length_nil, z_set, z_set2, z_cut, List.set_cons_zero, List.set_cons_succ, Option.toList_some, Option.toList_none, List.cons_append, List.nil_append, zif, zW_ite, zfit_0, zfit_1, zfit_2, zfit_3, zisc_o, zRt_c, zRt_b, List.map_cons, List.map_nil, List.sum_cons, List.sum_nil, true_and, and_true, if_true, if_false, ite_true, ite_false, Nat.reduceLT, Nat.reduceLeDiff, Nat.reduceAdd, Nat.reduceEqDiff, eq_self, not_true_eq_false, not_false_eq_true, Nat.lt_irrefl, or_true, true_or, or_false, false_or, z_cell_lt, Value.category, ord_0, ho0, Int32.lt_irrefl]
  | succ j ih =>
    intro i hi hle
    have hi7 : i < 7 := by omega
    have c1 : nI i < nI n := nI_lt (show i < n by omega) (by omega)
    have ih := ih (i + 1) (by omega) (by omega)
    rw [show snx (B 2) us s (i + 1) = if us.testBit i = true then snx (B 2) us s i + B 2 (s + 3 ^ i) else snx (B 2) us s i from rfl] at ih
    rw [eX4_sumOfNext_12]
    by_cases c2 : us.testBit i = true
    · rw [if_pos c2] at ih
      have hx := hb i (by omega) c2
      have i1 : vp_in (nI i) 8 := vp_in_nI (show i < 8 by omega) (by decide)
      have i3 : vp_in (nI (s + 3 ^ i)) len := vp_in_nI hx (by omega)
      have i4 : (nI (s + 3 ^ i)).toNatClampNeg = s + 3 ^ i := nI_clamp (by omega)
      simp only [eX4_sumOfNext_0, eX4_sumOfNext_1, eX4_sumOfNext_4, eX4_sumOfNext_5, eX4_sumOfNext_6, eX4_sumOfNext_7, eX4_sumOfNext_8, eX4_sumOfNext_9, eX4_sumOfNext_10, eX4_sumOfNext_14, eX4_sumOfNext_15, eX4_sumOfNext_18, eX4_sumOfNext_21, eX4_sumOfNext_22, eX4_sumOfNext_24, eX4_sumOfNext_25, eX4_sumOfNext_26, eX4_sumOfNext_27, eX4_sumOfNext_28, eX4_sumOfNext_31, eX4_sumOfNext_32, eX4_sumOfNext_33, eX4_sumOfNext_36, eX4_sumOfNext_37, eX4_sumOfNext_40, eX4_sumOfNext_42, eX4_sumOfNext_43, eX4_sumOfNext_44, eX4_sumOfNext_45, eX4_sumOfNext_46, eX4_sumOfNext_47, eX4_sumOfNext_50, eX4_sumOfNext_53, eX4_sumOfNext_54, rX4_sumOfNext, zg_aload, zg_getfield, zg_getstatic, zg_goto, zg_iadd, zg_iaload, zg_iand, zg_icmp, zg_iconst, zg_iinc, zg_iload, zg_ishr, zg_istore, zg_ladd, zg_laload, zg_lconst, zg_lload, zg_lreturn, zg_lstore, q10, q01, q00, ite_self, zLd_i, zLd_l, zLd_a, zInc_i, zGet_o, zGet2_s, zPut_o, zAld_i, zAll_j, zAst_i, zAsl_j, zLen_i, zLen_j, zRt_i, zRt_z, zRl2_l, zRv_n, List.getElem?_cons_zero, List.getElem?_cons_succ, List.length_cons, List.length_nil, z_set, z_set2, z_cut, List.set_cons_zero, List.set_cons_succ, Option.toList_some, Option.toList_none, List.cons_append, List.nil_append, zif, zW_ite, zfit_0, zfit_1, zfit_2, zfit_3, zisc_o, zRt_c, zRt_b, List.map_cons, List.map_nil, List.sum_cons, List.sum_nil, true_and, and_true, if_true, if_false, ite_true, ite_false, Nat.reduceLT, Nat.reduceLeDiff, Nat.reduceAdd, Nat.reduceEqDiff, eq_self, not_true_eq_false, not_false_eq_true, Nat.lt_irrefl, or_true, true_or, or_false, false_or, z_cell_lt, Value.category, ord_0, g5, ho0, hk5, c1, q_bit us hus i (by omega), c2, pow_cell, i1, nI_c hi7, z_pw_eq i (by omega), nI_add, i3, i4, nI_1]
      exact ih
    · rw [if_neg c2] at ih
      simp only [eX4_sumOfNext_0, eX4_sumOfNext_1, eX4_sumOfNext_4, eX4_sumOfNext_5, eX4_sumOfNext_6, eX4_sumOfNext_7, eX4_sumOfNext_8, eX4_sumOfNext_9, eX4_sumOfNext_10, eX4_sumOfNext_14, eX4_sumOfNext_15, eX4_sumOfNext_18, eX4_sumOfNext_21, eX4_sumOfNext_22, eX4_sumOfNext_24, eX4_sumOfNext_25, eX4_sumOfNext_26, eX4_sumOfNext_27, eX4_sumOfNext_28, eX4_sumOfNext_31, eX4_sumOfNext_32, eX4_sumOfNext_33, eX4_sumOfNext_36, eX4_sumOfNext_37, eX4_sumOfNext_40, eX4_sumOfNext_42, eX4_sumOfNext_43, eX4_sumOfNext_44, eX4_sumOfNext_45, eX4_sumOfNext_46, eX4_sumOfNext_47, eX4_sumOfNext_50, eX4_sumOfNext_53, eX4_sumOfNext_54, rX4_sumOfNext, zg_aload, zg_getfield, zg_getstatic, zg_goto, zg_iadd, zg_iaload, zg_iand, zg_icmp, zg_iconst, zg_iinc, zg_iload, zg_ishr, zg_istore, zg_ladd, zg_laload, zg_lconst, zg_lload, zg_lreturn, zg_lstore, q10, q01, q00, ite_self, zLd_i, zLd_l, zLd_a, zInc_i, zGet_o, zGet2_s, zPut_o, zAld_i, zAll_j, zAst_i, zAsl_j, zLen_i, zLen_j, zRt_i, zRt_z, zRl2_l, zRv_n, List.getElem?_cons_zero, List.getElem?_cons_succ, List.length_cons, List.length_nil, z_set, z_set2, z_cut, List.set_cons_zero, List.set_cons_succ, Option.toList_some, Option.toList_none, List.cons_append, List.nil_append, zif, zW_ite, zfit_0, zfit_1, zfit_2, zfit_3, zisc_o, zRt_c, zRt_b, List.map_cons, List.map_nil, List.sum_cons, List.sum_nil, true_and, and_true, if_true, if_false, ite_true, ite_false, Nat.reduceLT, Nat.reduceLeDiff, Nat.reduceAdd, Nat.reduceEqDiff, eq_self, not_true_eq_false, not_false_eq_true, Nat.lt_irrefl, or_true, true_or, or_false, false_or, z_cell_lt, Value.category, ord_0, g5, ho0, hk5, c1, q_bit us hus i (by omega), c2, nI_1]
      exact ih
theorem c_snx (hk : ordOK o k) (hn : n ≤ 7) (hlen : len < 10000) {s : Nat} (hs : s < len) (hus : A 2 s < 128) (hb : ∀ i, i < n → (A 2 s).testBit i = true → s + 3 ^ i < len) : zK (d + 1) 63 [.ref o, .int (nI s)] (ordSet h o k len m A B C op sn tl n la, u) Q = Q (some (.long (snx (B 2) (A 2 s) s n)), (ordSet h o k len m A B C op sn tl n la, u)) := by
  obtain ⟨k1, k2, k3⟩ := id hk
  have ho0 : o < 1000 := by omega
  have hk2 : k + 2 < 1000 := by omega
  have g2 : ∀ A B C op sn tl n la, ordSet h o k len m A B C op sn tl n la (k + 2) = zI 0 len (fun x => nI (A 2 x)) := fun A B C op sn tl n la => ord_A (i := 2) hk (by decide)
  have i1 : vp_in (nI s) len := vp_in_nI hs (by omega)
  have i2 : (nI s).toNatClampNeg = s := nI_clamp (by omega)
  refine zK_of (k := 1) (by omega) ?_
  refine zK_in (M := MX4_sumOfNext) rfl (Nat.le_of_ble_eq_true rfl) ?_
  show zW 0 MX4_sumOfNext 0 ([.ref o, .int (nI s), .null, .null, .null, .null], [], (ordSet h o k len m A B C op sn tl n la, u)) _
  simp only [eX4_sumOfNext_0, eX4_sumOfNext_1, eX4_sumOfNext_4, eX4_sumOfNext_5, eX4_sumOfNext_6, eX4_sumOfNext_7, eX4_sumOfNext_8, eX4_sumOfNext_9, eX4_sumOfNext_10, eX4_sumOfNext_14, eX4_sumOfNext_15, eX4_sumOfNext_18, eX4_sumOfNext_21, eX4_sumOfNext_22, eX4_sumOfNext_24, eX4_sumOfNext_25, eX4_sumOfNext_26, eX4_sumOfNext_27, eX4_sumOfNext_28, eX4_sumOfNext_31, eX4_sumOfNext_32, eX4_sumOfNext_33, eX4_sumOfNext_36, eX4_sumOfNext_37, eX4_sumOfNext_40, eX4_sumOfNext_42, eX4_sumOfNext_43, eX4_sumOfNext_44, eX4_sumOfNext_45, eX4_sumOfNext_46, eX4_sumOfNext_47, eX4_sumOfNext_50, eX4_sumOfNext_53, eX4_sumOfNext_54, rX4_sumOfNext, zg_aload, zg_getfield, zg_getstatic, zg_goto, zg_iadd, zg_iaload, zg_iand, zg_icmp, zg_iconst, zg_iinc, zg_iload, zg_ishr, zg_istore, zg_ladd, zg_laload, zg_lconst, zg_lload, zg_lreturn, zg_lstore, q10, q01, q00, ite_self, zLd_i, zLd_l, zLd_a, zInc_i, zGet_o, zGet2_s, zPut_o, zAld_i, zAll_j, zAst_i, zAsl_j, zLen_i, zLen_j, zRt_i, zRt_z, zRl2_l, zRv_n, List.getElem?_cons_zero, List.getElem?_cons_succ, List.length_cons, List.length_nil, z_set, z_set2, z_cut, List.set_cons_zero, List.set_cons_succ, Option.toList_some, Option.toList_none, List.cons_append, List.nil_append, zif, zW_ite, zfit_0, zfit_1, zfit_2, zfit_3, zisc_o, zRt_c, zRt_b, List.map_cons, List.map_nil, List.sum_cons, List.sum_nil, true_and, and_true, if_true, if_false, ite_true, ite_false, Nat.reduceLT, Nat.reduceLeDiff, Nat.reduceAdd, Nat.reduceEqDiff, eq_self, not_true_eq_false, not_false_eq_true, Nat.lt_irrefl, or_true, true_or, or_false, false_or, z_cell_lt, Value.category, ord_0, g2, ho0, hk2, i1, i2]
  exact w_snx hk hn hlen hs hus hb n 0 (by omega) (by omega)
theorem c_evt (hk : ordOK o k) (hlen : len < 10000) {s i : Nat} (hs : s < len) (hi : i < 7) (hin : A 0 s < 128) : zK (d + 1) 57 [.ref o, .int (nI s), .int (nI i)] (ordSet h o k len m A B C op sn tl n la, u) Q = Q (some (.int (nI (2 * i + if (A 0 s).testBit i then 1 else 0))), (ordSet h o k len m A B C op sn tl n la, u)) := by
  obtain ⟨k1, k2, k3⟩ := id hk
  have ho0 : o < 1000 := by omega
  have hk0 : k < 1000 := by omega
  have g0 : ∀ A B C op sn tl n la, ordSet h o k len m A B C op sn tl n la k = zI 0 len (fun x => nI (A 0 x)) := fun A B C op sn tl n la => ord_A (i := 0) hk (by decide)
  have i1 : vp_in (nI s) len := vp_in_nI hs (by omega)
  have i2 : (nI s).toNatClampNeg = s := nI_clamp (by omega)
  have e2 : (2 : Int32) * nI i = nI (2 * i) := pk_mul 2 i
  refine zK_of (k := 1) (by omega) ?_
  refine zK_in (M := MX4_eventOf) rfl (Nat.le_of_ble_eq_true rfl) ?_
  show zW 0 MX4_eventOf 0 ([.ref o, .int (nI s), .int (nI i)], [], (ordSet h o k len m A B C op sn tl n la, u)) _
  simp only [eX4_eventOf_0, eX4_eventOf_1, eX4_eventOf_2, eX4_eventOf_3, eX4_eventOf_4, eX4_eventOf_7, eX4_eventOf_8, eX4_eventOf_9, eX4_eventOf_10, eX4_eventOf_11, eX4_eventOf_12, eX4_eventOf_13, eX4_eventOf_14, rX4_eventOf, zg_aload, zg_getfield, zg_iadd, zg_iaload, zg_iand, zg_iconst, zg_iload, zg_imul, zg_ireturn, zg_ishr, q10, q01, q00, ite_self, zLd_i, zLd_l, zLd_a, zInc_i, zGet_o, zGet2_s, zPut_o, zAld_i, zAll_j, zAst_i, zAsl_j, zLen_i, zLen_j, zRt_i, zRt_z, zRl2_l, zRv_n, List.getElem?_cons_zero, List.getElem?_cons_succ, List.length_cons, List.length_nil, z_set, z_set2, z_cut, List.set_cons_zero, List.set_cons_succ, Option.toList_some, Option.toList_none, List.cons_append, List.nil_append, zif, zW_ite, zfit_0, zfit_1, zfit_2, zfit_3, zisc_o, zRt_c, zRt_b, List.map_cons, List.map_nil, List.sum_cons, List.sum_nil, true_and, and_true, if_true, if_false, ite_true, ite_false, Nat.reduceLT, Nat.reduceLeDiff, Nat.reduceAdd, Nat.reduceEqDiff, eq_self, not_true_eq_false, not_false_eq_true, Nat.lt_irrefl, or_true, true_or, or_false, false_or, z_cell_lt, Value.category, ord_0, g0, ho0, hk0, i1, i2, q_bit _ hin i (by omega), e2]
  split
  · rw [nI_1]
  · rw [Int32.add_zero]; rfl
end ORD

