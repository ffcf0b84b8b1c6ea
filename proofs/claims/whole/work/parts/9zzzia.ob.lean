/-! an object stays of its class -/
def zOb (ci k : Nat) (h : Nat → zE) : Prop := ∃ f, h k = .inr (ci, f)
theorem ob_up {ci k a : Nat} {h : Nat → zE} {e : zE} (h1 : zOb ci k h) (he : ∀ f, h a = .inr (ci, f) → ∃ g, e = .inr (ci, g)) : zOb ci k (z_up h a e) := by
  by_cases q : k = a
  · subst q
    obtain ⟨f, hf⟩ := h1
    obtain ⟨g, hg⟩ := he f hf
    exact ⟨g, by rw [z_up_s]; exact hg⟩
  · obtain ⟨f, hf⟩ := h1
    exact ⟨f, by rw [z_up_n _ _ q]; exact hf⟩
theorem ob_new {ci k n : Nat} {h : Nat → zE} {e : zE} (h1 : zOb ci k h) (hk : k < n) : zOb ci k (z_up h n e) := by
  obtain ⟨f, hf⟩ := h1
  exact ⟨f, by rw [z_up_n _ _ (Nat.ne_of_lt hk)]; exact hf⟩
theorem zplain_ob {I : Instr} {x : zX} {S S' : zS} {P : Prop} {ci k : Nat} (hz : zplain I x S = some (P, S')) (hk : k < S.2.2.2.1) (h : zOb ci k S.2.2.1) : zOb ci k S'.2.2.1 := by
  cases I <;> simp only [zplain] at hz
  all_goals try (first
    | (cases hz; done)
    | (obtain ⟨L, st, H⟩ := S; cases hz; exact h)
    | (obtain ⟨L, a, b, r, H, rfl, -, rfl⟩ := zbin_inv hz; exact h)
    | (obtain ⟨L, a, b, r, H, rfl, -, rfl⟩ := zbinl_inv hz; exact h)
    | (obtain ⟨L, a, b, r, H, rfl, rfl⟩ := zbinm_inv hz; exact h)
    | (obtain ⟨L, a, r, H, rfl, rfl⟩ := zun_inv hz; exact h)
    | (obtain ⟨L, st, H, y, rfl, q, rfl⟩ := zld_inv0 hz; exact h)
    | (obtain ⟨L, st, H, y, rfl, q, rfl⟩ := zld_inv1 hz; exact h)
    | (obtain ⟨L, st, H, y, rfl, q, rfl⟩ := zld_inv2 hz; exact h)
    | (obtain ⟨L, y, r, H, rfl, -, rfl⟩ := zst_inv0 hz; exact h)
    | (obtain ⟨L, y, r, H, rfl, -, rfl⟩ := zst_inv1 hz; exact h)
    | (obtain ⟨L, y, r, H, rfl, -, rfl⟩ := zst_inv2 hz; exact h)
    | (obtain ⟨L, a, r, H, o, v, rfl, q1, q2, -, rfl⟩ := zget_inv hz; exact h)
    | (obtain ⟨L, i, a, r, H, t1, N, f, rfl, q1, -, rfl⟩ := zald_inv hz; exact h)
    | (obtain ⟨L, i, a, r, H, t1, N, f, rfl, q1, -, rfl⟩ := zaldl_inv hz; exact h)
    | (obtain ⟨L, y, i, a, r, H, t1, N, f, rfl, q1, -, rfl⟩ := zast_inv hz; exact ob_up h (fun g hg => by rw [q1] at hg; cases hg))
    | (obtain ⟨L, y, i, a, r, H, t1, N, f, rfl, q1, -, rfl⟩ := zastl_inv hz; exact ob_up h (fun g hg => by rw [q1] at hg; cases hg))
    | (obtain ⟨L, a, r, H, q, rfl, q1, -, rfl⟩ := zlen_inv hz; exact h))
  case iinc i n =>
    obtain ⟨L, st, H⟩ := S
    split at hz
    · cases hz; exact h
    · cases hz
  case l2i =>
    obtain ⟨L, st, H⟩ := S
    split at hz
    · cases hz; exact h
    · cases hz
  case putfield i =>
    obtain ⟨L, v, a, r, H, o, rfl, q1, -, rfl⟩ := zput_inv hz
    exact ob_up h (fun g hg => by rw [q1] at hg; cases hg; exact ⟨_, rfl⟩)
  case bastore =>
    split at hz
    · obtain ⟨L, y, i, a, r, H, t1, N, f, rfl, q1, -, rfl⟩ := zast_inv hz; exact ob_up h (fun g hg => by rw [q1] at hg; cases hg)
    · obtain ⟨L, y, i, a, r, H, t1, N, f, rfl, q1, -, rfl⟩ := zast_inv hz; exact ob_up h (fun g hg => by rw [q1] at hg; cases hg)
  case newarray a =>
    obtain ⟨L, st, h1, n, kc, ks⟩ := S
    simp only [znewa] at hz
    split at hz
    · cases hz; exact ob_new h hk
    · cases hz
  case new i =>
    obtain ⟨L, st, h1, n, kc, ks⟩ := S
    simp only [znew] at hz
    cases hz
    exact ob_new h hk
  case dup =>
    obtain ⟨L, st, H⟩ := S
    simp only [zdup] at hz
    split at hz
    · cases hz; exact h
    · cases hz
  case pop =>
    obtain ⟨L, st, H⟩ := S
    simp only [zpop] at hz
    split at hz
    · cases hz; exact h
    · cases hz
  case pop2 =>
    obtain ⟨L, st, H⟩ := S
    simp only [zpop2] at hz
    split at hz
    · cases hz; exact h
    · cases hz
  case dup2 =>
    obtain ⟨L, st, H⟩ := S
    simp only [zdup2] at hz
    split at hz
    · cases hz; exact h
    · cases hz
  case invokestatic i =>
    split at hz
    rotate_left
    · obtain ⟨L, st, H⟩ := S
      simp only [zchi] at hz
      split at hz
      · cases hz; exact h
      · cases hz
    · obtain ⟨L, st, H⟩ := S
      simp only [zmxl] at hz
      split at hz
      · cases hz; exact h
      · cases hz
    · obtain ⟨L, st, H⟩ := S
      simp only [zmn] at hz
      split at hz
      · cases hz; exact h
      · cases hz
    · obtain ⟨L, st, H⟩ := S
      simp only [zmx] at hz
      split at hz
      · cases hz; exact h
      · cases hz
    · cases hz
    · obtain ⟨L, st, H⟩ := S
      simp only [zcopy] at hz
      split at hz
      · split at hz
        · rename_i q1 q2
          cases hz; exact ob_up h (fun g hg => by rw [q2] at hg; cases hg)
        · rename_i q1 q2
          cases hz; exact ob_up h (fun g hg => by rw [q2] at hg; cases hg)
        · cases hz
      · cases hz
  case invokespecial i =>
    split at hz
    · obtain ⟨L, st, H⟩ := S
      simp only [zobj] at hz
      split at hz
      · cases hz; exact h
      · cases hz
    · cases hz
def yO (ci k : Nat) (C : zC) : Prop := ∀ y as H r, C y as H r → yH H → (∀ v ∈ as, yok H.2.1 v) → k < H.2.1 → zOb ci k H.1 → zOb ci k r.2.1
theorem zrun_ob {C : zC} {M : zM} {ci k : Nat} (hC : yC C) (hL : yO ci k C) (hM : ∀ q ∈ M.2.2.2.2.2, zok 0 q.2.2.2.2.2.2.1) : ∀ n pc S r, zrun C M n pc S r → ySt S → k < S.2.2.2.1 → zOb ci k S.2.2.1 → zOb ci k r.2.1 := by
  intro n
  induction n with
  | zero => intro pc S r h; exact absurd h id
  | succ n ih =>
    intro pc S r h hw hk hl9
    unfold zrun at h
    split at h
    · exact absurd h id
    · rename_i I nx x hl
      have hx := hM _ (z_lookup_mem hl)
      unfold zone at h
      split at h
      · rename_i q hq
        obtain ⟨-, g1, g2⟩ := zplain_sh hx hq h.1 hw
        exact ih nx q.2 r h.2 g1 (Nat.lt_of_lt_of_le hk g2) (zplain_ob hq hk hl9)
      · split at h
        · rename_i q hq
          exact ih q.1 (S.1, q.2, S.2.2) r h ⟨hw.1, fun v hv => hw.2.1 v (zjump_sub hq v hv), hw.2.2⟩ hk hl9
        · split at h
          · obtain ⟨-, rfl⟩ := h
            exact hl9
          · split at h
            · rename_i q hq
              obtain ⟨hP, v, hv, hkk⟩ := h
              obtain ⟨e1, e2, e3⟩ := zinv_inv hq
              have has : ∀ u ∈ q.2.2.1, yok S.2.2.2.1 u := fun u hu => hw.2.1 u (by rw [e2] at hu; exact List.mem_of_mem_take (List.mem_reverse.mp hu))
              obtain ⟨-, c2, c3⟩ := hC _ _ _ _ hv hw.2.2 has
              exact ih nx (S.1, v.1.toList ++ q.2.2.2, v.2) r hkk ⟨fun u hu => (hw.1 u hu).mono c3.1, fun u hu => by
                rcases List.mem_append.mp hu with hu | hu
                · exact c3.2 u (by simpa using hu)
                · exact (hw.2.1 u (by rw [e3] at hu; exact List.mem_of_mem_drop hu)).mono c3.1, c2⟩ (Nat.lt_of_lt_of_le hk c3.1) (hL _ _ _ _ hv hw.2.2 has hk hl9)
            · exact absurd h id
theorem zB_ob {Ms : List zM} (hMs : ∀ M ∈ Ms, zMok Ms M) (ci k : Nat) : ∀ d, yO ci k (zB Ms d) := by
  intro d
  induction d with
  | zero => intro y as H r h; exact absurd h id
  | succ d ih =>
    intro y as H r h hw ha hk hl
    obtain ⟨M, h1, -, n, h2⟩ := h
    exact zrun_ob (zB_sh hMs d) ih (fun q hq => ((hMs M (List.mem_of_getElem? h1)).1 q hq).1) n 0 _ r h2 ⟨y_in_ok ha, fun v hv => absurd hv List.not_mem_nil, hw⟩ hk hl
