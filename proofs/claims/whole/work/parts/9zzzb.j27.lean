/-! the machine moved down by one name: every instruction, every run -/
theorem y_pos {a n : Nat} (h : (0 < a ∧ a < n) ∨ 1000 ≤ a) (h1 : a < 1000) : 0 < a := by omega
theorem y_klt {a : Nat} (h : a < 1000) : sh_k a < 1000 := by unfold sh_k; rw [if_pos h]; omega
theorem zplain_sh {I : Instr} {x : zX} {S S' : zS} {P : Prop} (hx : zok 0 x.2.2.2.1) (hz : zplain I x S = some (P, S')) (hP : P) (hw : ySt S) : ySh I x S S' := by
  have cn : ∀ {v : Value} {r : List Value} {n : Nat}, yok n v → (∀ u ∈ r, yok n u) → ∀ u ∈ v :: r, yok n u := fun {v r n} h1 h2 u hu => (List.mem_cons.mp hu).elim (fun e => by rw [e]; exact h1) (h2 u)
  have hn : S.2.2.2.1 ≤ 1000 := hw.2.2.2.1
  unfold ySh
  cases I <;> simp only [zplain] at hz ⊢
  all_goals try (first
    | (cases hz; done)
    | (obtain ⟨L, st, H⟩ := S; cases hz; exact ⟨⟨True, trivial, by show some (True, (_, x.2.2.2.1 :: _, _)) = some (True, (_, sh_v x.2.2.2.1 :: _, _)); rw [sh_c hx]; rfl⟩, yg_st hw (cn (yok_z hx) hw.2.1)⟩)
    | (obtain ⟨L, a, b, r, H, rfl, rfl, rfl⟩ := zbin_inv hz; exact ⟨⟨_, hP, rfl⟩, yg_st hw (cn trivial (fun u hu => hw.2.1 u (List.mem_cons_of_mem _ (List.mem_cons_of_mem _ hu))))⟩)
    | (obtain ⟨L, a, b, r, H, rfl, rfl, rfl⟩ := zbinl_inv hz; exact ⟨⟨_, hP, rfl⟩, yg_st hw (cn trivial (fun u hu => hw.2.1 u (List.mem_cons_of_mem _ (List.mem_cons_of_mem _ hu))))⟩)
    | (obtain ⟨L, a, b, r, H, rfl, rfl⟩ := zbinm_inv hz; exact ⟨⟨True, trivial, rfl⟩, yg_st hw (cn trivial (fun u hu => hw.2.1 u (List.mem_cons_of_mem _ (List.mem_cons_of_mem _ hu))))⟩)
    | (obtain ⟨L, a, r, H, rfl, rfl⟩ := zun_inv hz; exact ⟨⟨True, trivial, rfl⟩, yg_st hw (cn trivial (fun u hu => hw.2.1 u (List.mem_cons_of_mem _ hu)))⟩)
    | (obtain ⟨L, st, H, y, rfl, q, rfl⟩ := zld_inv0 hz; exact ⟨⟨True, trivial, sh_ld0 q⟩, yg_st hw (cn trivial hw.2.1)⟩)
    | (obtain ⟨L, st, H, y, rfl, q, rfl⟩ := zld_inv1 hz; exact ⟨⟨True, trivial, sh_ld1 q⟩, yg_st hw (cn trivial hw.2.1)⟩)
    | (obtain ⟨L, st, H, y, rfl, q, rfl⟩ := zld_inv2 hz; exact ⟨⟨True, trivial, sh_ld2 q⟩, yg_st hw (cn (hw.1 _ (List.mem_of_getElem? q)) hw.2.1)⟩)
    | (obtain ⟨L, y, r, H, rfl, rfl, rfl⟩ := zst_inv0 hz; exact ⟨sh_st0 hP, yg_lo hw (fun u hu => hw.2.1 u (List.mem_cons_of_mem _ hu)) (y_set_ok hw.1 trivial)⟩)
    | (obtain ⟨L, y, r, H, rfl, rfl, rfl⟩ := zst_inv1 hz; exact ⟨sh_st1 hP, yg_lo hw (fun u hu => hw.2.1 u (List.mem_cons_of_mem _ hu)) (y_set2_ok hw.1 trivial)⟩)
    | (obtain ⟨L, y, r, H, rfl, rfl, rfl⟩ := zst_inv2 hz; exact ⟨sh_st2 hP, yg_lo hw (fun u hu => hw.2.1 u (List.mem_cons_of_mem _ hu)) (y_set_ok hw.1 (hw.2.1 (.ref y) List.mem_cons_self))⟩)
    | (obtain ⟨L, a, r, H, o, v, rfl, q1, q2, rfl, rfl⟩ := zget_inv hz; exact ⟨sh_get hn (hw.2.1 (.ref a) List.mem_cons_self) q1 q2 hP, yg_st hw (cn (y_cell_ok hw.2.2 (hw.2.1 (.ref a) List.mem_cons_self) q1 v (List.mem_of_getElem? q2)) (fun u hu => hw.2.1 u (List.mem_cons_of_mem _ hu)))⟩)
    | (obtain ⟨L, i, a, r, H, t1, N, f, rfl, q1, rfl, rfl⟩ := zald_inv hz; exact ⟨sh_ald hn (hw.2.1 (.ref a) (List.mem_cons_of_mem _ List.mem_cons_self)) q1 hP, yg_st hw (cn trivial (fun u hu => hw.2.1 u (List.mem_cons_of_mem _ (List.mem_cons_of_mem _ hu))))⟩)
    | (obtain ⟨L, i, a, r, H, t1, N, f, rfl, q1, rfl, rfl⟩ := zaldl_inv hz
       have ha : (0 < a ∧ a < H.2.1) ∨ 1000 ≤ a := hw.2.1 (.ref a) (List.mem_cons_of_mem _ List.mem_cons_self)
       exact ⟨sh_aldl (by have := hP.2.1; omega) q1 hP, yg_st hw (cn trivial (fun u hu => hw.2.1 u (List.mem_cons_of_mem _ (List.mem_cons_of_mem _ hu))))⟩)
    | (obtain ⟨L, y, i, a, r, H, t1, N, f, rfl, q1, rfl, rfl⟩ := zast_inv hz
       have ha : (0 < a ∧ a < H.2.1) ∨ 1000 ≤ a := hw.2.1 (.ref a) (List.mem_cons_of_mem _ (List.mem_cons_of_mem _ List.mem_cons_self))
       exact ⟨sh_ast (by have := hP.2.1; omega) q1 hP, yg_up hw (fun u hu => hw.2.1 u (List.mem_cons_of_mem _ (List.mem_cons_of_mem _ (List.mem_cons_of_mem _ hu)))) trivial⟩)
    | (obtain ⟨L, y, i, a, r, H, t1, N, f, rfl, q1, rfl, rfl⟩ := zastl_inv hz
       have ha : (0 < a ∧ a < H.2.1) ∨ 1000 ≤ a := hw.2.1 (.ref a) (List.mem_cons_of_mem _ (List.mem_cons_of_mem _ List.mem_cons_self))
       exact ⟨sh_astl (by have := hP.2.1; omega) q1 hP, yg_up hw (fun u hu => hw.2.1 u (List.mem_cons_of_mem _ (List.mem_cons_of_mem _ (List.mem_cons_of_mem _ hu)))) trivial⟩)
    | (obtain ⟨L, a, r, H, q, rfl, q1, rfl, rfl⟩ := zlen_inv hz; exact ⟨sh_len hn (hw.2.1 (.ref a) List.mem_cons_self) q1 hP, yg_st hw (cn trivial (fun u hu => hw.2.1 u (List.mem_cons_of_mem _ hu)))⟩))
  case iinc i n =>
    obtain ⟨L, st, H⟩ := S
    split at hz
    · rename_i y n q1 q2
      cases hz
      have e : (sh_S (L, st, H)).1[i]? = some (.int y) := by
        show (L.map sh_v)[i]? = _
        rw [List.getElem?_map, q1]; rfl
      refine ⟨⟨i < (L.map sh_v).length, by rw [List.length_map]; exact hP, ?_⟩, yg_lo hw hw.2.1 (y_set_ok hw.1 trivial)⟩
      rw [e, q2]
      show some (_, (z_set (L.map sh_v) i (sh_v (.int (y + n))), _, _)) = some (_, ((z_set L i (.int (y + n))).map sh_v, _, _))
      rw [sh_set]
      rfl
    · cases hz
  case l2i =>
    obtain ⟨L, st, H⟩ := S
    split at hz
    · rename_i y r q
      simp only at q
      subst q
      cases hz; exact ⟨⟨True, trivial, rfl⟩, yg_st hw (cn trivial (fun u hu => hw.2.1 u (List.mem_cons_of_mem _ hu)))⟩
    · cases hz
  case putfield i =>
    obtain ⟨L, v, a, r, H, o, rfl, q1, rfl, rfl⟩ := zput_inv hz
    have hsc : (0 < a ∧ a < H.2.1) ∨ 1000 ≤ a := hw.2.1 (.ref a) (by simp)
    have h0 : 0 < a := by have := hP.2.1; omega
    have ha := hw.2.2.2.2 a h0 (show a < H.2.1 by have := hP.2.1; omega)
    rw [show (L, v :: Value.ref a :: r, H).2.2.1 a = .inr o from q1] at ha
    refine ⟨sh_put h0 q1 hP, yg_up hw (fun u hu => hw.2.1 u (List.mem_cons_of_mem _ (List.mem_cons_of_mem _ hu))) ⟨ha.1, fun u hu => ?_⟩⟩
    rcases List.mem_or_eq_of_mem_set hu with h | rfl
    · exact ha.2 u h
    · exact hw.2.1 _ List.mem_cons_self
  case bastore =>
    split at hz
    · rename_i hb
      obtain ⟨L, y, i, a, r, H, t1, N, f, rfl, q1, rfl, rfl⟩ := zast_inv hz
      have ha : (0 < a ∧ a < H.2.1) ∨ 1000 ≤ a := hw.2.1 (.ref a) (List.mem_cons_of_mem _ (List.mem_cons_of_mem _ List.mem_cons_self))
      refine ⟨?_, yg_up hw (fun u hu => hw.2.1 u (List.mem_cons_of_mem _ (List.mem_cons_of_mem _ (List.mem_cons_of_mem _ hu)))) trivial⟩
      exact sh_ast (by have := hP.2.1; omega) q1 hP
    · rename_i hb
      obtain ⟨L, y, i, a, r, H, t1, N, f, rfl, q1, rfl, rfl⟩ := zast_inv hz
      have ha : (0 < a ∧ a < H.2.1) ∨ 1000 ≤ a := hw.2.1 (.ref a) (List.mem_cons_of_mem _ (List.mem_cons_of_mem _ List.mem_cons_self))
      refine ⟨?_, yg_up hw (fun u hu => hw.2.1 u (List.mem_cons_of_mem _ (List.mem_cons_of_mem _ (List.mem_cons_of_mem _ hu)))) trivial⟩
      exact sh_ast (by have := hP.2.1; omega) q1 hP
  case newarray a =>
    obtain ⟨L, st, h, n, kc, ks⟩ := S
    simp only [znewa] at hz
    split at hz
    · rename_i i r
      cases hz
      have h0 : 0 < n := hw.2.2.1
      have h1 : n < 1000 := hP.2
      refine ⟨⟨(¬ i < 0 ∧ i.toNatClampNeg ≤ 100000) ∧ n - 1 < 1000, ⟨hP.1, by omega⟩, ?_⟩, yg_new hw hP.2 (fun u hu => hw.2.1 u (List.mem_cons_of_mem _ hu)) (by unfold z_a0; split <;> trivial)⟩
      have ek : sh_k n = n - 1 := by rw [sh_k, if_pos h1]
      show some (_, (L.map sh_v, Value.ref (n - 1) :: r.map sh_v, (z_up (sh_h h) (n - 1) (z_a0 _ _), (n - 1 + 1, _, _)))) = some (_, (L.map sh_v, Value.ref (sh_k n) :: r.map sh_v, (sh_h (z_up h n (z_a0 _ _)), (n + 1 - 1, _, _))))
      rw [← sh_up h0 h1, sh_a0, ek, show n - 1 + 1 = n + 1 - 1 by omega]
      rfl
    · cases hz
  case new i =>
    obtain ⟨L, st, h, n, kc, ks⟩ := S
    simp only [znew] at hz ⊢
    cases hz
    have h0 : 0 < n := hw.2.2.1
    have h1 : n < 1000 := hP.2
    refine ⟨⟨x.2.1 < 12 ∧ n - 1 < 1000, ⟨hP.1, by omega⟩, ?_⟩, yg_new hw hP.2 hw.2.1 ⟨Nat.lt_trans hP.1 (by decide), fun v hv => y_nf_ok _ v hv _⟩⟩
    have ek : sh_k n = n - 1 := by rw [sh_k, if_pos h1]
    show some (_, (L.map sh_v, Value.ref (n - 1) :: st.map sh_v, (z_up (sh_h h) (n - 1) (zO x.2.1 (z_nf x.2.1)), (n - 1 + 1, _, _)))) = some (_, (L.map sh_v, Value.ref (sh_k n) :: st.map sh_v, (sh_h (z_up h n (zO x.2.1 (z_nf x.2.1))), (n + 1 - 1, _, _))))
    rw [← sh_up h0 h1, ek, show n - 1 + 1 = n + 1 - 1 by omega, show sh_e (zO x.2.1 (z_nf x.2.1)) = zO x.2.1 ((z_nf x.2.1).map sh_v) from rfl, sh_nf]
    rfl
  case dup =>
    obtain ⟨L, st, H⟩ := S
    simp only [zdup] at hz
    split at hz
    · rename_i v r
      cases hz; exact ⟨⟨(sh_v v).category = 1, by cases v <;> exact hP, rfl⟩, yg_st hw (cn (hw.2.1 _ List.mem_cons_self) hw.2.1)⟩
    · cases hz
  case pop =>
    obtain ⟨L, st, H⟩ := S
    simp only [zpop] at hz
    split at hz
    · rename_i v r
      cases hz; exact ⟨⟨(sh_v v).category = 1, by cases v <;> exact hP, rfl⟩, yg_st hw (fun u hu => hw.2.1 u (List.mem_cons_of_mem _ hu))⟩
    · cases hz
  case pop2 =>
    obtain ⟨L, st, H⟩ := S
    simp only [zpop2] at hz
    split at hz
    · rename_i v r
      cases hz; exact ⟨⟨(sh_v v).category = 2, by cases v <;> exact hP, rfl⟩, yg_st hw (fun u hu => hw.2.1 u (List.mem_cons_of_mem _ hu))⟩
    · cases hz
  case dup2 =>
    obtain ⟨L, st, H⟩ := S
    simp only [zdup2] at hz
    split at hz
    · rename_i v w r
      cases hz; exact ⟨⟨(sh_v v).category = 1 ∧ (sh_v w).category = 1, ⟨by cases v <;> exact hP.1, by cases w <;> exact hP.2⟩, rfl⟩, yg_st hw (cn (hw.2.1 _ List.mem_cons_self) (cn (hw.2.1 _ (List.mem_cons_of_mem _ List.mem_cons_self)) hw.2.1))⟩
    · cases hz
  case invokestatic i =>
    split at hz
    rotate_left
    · obtain ⟨L, st, H⟩ := S
      simp only [zchi] at hz
      split at hz
      · rename_i n i r
        cases hz
        refine ⟨⟨(((r.map sh_v).map fun v => v.category).sum ≤ 8 ∧ ¬ i < 0 ∧ i < n), ⟨by rw [sh_cat]; exact hP.1, hP.2⟩, rfl⟩, yg_st hw (fun u hu => hw.2.1 u (List.mem_cons_of_mem _ (List.mem_cons_of_mem _ hu)))⟩
      · cases hz
    · obtain ⟨L, st, H⟩ := S
      simp only [zmxl] at hz
      split at hz
      · rename_i y z r
        cases hz
        refine ⟨⟨((r.map sh_v).map fun v => v.category).sum ≤ 8, by rw [sh_cat]; exact hP, rfl⟩, yg_st hw (cn trivial (fun u hu => hw.2.1 u (List.mem_cons_of_mem _ (List.mem_cons_of_mem _ hu))))⟩
      · cases hz
    · obtain ⟨L, st, H⟩ := S
      simp only [zmn] at hz
      split at hz
      · rename_i y z r
        cases hz
        refine ⟨⟨((r.map sh_v).map fun v => v.category).sum ≤ 8, by rw [sh_cat]; exact hP, rfl⟩, yg_st hw (cn trivial (fun u hu => hw.2.1 u (List.mem_cons_of_mem _ (List.mem_cons_of_mem _ hu))))⟩
      · cases hz
    · obtain ⟨L, st, H⟩ := S
      simp only [zmx] at hz
      split at hz
      · rename_i y z r
        cases hz
        refine ⟨⟨((r.map sh_v).map fun v => v.category).sum ≤ 8, by rw [sh_cat]; exact hP, rfl⟩, yg_st hw (cn trivial (fun u hu => hw.2.1 u (List.mem_cons_of_mem _ (List.mem_cons_of_mem _ hu))))⟩
      · cases hz
    · cases hz
    · obtain ⟨L, st, H⟩ := S
      simp only [zcopy] at hz
      split at hz
      · rename_i n dp b sp a r
        have hb : (0 < b ∧ b < H.2.1) ∨ 1000 ≤ b := hw.2.1 (.ref b) (by simp)
        have ha : (0 < a ∧ a < H.2.1) ∨ 1000 ≤ a := hw.2.1 (.ref a) (by simp)
        have tl : ∀ u ∈ r, yok H.2.1 u := fun u hu => hw.2.1 u (List.mem_cons_of_mem _ (List.mem_cons_of_mem _ (List.mem_cons_of_mem _ (List.mem_cons_of_mem _ (List.mem_cons_of_mem _ hu)))))
        split at hz
        · rename_i n0 f n1 g q1 q2
          cases hz
          obtain ⟨⟨p1, p2, p3⟩, p4⟩ := hP
          have ea : sh_h H.1 (sh_k a) = .inl (0, n0, .inl f) := by rw [sh_at (y_pos ha p1) p1]; exact congrArg sh_e q1
          have eb : sh_h H.1 (sh_k b) = .inl (0, n1, .inl g) := by rw [sh_at (y_pos hb p2) p2]; exact congrArg sh_e q2
          have ka : sh_k a < 1000 := y_klt p1
          have kb : sh_k b < 1000 := y_klt p2
          refine ⟨⟨(sh_k a < 1000 ∧ sh_k b < 1000 ∧ ((r.map sh_v).map fun v => v.category).sum ≤ 8) ∧ ¬ sp < 0 ∧ ¬ dp < 0 ∧ ¬ n < 0 ∧ sp.toNatClampNeg + n.toNatClampNeg ≤ n0 ∧ dp.toNatClampNeg + n.toNatClampNeg ≤ n1, ⟨⟨ka, kb, by rw [sh_cat]; exact p3⟩, p4⟩, ?_⟩, yg_up hw tl trivial⟩
          show zcopy (L.map sh_v, .int n :: .int dp :: .ref (sh_k b) :: .int sp :: .ref (sh_k a) :: r.map sh_v, (sh_h H.1, (sh_H H).2)) = some (_, (_, _, (sh_h (z_up H.1 b (.inl (0, n1, .inl (va_cpy f g sp.toNatClampNeg dp.toNatClampNeg n.toNatClampNeg)))), _)))
          rw [← sh_up (y_pos hb p2) p2]
          simp only [zcopy, ea, eb]
          rfl
        · rename_i n0 f n1 g q1 q2
          cases hz
          obtain ⟨⟨p1, p2, p3⟩, p4⟩ := hP
          have ea : sh_h H.1 (sh_k a) = .inl (1, n0, .inr (.inl f)) := by rw [sh_at (y_pos ha p1) p1]; exact congrArg sh_e q1
          have eb : sh_h H.1 (sh_k b) = .inl (1, n1, .inr (.inl g)) := by rw [sh_at (y_pos hb p2) p2]; exact congrArg sh_e q2
          have ka : sh_k a < 1000 := y_klt p1
          have kb : sh_k b < 1000 := y_klt p2
          refine ⟨⟨(sh_k a < 1000 ∧ sh_k b < 1000 ∧ ((r.map sh_v).map fun v => v.category).sum ≤ 8) ∧ ¬ sp < 0 ∧ ¬ dp < 0 ∧ ¬ n < 0 ∧ sp.toNatClampNeg + n.toNatClampNeg ≤ n0 ∧ dp.toNatClampNeg + n.toNatClampNeg ≤ n1, ⟨⟨ka, kb, by rw [sh_cat]; exact p3⟩, p4⟩, ?_⟩, yg_up hw tl trivial⟩
          show zcopy (L.map sh_v, .int n :: .int dp :: .ref (sh_k b) :: .int sp :: .ref (sh_k a) :: r.map sh_v, (sh_h H.1, (sh_H H).2)) = some (_, (_, _, (sh_h (z_up H.1 b (.inl (1, n1, .inr (.inl (va_cpy f g sp.toNatClampNeg dp.toNatClampNeg n.toNatClampNeg))))), _)))
          rw [← sh_up (y_pos hb p2) p2]
          simp only [zcopy, ea, eb]
          rfl
        · cases hz
      · cases hz
  case invokespecial i =>
    split at hz
    · obtain ⟨L, st, H⟩ := S
      simp only [zobj] at hz
      split at hz
      · rename_i a r
        cases hz
        exact ⟨⟨((r.map sh_v).map fun v => v.category).sum ≤ 8, by rw [sh_cat]; exact hP, rfl⟩, yg_st hw (fun u hu => hw.2.1 u (List.mem_cons_of_mem _ hu))⟩
      · cases hz
    · cases hz
theorem zj_none {I : Instr} {x : zX} {nx : Nat} {st : List Value} {q : Nat × List Value} (h : zjump I x nx st = some q) : (∀ S, zplain I x S = none) ∧ zjump I x nx (st.map sh_v) = some (q.1, q.2.map sh_v) := by
  unfold zjump at h
  split at h
  · cases h; exact ⟨fun S => rfl, rfl⟩
  · split at h
    · cases h; exact ⟨fun S => rfl, rfl⟩
    · cases h
  · split at h
    · cases h; exact ⟨fun S => rfl, rfl⟩
    · cases h
  · split at h
    · cases h; exact ⟨fun S => rfl, rfl⟩
    · cases h
  · split at h
    · cases h; exact ⟨fun S => rfl, rfl⟩
    · cases h
  · cases h
theorem zr_none {rt : Option FieldType} {I : Instr} {st : List Value} {q : Prop × Option Value} (h : zret rt I st = some q) : (∀ x S, zplain I x S = none) ∧ (∀ x nx st, zjump I x nx st = none) ∧ zret rt I (st.map sh_v) = some (q.1, q.2.map sh_v) ∧ ∀ v n, q.2 = some v → yok n v := by
  rcases zret_inv h with ⟨rfl, v, ty, rfl, rfl, rfl⟩ | ⟨rfl, v, rfl, rfl, rfl⟩ | ⟨rfl, rfl, rfl, rfl⟩
  · exact ⟨fun _ _ => rfl, fun _ _ _ => rfl, rfl, fun w n e => by cases e; trivial⟩
  · exact ⟨fun _ _ => rfl, fun _ _ _ => rfl, rfl, fun w n e => by cases e; trivial⟩
  · exact ⟨fun _ _ => rfl, fun _ _ _ => rfl, rfl, fun w n e => by cases e⟩
theorem sh_take (st : List Value) (k : Nat) : ((st.map sh_v).take k).reverse = (st.take k).reverse.map sh_v := by rw [← List.map_take, List.map_reverse]
theorem zi_none {I : Instr} {x : zX} {S : zS} {q : Prop × Nat × List Value × List Value} (hp : zinv I x S = some q) (hP : q.1) (hw : ySt S) : (∀ S, zplain I x S = none) ∧ (∀ nx st, zjump I x nx st = none) ∧ (∀ rt st, zret rt I st = none) ∧ ∃ P' : Prop, P' ∧ zinv I x (sh_S S) = some (P', q.2.1, q.2.2.1.map sh_v, q.2.2.2.map sh_v) := by
  obtain ⟨L, st, H⟩ := S
  unfold zinv at hp
  split at hp
  · cases hp
    obtain ⟨f0, f1, f2⟩ := hP
    refine ⟨fun S => ?_, fun _ _ => rfl, fun _ _ => rfl, (x.1 < 900 ∧ x.2.1 ≤ (st.map sh_v).length ∧ (((st.map sh_v).drop x.2.1).map fun v => v.category).sum ≤ 8), ⟨f0, by rw [List.length_map]; exact f1, by rw [← List.map_drop, sh_cat]; exact f2⟩, ?_⟩
    · simp only [zplain]
      split <;> first | rfl | omega
    · exact congrArg some (Prod.ext rfl (Prod.ext rfl (Prod.ext (sh_take st x.2.1) List.map_drop.symm)))
  · split at hp
    · rename_i b t heq
      cases hp
      obtain ⟨f0, f1, f2⟩ := hP
      refine ⟨fun S => ?_, fun _ _ => rfl, fun _ _ => rfl, (x.1 < 900 ∧ x.2.1 ≤ (st.map sh_v).length ∧ (((st.map sh_v).drop x.2.1).map fun v => v.category).sum ≤ 8), ⟨f0, by rw [List.length_map]; exact f1, by rw [← List.map_drop, sh_cat]; exact f2⟩, ?_⟩
      · simp only [zplain]
        split <;> first | rfl | omega
      · simp only at heq
        have e : ((st.map sh_v).take x.2.1).reverse = .ref (sh_k b) :: t.map sh_v := by rw [sh_take, heq]; rfl
        simp only [zinv, sh_S, e]
        rw [heq, ← List.map_drop]
        rfl
    · cases hp
  · split at hp
    · rename_i b t heq
      cases hp
      obtain ⟨f3, f0, f1, f2⟩ := hP
      simp only at heq
      have hb : (0 < b ∧ b < H.2.1) ∨ 1000 ≤ b := hw.2.1 (.ref b) (List.mem_of_mem_take (List.mem_reverse.mp (by rw [heq]; exact List.mem_cons_self)))
      refine ⟨fun S => rfl, fun _ _ => rfl, fun _ _ => rfl, (zisc (z_cell (sh_h H.1) (sh_k b)) x.2.2.1 ∧ x.1 < 900 ∧ x.2.1 ≤ (st.map sh_v).length ∧ (((st.map sh_v).drop x.2.1).map fun v => v.category).sum ≤ 8), ⟨?_, f0, by rw [List.length_map]; exact f1, by rw [← List.map_drop, sh_cat]; exact f2⟩, ?_⟩
      · rw [sh_cell hw.2.2.2.1 hb]
        simp only at f3
        cases hc : z_cell H.1 b with
        | inl a => rw [hc] at f3; exact absurd f3 id
        | inr o => rw [hc] at f3; exact f3
      · have e : ((st.map sh_v).take x.2.1).reverse = .ref (sh_k b) :: t.map sh_v := by rw [sh_take, heq]; rfl
        simp only [zinv, sh_S, sh_H, e]
        rw [heq, ← List.map_drop]
        rfl
    · cases hp
  · cases hp
def yGr (H : zH) (r : zR) : Prop := yH r.2 ∧ H.2.1 ≤ r.2.2.1 ∧ ∀ v, r.1 = some v → yok r.2.2.1 v
def yC (C : zC) : Prop := ∀ y as H r, C y as H r → yH H → (∀ v ∈ as, yok H.2.1 v) → C y (as.map sh_v) (sh_H H) (sh_r r) ∧ yGr H r
theorem zrun_sh {C : zC} {M : zM} (hC : yC C) (hM : ∀ q ∈ M.2.2.2.2.2, zok 0 q.2.2.2.2.2.2.1) : ∀ n pc S r, zrun C M n pc S r → ySt S → zrun C M n pc (sh_S S) (sh_r r) ∧ yGr S.2.2 r := by
  intro n
  induction n with
  | zero => intro pc S r h; exact absurd h id
  | succ n ih =>
    intro pc S r h hw
    unfold zrun at h ⊢
    split at h
    · exact absurd h id
    · rename_i I nx x hl
      have hx := hM _ (z_lookup_mem hl)
      unfold zone at h ⊢
      split at h
      · rename_i q hq
        obtain ⟨⟨P', p1, p2⟩, g1, g2⟩ := zplain_sh hx hq h.1 hw
        obtain ⟨a1, a2, a3, a4⟩ := ih nx q.2 r h.2 g1
        rw [p2]
        exact ⟨⟨p1, a1⟩, a2, Nat.le_trans g2 a3, a4⟩
      · rename_i hp
        split at h
        · rename_i q hq
          obtain ⟨e1, e2⟩ := zj_none hq
          obtain ⟨a1, a2⟩ := ih q.1 (S.1, q.2, S.2.2) r h ⟨hw.1, fun v hv => hw.2.1 v (zjump_sub hq v hv), hw.2.2⟩
          rw [e1, show (sh_S S).2.1 = S.2.1.map sh_v from rfl, e2]
          exact ⟨a1, a2⟩
        · split at h
          · rename_i q hq
            obtain ⟨h1, rfl⟩ := h
            obtain ⟨e1, e2, e3, e4⟩ := zr_none hq
            rw [e1, e2, show (sh_S S).2.1 = S.2.1.map sh_v from rfl, e3]
            exact ⟨⟨h1, rfl⟩, hw.2.2, Nat.le_refl _, fun v hv => e4 v _ hv⟩
          · split at h
            · rename_i q hq
              obtain ⟨hP, v, hv, hk⟩ := h
              obtain ⟨e1, e2, e3⟩ := zinv_inv hq
              obtain ⟨c1, c2, c3⟩ := hC _ _ _ _ hv hw.2.2 (fun u hu => hw.2.1 u (by rw [e2] at hu; exact List.mem_of_mem_take (List.mem_reverse.mp hu)))
              obtain ⟨d1, d2, d3, P', p1, p2⟩ := zi_none hq hP hw
              obtain ⟨a1, a2, a3, a4⟩ := ih nx (S.1, v.1.toList ++ q.2.2.2, v.2) r hk ⟨fun u hu => (hw.1 u hu).mono c3.1, fun u hu => by
                rcases List.mem_append.mp hu with hu | hu
                · exact c3.2 u (by simpa using hu)
                · exact (hw.2.1 u (by rw [e3] at hu; exact List.mem_of_mem_drop hu)).mono c3.1, c2⟩
              rw [d1, d2, d3, p2]
              refine ⟨⟨p1, sh_r v, c1, ?_⟩, a2, Nat.le_trans c3.1 a3, a4⟩
              have es : (sh_r v).1.toList ++ q.2.2.2.map sh_v = (v.1.toList ++ q.2.2.2).map sh_v := by
                rw [List.map_append]
                cases h9 : v.1 <;> simp [sh_r, h9]
              show zrun C M n nx ((sh_S S).1, (sh_r v).1.toList ++ q.2.2.2.map sh_v, (sh_r v).2) (sh_r r)
              rw [es]
              exact a1
            · exact absurd h id
theorem sh_in (maxL : Nat) (as : List Value) : z_in maxL (as.map sh_v) = (z_in maxL as).map sh_v := by
  have e : (as.map sh_v).flatMap (fun v => if v.category = 2 then [v, Value.null] else [v]) = (as.flatMap fun v => if v.category = 2 then [v, Value.null] else [v]).map sh_v := by
    induction as with
    | nil => rfl
    | cons a r ih =>
      rw [List.map_cons, List.flatMap_cons, List.flatMap_cons, List.map_append, ih]
      congr 1
      have : (sh_v a).category = a.category := by cases a <;> rfl
      rw [this]
      by_cases h : a.category = 2
      · rw [if_pos h, if_pos h]; rfl
      · rw [if_neg h, if_neg h]; rfl
  unfold z_in
  rw [e, List.map_append, List.length_map, List.map_replicate]
  rfl
theorem sh_inl (as : List Value) : ((as.map sh_v).flatMap fun v => if v.category = 2 then [v, Value.null] else [v]).length = (as.flatMap fun v => if v.category = 2 then [v, Value.null] else [v]).length := by
  induction as with
  | nil => rfl
  | cons a r ih =>
    rw [List.map_cons, List.flatMap_cons, List.flatMap_cons, List.length_append, List.length_append, ih]
    have : (sh_v a).category = a.category := by cases a <;> rfl
    rw [this]
    by_cases h : a.category = 2
    · rw [if_pos h, if_pos h]; rfl
    · rw [if_neg h, if_neg h]; rfl
theorem y_in_ok {n maxL : Nat} {as : List Value} (h : ∀ v ∈ as, yok n v) : ∀ v ∈ z_in maxL as, yok n v := by
  intro v hv
  unfold z_in at hv
  rcases List.mem_append.mp hv with hv | hv
  · obtain ⟨a, h1, h2⟩ := List.mem_flatMap.mp hv
    by_cases e : a.category = 2
    · rw [if_pos e] at h2
      simp only [List.mem_cons, List.not_mem_nil, or_false] at h2
      rcases h2 with rfl | rfl
      · exact h v h1
      · trivial
    · rw [if_neg e] at h2
      simp only [List.mem_cons, List.not_mem_nil, or_false] at h2
      rw [h2]
      exact h a h1
  · rw [(List.mem_replicate.mp hv).2]
    trivial
theorem zB_sh {Ms : List zM} (hMs : ∀ M ∈ Ms, zMok Ms M) : ∀ d, yC (zB Ms d) := by
  intro d
  induction d with
  | zero => intro y as H r h; exact absurd h id
  | succ d ih =>
    intro y as H r h hw ha
    obtain ⟨M, h1, hl, n, h2⟩ := h
    obtain ⟨a1, a2⟩ := zrun_sh ih (fun q hq => ((hMs M (List.mem_of_getElem? h1)).1 q hq).1) n 0 _ r h2 ⟨y_in_ok ha, fun v hv => absurd hv List.not_mem_nil, hw⟩
    refine ⟨⟨M, h1, by rw [sh_inl]; exact hl, n, ?_⟩, a2⟩
    have e : sh_S (z_in M.2.2.2.1 as, [], H) = (z_in M.2.2.2.1 (as.map sh_v), [], sh_H H) := by rw [sh_in]; rfl
    rw [← e]
    exact a1
