/-! a throw, names from 1 -/
def yXC (cA dC : Nat → ClassId) (dI : Nat → Nat → Nat) (B0 : Nat) (tr : Nat → Nat) (H : zH) : String → State → State → Prop := fun E st t => E = zNse ∧ ∃ tr' : Nat → Nat, yKp H.2.1 tr tr' ∧ va_P (dC, dI) vwCl (yw cA tr' H.1 H.2.1) t.heap ∧ va_D (fun q => B0 ≤ q) (yw cA tr' H.1 H.2.1) ∧ va_F (fun q => B0 ≤ q) st t
theorem yXC_z {cA dC : Nat → ClassId} {dI : Nat → Nat → Nat} {B0 : Nat} {tr : Nat → Nat} {H : zH} (hw : yH H) {E : String} {st t : State} (h : zXC cA dC dI B0 (dn_t tr) (sh_H H) E st t) : yXC cA dC dI B0 tr H E st t := by
  obtain ⟨h0, tr', h2, h3, h4, h5⟩ := h
  have hn := hw.2.1
  refine ⟨h0, up_t tr', fun k hk => ?_, ?_, ?_, h5⟩
  · unfold up_t
    by_cases q : k < 1000
    · rw [if_pos q, h2 (k - 1) (Or.inl (show k - 1 < H.2.1 - 1 by omega))]
      unfold dn_t
      rw [if_pos (by omega), Nat.sub_add_cancel (by omega)]
    · rw [if_neg q, h2 k (Or.inr (by omega)), dn_st (by omega)]
  · have h3 : va_P (dC, dI) vwCl (zw cA tr' (sh_h H.1) (H.2.1 - 1)) t.heap := h3
    rw [up_w hw] at h3; exact h3
  · have h4 : va_D (fun q => B0 ≤ q) (zw cA tr' (sh_h H.1) (H.2.1 - 1)) := h4
    rw [up_w hw] at h4; exact h4
theorem zpart_im {C : zC} {M : zM} {T T' : Nat → zS → Prop} (hT : ∀ pc S, T pc S → T' pc S) : ∀ n pc S, zpart C M T n pc S → zpart C M T' n pc S := by
  intro n
  induction n with
  | zero => intro pc S h; exact hT pc S h
  | succ n ih =>
    intro pc S h
    unfold zpart at h ⊢
    split at h
    · exact absurd h id
    · split at h
      · exact ⟨h.1, h.2.1, ih _ _ h.2.2⟩
      · split at h
        · exact ih _ _ h
        · split at h
          · obtain ⟨h1, v, h2, h3, h4⟩ := h
            exact ⟨h1, v, h2, h3, ih _ _ h4⟩
          · exact absurd h id
theorem x_thrY (l : Launch) (hst : l.stackTraces = false) {y d pcT : Nat} {M : zM} {as : List Value} {H : zH} (hd : 4 ≤ d) (hM : zMs[y]? = some M) (hown : M.2.1 = 10) (hP : zP d M (fun pc S => pc = pcT ∧ S.2.1 = [] ∧ S.2.2 = H) 0 (z_in M.2.2.2.1 as, [], H)) (hle : (as.flatMap fun v => if v.category = 2 then [v, Value.null] else [v]).length ≤ M.2.2.2.1) (hw : yH H) (ha : ∀ v ∈ as, yok H.2.1 v) (d0 : decode M.2.2.1 pcT = .ok (.new 146, 3)) (d3 : decode M.2.2.1 (pcT + 3) = .ok (.dup, 1)) (d4 : decode M.2.2.1 (pcT + 4) = .ok (.invokespecial 148, 3)) (d7 : decode M.2.2.1 (pcT + 7) = .ok (.athrow, 1)) (cA dC : Nat → ClassId) (dI : Nat → Nat → Nat) (B0 : Nat) (tr : Nat → Nat) : vx_Met l M.1 (Cond.code M.1 M.2.2.1 M.2.2.2.1 M.2.2.2.2.1 :: zT) (zRoom (d + 1) 1 6) (va_Pc (as.map (z_v tr)) (fun U => yPre cA dC dI B0 tr H U ∧ zPX B0 U)) (fun _ _ _ _ => False) (yXC cA dC dI B0 tr H) 1 6 (fun q => B0 ≤ q) := by
  have hMk := zMs_ok M (List.mem_of_getElem? hM)
  obtain ⟨n, hn⟩ := hP
  have h1 := zpart_sh (zB_sh zMs_ok d) (fun q hq => (hMk.1 q hq).1) n 0 _ hn ⟨y_in_ok ha, fun v hv => absurd hv List.not_mem_nil, hw⟩
  have h2 := zpart_im (T' := fun pc S => pc = pcT ∧ S.2.1 = [] ∧ S.2.2 = sh_H H) (fun pc S h => by
    obtain ⟨S0, rfl, e1, e2, e3⟩ := h
    refine ⟨e1, ?_, ?_⟩
    · show S0.2.1.map sh_v = []
      rw [e2]; rfl
    · show sh_H S0.2.2 = sh_H H
      rw [e3]) n 0 _ h1
  have e : sh_S (z_in M.2.2.2.1 as, [], H) = (z_in M.2.2.2.1 (as.map sh_v), [], sh_H H) := by rw [sh_in]; rfl
  rw [e] at h2
  have met := x_thr l hst hd hM hown ⟨n, h2⟩ (by rw [sh_inl]; exact hle) (sh_wH hw) (fun v hv => by
    obtain ⟨w, h1, rfl⟩ := List.mem_map.mp hv
    exact sh_ok hw.2.1 (ha w h1)) d0 d3 d4 d7 cA dC dI B0 (dn_t tr)
  refine MetFree.mono met (fun a s h => ?_) (fun _ _ _ _ _ h => h) (fun a s o t _ h => ?_)
  · obtain ⟨rfl, h, hx⟩ := h
    exact ⟨by rw [dn_args hw.2.1 ha], yPre_z hw h, hx⟩
  · rcases h with h | ⟨q, rfl, E, ce, L, h1, h2⟩
    · exact absurd h.1 id
    · exact Or.inr ⟨q, rfl, E, ce, L, yXC_z hw h1, h2⟩
theorem yw_len (cA : Nat → ClassId) (tr : Nat → Nat) (h : Nat → zE) (n : Nat) : (yw cA tr h n).length = n - 1 := by simp [yw]
theorem yw_set (cA : Nat → ClassId) (tr : Nat → Nat) (h : Nat → zE) (n : Nat) {k : Nat} (e : zE) (h0 : 0 < k) (hk : k < n) : (yw cA tr h n).set (k - 1) (tr k, z_e cA tr e) = yw cA tr (z_up h k e) n := by
  apply List.ext_getElem?
  intro j
  rw [List.getElem?_set, yw_len]
  unfold yw
  rw [List.getElem?_map, List.getElem?_map]
  by_cases hj : k - 1 = j
  · subst hj
    rw [if_pos rfl, if_pos (by omega), List.getElem?_range (by omega)]
    show some (tr k, z_e cA tr e) = some (tr (k - 1 + 1), z_e cA tr (z_up h k e (k - 1 + 1)))
    rw [Nat.sub_add_cancel h0, z_up_s]
  · rw [if_neg hj]
    by_cases hl : j < n - 1
    · rw [List.getElem?_range hl]
      show some (tr (j + 1), z_e cA tr (h (j + 1))) = some (tr (j + 1), z_e cA tr (z_up h k e (j + 1)))
      rw [z_up_n _ _ (by omega)]
    · rw [List.getElem?_eq_none (by rw [List.length_range]; omega)]
      rfl
theorem y_e_same {cA : Nat → ClassId} {tr tr' : Nat → Nat} {n : Nat} {e : zE} (hv : yokE n e) (h : yKp n tr tr') : z_e cA tr' e = z_e cA tr e := by
  cases e with
  | inl a => rfl
  | inr o =>
    show Sum.inr (o.1, o.2.map (z_v tr')) = Sum.inr (o.1, o.2.map (z_v tr))
    congr 2
    refine List.map_congr_left fun v hv2 => ?_
    have h3 := hv.2 v hv2
    cases v with
    | ref k => exact congrArg Value.ref (h k h3)
    | _ => rfl
theorem yw_push {cA : Nat → ClassId} {tr tr' : Nat → Nat} {h : Nat → zE} {n q : Nat} (e : zE) (hw : ∀ k, 0 < k → k < n → yokE n (h k)) (h0 : 0 < n) (h1 : yKp n tr tr') (h2 : tr' n = q) : yw cA tr' (z_up h n e) (n + 1) = yw cA tr h n ++ [(q, z_e cA tr' e)] := by
  obtain ⟨m, rfl⟩ : ∃ m, n = m + 1 := ⟨n - 1, by omega⟩
  unfold yw
  simp only [Nat.add_sub_cancel]
  rw [List.range_succ, List.map_append]
  congr 1
  · apply List.map_congr_left
    intro k hk
    have hk : k < m := List.mem_range.mp hk
    rw [h1 (k + 1) (Or.inl ⟨Nat.succ_pos k, by omega⟩), z_up_n h e (by omega), y_e_same (hw (k + 1) (Nat.succ_pos k) (by omega)) h1]
  · simp [z_up_s, h2]
/-! the law's names -/
def RL : String := "InnRegisterLaw"
abbrev cL_guest : ByteArray := method_3_code
def yL_guest : MethodName := ⟨RL, "guest", "(LInnRegister;II[J)I"⟩
abbrev cL_pair : ByteArray := method_4_code
def yL_pair : MethodName := ⟨RL, "pair", "(LInnRegister;II[J)I"⟩
abbrev cL_row : ByteArray := method_5_code
def yL_row : MethodName := ⟨RL, "row", "(LInnRegister;I[J)I"⟩
abbrev cL_law : ByteArray := code
theorem dL_guest_0 : decode cL_guest 0 = .ok (.aload_n 3, 1) := by decide +kernel
theorem dL_guest_1 : decode cL_guest 1 = .ok (.iconst 0, 1) := by decide +kernel
theorem dL_guest_2 : decode cL_guest 2 = .ok (.aload_n 0, 1) := by decide +kernel
theorem dL_guest_3 : decode cL_guest 3 = .ok (.iload_n 1, 1) := by decide +kernel
theorem dL_guest_4 : decode cL_guest 4 = .ok (.iload_n 2, 1) := by decide +kernel
theorem dL_guest_5 : decode cL_guest 5 = .ok (.invokevirtual 7, 3) := by decide +kernel
theorem dL_guest_8 : decode cL_guest 8 = .ok (.i2l, 1) := by decide +kernel
theorem dL_guest_9 : decode cL_guest 9 = .ok (.lastore, 1) := by decide +kernel
theorem dL_guest_10 : decode cL_guest 10 = .ok (.goto 7, 3) := by decide +kernel
theorem dL_guest_13 : decode cL_guest 13 = .ok (.astore 4, 2) := by decide +kernel
theorem dL_guest_15 : decode cL_guest 15 = .ok (.iconst 1, 1) := by decide +kernel
theorem dL_guest_16 : decode cL_guest 16 = .ok (.ireturn, 1) := by decide +kernel
theorem dL_guest_17 : decode cL_guest 17 = .ok (.iconst 0, 1) := by decide +kernel
theorem dL_guest_18 : decode cL_guest 18 = .ok (.ireturn, 1) := by decide +kernel
theorem dL_pair_0 : decode cL_pair 0 = .ok (.aload_n 3, 1) := by decide +kernel
theorem dL_pair_1 : decode cL_pair 1 = .ok (.iconst 0, 1) := by decide +kernel
theorem dL_pair_2 : decode cL_pair 2 = .ok (.aload_n 0, 1) := by decide +kernel
theorem dL_pair_3 : decode cL_pair 3 = .ok (.iload_n 1, 1) := by decide +kernel
theorem dL_pair_4 : decode cL_pair 4 = .ok (.iload_n 2, 1) := by decide +kernel
theorem dL_pair_5 : decode cL_pair 5 = .ok (.invokevirtual 15, 3) := by decide +kernel
theorem dL_pair_8 : decode cL_pair 8 = .ok (.i2l, 1) := by decide +kernel
theorem dL_pair_9 : decode cL_pair 9 = .ok (.lastore, 1) := by decide +kernel
theorem dL_pair_10 : decode cL_pair 10 = .ok (.goto 7, 3) := by decide +kernel
theorem dL_pair_13 : decode cL_pair 13 = .ok (.astore 4, 2) := by decide +kernel
theorem dL_pair_15 : decode cL_pair 15 = .ok (.iconst 1, 1) := by decide +kernel
theorem dL_pair_16 : decode cL_pair 16 = .ok (.ireturn, 1) := by decide +kernel
theorem dL_pair_17 : decode cL_pair 17 = .ok (.iconst 0, 1) := by decide +kernel
theorem dL_pair_18 : decode cL_pair 18 = .ok (.ireturn, 1) := by decide +kernel
theorem dL_row_0 : decode cL_row 0 = .ok (.aload_n 2, 1) := by decide +kernel
theorem dL_row_1 : decode cL_row 1 = .ok (.iconst 0, 1) := by decide +kernel
theorem dL_row_2 : decode cL_row 2 = .ok (.aload_n 0, 1) := by decide +kernel
theorem dL_row_3 : decode cL_row 3 = .ok (.iload_n 1, 1) := by decide +kernel
theorem dL_row_4 : decode cL_row 4 = .ok (.invokevirtual 18, 3) := by decide +kernel
theorem dL_row_7 : decode cL_row 7 = .ok (.lastore, 1) := by decide +kernel
theorem dL_row_8 : decode cL_row 8 = .ok (.goto 6, 3) := by decide +kernel
theorem dL_row_11 : decode cL_row 11 = .ok (.astore_n 3, 1) := by decide +kernel
theorem dL_row_12 : decode cL_row 12 = .ok (.iconst 1, 1) := by decide +kernel
theorem dL_row_13 : decode cL_row 13 = .ok (.ireturn, 1) := by decide +kernel
theorem dL_row_14 : decode cL_row 14 = .ok (.iconst 0, 1) := by decide +kernel
theorem dL_row_15 : decode cL_row 15 = .ok (.ireturn, 1) := by decide +kernel
