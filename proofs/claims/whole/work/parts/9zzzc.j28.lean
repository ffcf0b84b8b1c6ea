/-! a row of one long keeps its kind -/
def zLg (k : Nat) (h : Nat → zE) : Prop := ∃ f, h k = zJ 1 f
theorem lg_up {k a : Nat} {h : Nat → zE} {e : zE} (h1 : zLg k h) (he : ∀ f, h a = zJ 1 f → ∃ g, e = zJ 1 g) : zLg k (z_up h a e) := by
  by_cases q : k = a
  · subst q
    obtain ⟨f, hf⟩ := h1
    obtain ⟨g, hg⟩ := he f hf
    exact ⟨g, by rw [z_up_s]; exact hg⟩
  · obtain ⟨f, hf⟩ := h1
    exact ⟨f, by rw [z_up_n _ _ q]; exact hf⟩
theorem lg_new {k n : Nat} {h : Nat → zE} {e : zE} (h1 : zLg k h) (hk : k < n) : zLg k (z_up h n e) := by
  obtain ⟨f, hf⟩ := h1
  exact ⟨f, by rw [z_up_n _ _ (Nat.ne_of_lt hk)]; exact hf⟩
theorem zplain_lg {I : Instr} {x : zX} {S S' : zS} {P : Prop} {k : Nat} (hz : zplain I x S = some (P, S')) (hk : k < S.2.2.2.1) (h : zLg k S.2.2.1) : zLg k S'.2.2.1 := by
  cases I <;> simp only [zplain] at hz
  all_goals try (first
    | (cases hz; done)
    | (obtain ⟨L, st, H⟩ := S; cases hz; exact h)
    | (obtain ⟨L, a, b, r, H, rfl, -, rfl⟩ := zbin_inv hz; exact h)
    | (obtain ⟨L, a, b, r, H, rfl, -, rfl⟩ := zbinl_inv hz; exact h)
    | (obtain ⟨L, a, b, r, H, rfl, rfl⟩ := zbinm_inv hz; exact h)
    | (obtain ⟨L, a, r, H, rfl, rfl⟩ := zun_inv hz; exact h)
    | (obtain ⟨L, st, H, y, rfl, q, rfl⟩ := zld_inv0 hz; exact h)
    | (obtain ⟨L, st, H, y, rfl, q, rfl⟩ := zld_inv1 hz; exact h)
    | (obtain ⟨L, st, H, y, rfl, q, rfl⟩ := zld_inv2 hz; exact h)
    | (obtain ⟨L, y, r, H, rfl, -, rfl⟩ := zst_inv0 hz; exact h)
    | (obtain ⟨L, y, r, H, rfl, -, rfl⟩ := zst_inv1 hz; exact h)
    | (obtain ⟨L, y, r, H, rfl, -, rfl⟩ := zst_inv2 hz; exact h)
    | (obtain ⟨L, a, r, H, o, v, rfl, q1, q2, -, rfl⟩ := zget_inv hz; exact h)
    | (obtain ⟨L, i, a, r, H, t1, N, f, rfl, q1, -, rfl⟩ := zald_inv hz; exact h)
    | (obtain ⟨L, i, a, r, H, t1, N, f, rfl, q1, -, rfl⟩ := zaldl_inv hz; exact h)
    | (obtain ⟨L, y, i, a, r, H, t1, N, f, rfl, q1, -, rfl⟩ := zast_inv hz; exact lg_up h (fun g hg => by rw [q1] at hg; cases hg))
    | (obtain ⟨L, y, i, a, r, H, t1, N, f, rfl, q1, -, rfl⟩ := zastl_inv hz; exact lg_up h (fun g hg => by rw [q1] at hg; cases hg; exact ⟨_, rfl⟩))
    | (obtain ⟨L, a, r, H, q, rfl, q1, -, rfl⟩ := zlen_inv hz; exact h))
  case iinc i n =>
    obtain ⟨L, st, H⟩ := S
    split at hz
    · cases hz; exact h
    · cases hz
  case l2i =>
    obtain ⟨L, st, H⟩ := S
    split at hz
    · cases hz; exact h
    · cases hz
  case putfield i =>
    obtain ⟨L, v, a, r, H, o, rfl, q1, -, rfl⟩ := zput_inv hz
    exact lg_up h (fun g hg => by rw [q1] at hg; cases hg)
  case bastore =>
    split at hz
    · obtain ⟨L, y, i, a, r, H, t1, N, f, rfl, q1, -, rfl⟩ := zast_inv hz; exact lg_up h (fun g hg => by rw [q1] at hg; cases hg)
    · obtain ⟨L, y, i, a, r, H, t1, N, f, rfl, q1, -, rfl⟩ := zast_inv hz; exact lg_up h (fun g hg => by rw [q1] at hg; cases hg)
  case newarray a =>
    obtain ⟨L, st, h1, n, kc, ks⟩ := S
    simp only [znewa] at hz
    split at hz
    · cases hz; exact lg_new h hk
    · cases hz
  case new i =>
    obtain ⟨L, st, h1, n, kc, ks⟩ := S
    simp only [znew] at hz
    cases hz
    exact lg_new h hk
  case dup =>
    obtain ⟨L, st, H⟩ := S
    simp only [zdup] at hz
    split at hz
    · cases hz; exact h
    · cases hz
  case pop =>
    obtain ⟨L, st, H⟩ := S
    simp only [zpop] at hz
    split at hz
    · cases hz; exact h
    · cases hz
  case pop2 =>
    obtain ⟨L, st, H⟩ := S
    simp only [zpop2] at hz
    split at hz
    · cases hz; exact h
    · cases hz
  case dup2 =>
    obtain ⟨L, st, H⟩ := S
    simp only [zdup2] at hz
    split at hz
    · cases hz; exact h
    · cases hz
  case invokestatic i =>
    split at hz
    rotate_left
    · obtain ⟨L, st, H⟩ := S
      simp only [zchi] at hz
      split at hz
      · cases hz; exact h
      · cases hz
    · obtain ⟨L, st, H⟩ := S
      simp only [zmxl] at hz
      split at hz
      · cases hz; exact h
      · cases hz
    · obtain ⟨L, st, H⟩ := S
      simp only [zmn] at hz
      split at hz
      · cases hz; exact h
      · cases hz
    · obtain ⟨L, st, H⟩ := S
      simp only [zmx] at hz
      split at hz
      · cases hz; exact h
      · cases hz
    · cases hz
    · obtain ⟨L, st, H⟩ := S
      simp only [zcopy] at hz
      split at hz
      · split at hz
        · rename_i q1 q2
          cases hz; exact lg_up h (fun g hg => by rw [q2] at hg; cases hg)
        · rename_i q1 q2
          cases hz; exact lg_up h (fun g hg => by rw [q2] at hg; cases hg; exact ⟨_, rfl⟩)
        · cases hz
      · cases hz
  case invokespecial i =>
    split at hz
    · obtain ⟨L, st, H⟩ := S
      simp only [zobj] at hz
      split at hz
      · cases hz; exact h
      · cases hz
    · cases hz
def yL (k : Nat) (C : zC) : Prop := ∀ y as H r, C y as H r → yH H → (∀ v ∈ as, yok H.2.1 v) → k < H.2.1 → zLg k H.1 → zLg k r.2.1
theorem zrun_lg {C : zC} {M : zM} {k : Nat} (hC : yC C) (hL : yL k C) (hM : ∀ q ∈ M.2.2.2.2.2, zok 0 q.2.2.2.2.2.2.1) : ∀ n pc S r, zrun C M n pc S r → ySt S → k < S.2.2.2.1 → zLg k S.2.2.1 → zLg k r.2.1 := by
  intro n
  induction n with
  | zero => intro pc S r h; exact absurd h id
  | succ n ih =>
    intro pc S r h hw hk hl9
    unfold zrun at h
    split at h
    · exact absurd h id
    · rename_i I nx x hl
      have hx := hM _ (z_lookup_mem hl)
      unfold zone at h
      split at h
      · rename_i q hq
        obtain ⟨-, g1, g2⟩ := zplain_sh hx hq h.1 hw
        exact ih nx q.2 r h.2 g1 (Nat.lt_of_lt_of_le hk g2) (zplain_lg hq hk hl9)
      · split at h
        · rename_i q hq
          exact ih q.1 (S.1, q.2, S.2.2) r h ⟨hw.1, fun v hv => hw.2.1 v (zjump_sub hq v hv), hw.2.2⟩ hk hl9
        · split at h
          · obtain ⟨-, rfl⟩ := h
            exact hl9
          · split at h
            · rename_i q hq
              obtain ⟨hP, v, hv, hkk⟩ := h
              obtain ⟨e1, e2, e3⟩ := zinv_inv hq
              have has : ∀ u ∈ q.2.2.1, yok S.2.2.2.1 u := fun u hu => hw.2.1 u (by rw [e2] at hu; exact List.mem_of_mem_take (List.mem_reverse.mp hu))
              obtain ⟨-, c2, c3⟩ := hC _ _ _ _ hv hw.2.2 has
              exact ih nx (S.1, v.1.toList ++ q.2.2.2, v.2) r hkk ⟨fun u hu => (hw.1 u hu).mono c3.1, fun u hu => by
                rcases List.mem_append.mp hu with hu | hu
                · exact c3.2 u (by simpa using hu)
                · exact (hw.2.1 u (by rw [e3] at hu; exact List.mem_of_mem_drop hu)).mono c3.1, c2⟩ (Nat.lt_of_lt_of_le hk c3.1) (hL _ _ _ _ hv hw.2.2 has hk hl9)
            · exact absurd h id
theorem zB_lg {Ms : List zM} (hMs : ∀ M ∈ Ms, zMok Ms M) (k : Nat) : ∀ d, yL k (zB Ms d) := by
  intro d
  induction d with
  | zero => intro y as H r h; exact absurd h id
  | succ d ih =>
    intro y as H r h hw ha hk hl
    obtain ⟨M, h1, -, n, h2⟩ := h
    exact zrun_lg (zB_sh hMs d) ih (fun q hq => ((hMs M (List.mem_of_getElem? h1)).1 q hq).1) n 0 _ r h2 ⟨y_in_ok ha, fun v hv => absurd hv List.not_mem_nil, hw⟩ hk hl
/-! the contract of a call where names begin with 1 -/
def yw (cA : Nat → ClassId) (tr : Nat → Nat) (h : Nat → zE) (n : Nat) : va_W := (List.range (n - 1)).map (fun k => (tr (k + 1), z_e cA tr (h (k + 1))))
def yPre (cA dC : Nat → ClassId) (dI : Nat → Nat → Nat) (B0 : Nat) (tr : Nat → Nat) (H : zH) (U : State) : Prop := B0 ≤ U.heap.size ∧ va_P (dC, dI) vwCl (yw cA tr H.1 H.2.1) U.heap ∧ va_D (fun q => B0 ≤ q) (yw cA tr H.1 H.2.1) ∧ va_K (dC, dI) vwCl (z_tys cA) U ∧ zSt tr (fun q => B0 ≤ q) U U.heap ∧ zSr tr U ∧ zNs U
def yKp (n : Nat) (tr tr' : Nat → Nat) : Prop := ∀ k, (0 < k ∧ k < n) ∨ 1000 ≤ k → tr' k = tr k
def yPost (cA dC : Nat → ClassId) (dI : Nat → Nat → Nat) (B0 : Nat) (tr : Nat → Nat) (n : Nat) (r : zR) : Array Value → State → Outcome → State → Prop := fun _ st oc t => ∃ tr' : Nat → Nat, oc = .returned (r.1.map (z_v tr')) ∧ yKp n tr tr' ∧ va_P (dC, dI) vwCl (yw cA tr' r.2.1 r.2.2.1) t.heap ∧ va_D (fun q => B0 ≤ q) (yw cA tr' r.2.1 r.2.2.1) ∧ va_F (fun q => B0 ≤ q) st t
def dn_t (tr : Nat → Nat) : Nat → Nat := fun k => if k < 999 then tr (k + 1) else tr k
def up_t (tr : Nat → Nat) : Nat → Nat := fun k => if k < 1000 then tr (k - 1) else tr k
theorem dn_k {tr : Nat → Nat} {n k : Nat} (hn : n ≤ 1000) (h : (0 < k ∧ k < n) ∨ 1000 ≤ k) : dn_t tr (sh_k k) = tr k := by
  unfold dn_t sh_k
  by_cases q : k < 1000
  · rw [if_pos q, if_pos (by omega), Nat.sub_add_cancel (by omega)]
  · rw [if_neg q, if_neg (by omega)]
theorem up_k {tr : Nat → Nat} {k : Nat} : tr (sh_k k) = up_t tr k := by
  unfold up_t sh_k
  by_cases q : k < 1000
  · rw [if_pos q, if_pos q]
  · rw [if_neg q, if_neg q]
theorem sh_kok {n k : Nat} (hn : n ≤ 1000) (h : (0 < k ∧ k < n) ∨ 1000 ≤ k) : sh_k k < n - 1 ∨ 1000 ≤ sh_k k := by
  unfold sh_k
  by_cases q : k < 1000
  · rw [if_pos q]; omega
  · rw [if_neg q]; omega
theorem dn_v {tr : Nat → Nat} {n : Nat} {v : Value} (hn : n ≤ 1000) (h : yok n v) : z_v (dn_t tr) (sh_v v) = z_v tr v := by
  cases v with
  | ref k => exact congrArg Value.ref (dn_k hn h)
  | _ => rfl
theorem up_v {tr : Nat → Nat} {v : Value} : z_v tr (sh_v v) = z_v (up_t tr) v := by
  cases v with
  | ref k => exact congrArg Value.ref up_k
  | _ => rfl
theorem dn_e {cA : Nat → ClassId} {tr : Nat → Nat} {n : Nat} {e : zE} (hn : n ≤ 1000) (h : yokE n e) : z_e cA (dn_t tr) (sh_e e) = z_e cA tr e := by
  cases e with
  | inl a => rfl
  | inr o => exact congrArg (fun l => Sum.inr (o.1, l)) ((List.map_map).trans (List.map_congr_left fun v hv => dn_v hn (h.2 v hv)))
theorem up_e {cA : Nat → ClassId} {tr : Nat → Nat} {e : zE} : z_e cA tr (sh_e e) = z_e cA (up_t tr) e := by
  cases e with
  | inl a => rfl
  | inr o => exact congrArg (fun l => Sum.inr (o.1, l)) ((List.map_map).trans (List.map_congr_left fun v hv => up_v))
theorem dn_w {cA : Nat → ClassId} {tr : Nat → Nat} {H : zH} (hw : yH H) : zw cA (dn_t tr) (sh_h H.1) (H.2.1 - 1) = yw cA tr H.1 H.2.1 := by
  unfold zw yw
  refine List.map_congr_left fun k hk => ?_
  have hk : k < H.2.1 - 1 := List.mem_range.mp hk
  have := hw.2.1
  have e : dn_t tr k = tr (k + 1) := by unfold dn_t; rw [if_pos (by omega)]
  rw [e]
  congr 1
  exact dn_e hw.2.1 (hw.2.2 (k + 1) (Nat.succ_pos k) (by omega))
theorem up_w {cA : Nat → ClassId} {tr : Nat → Nat} {H : zH} (hw : yH H) : zw cA tr (sh_h H.1) (H.2.1 - 1) = yw cA (up_t tr) H.1 H.2.1 := by
  unfold zw yw
  refine List.map_congr_left fun k hk => ?_
  have hk : k < H.2.1 - 1 := List.mem_range.mp hk
  have := hw.2.1
  have e : up_t tr (k + 1) = tr k := by unfold up_t; rw [if_pos (by omega), Nat.add_sub_cancel]
  rw [e]
  congr 1
  exact up_e
theorem sh_wH {H : zH} (hw : yH H) : zwH (sh_H H) := by
  refine ⟨Nat.le_trans (Nat.sub_le _ _) hw.2.1, fun k hk => ?_⟩
  have hk : k < H.2.1 - 1 := hk
  have h := hw.2.2 (k + 1) (Nat.succ_pos k) (by omega)
  show zokE (H.2.1 - 1) (sh_e (H.1 (k + 1)))
  cases he : H.1 (k + 1) with
  | inl a => trivial
  | inr o =>
    rw [he] at h
    refine ⟨h.1, fun v hv => ?_⟩
    obtain ⟨w, hw1, rfl⟩ := List.mem_map.mp hv
    have h2 := h.2 w hw1
    cases w with
    | ref j => exact sh_kok hw.2.1 h2
    | _ => trivial
theorem sh_ok {n : Nat} {v : Value} (hn : n ≤ 1000) (h : yok n v) : zok (n - 1) (sh_v v) := by
  cases v with
  | ref j => exact sh_kok hn h
  | _ => trivial
theorem dn_args {tr : Nat → Nat} {n : Nat} {as : List Value} (hn : n ≤ 1000) (h : ∀ v ∈ as, yok n v) : (as.map sh_v).map (z_v (dn_t tr)) = as.map (z_v tr) := by
  rw [List.map_map]
  exact List.map_congr_left fun v hv => dn_v hn (h v hv)
theorem dn_st {tr : Nat → Nat} {k : Nat} (h : 1000 ≤ k) : dn_t tr k = tr k := by unfold dn_t; rw [if_neg (by omega)]
theorem yPre_z {cA dC : Nat → ClassId} {dI : Nat → Nat → Nat} {B0 : Nat} {tr : Nat → Nat} {H : zH} {U : State} (hw : yH H) (h : yPre cA dC dI B0 tr H U) : zPre cA dC dI B0 (dn_t tr) (sh_H H) U := by
  obtain ⟨h0, h1, h2, h3, h4, h5, h6⟩ := h
  refine ⟨h0, ?_, ?_, h3, zSt.same h4 (fun k hk => dn_st hk), zSr.same h5 (fun k hk => dn_st hk), h6⟩
  · show va_P _ _ (zw cA (dn_t tr) (sh_h H.1) (H.2.1 - 1)) _; rw [dn_w hw]; exact h1
  · show va_D _ (zw cA (dn_t tr) (sh_h H.1) (H.2.1 - 1)); rw [dn_w hw]; exact h2
theorem yPost_z {cA dC : Nat → ClassId} {dI : Nat → Nat → Nat} {B0 : Nat} {tr : Nat → Nat} {n : Nat} {r : zR} {a : Array Value} {st t : State} {oc : Outcome} (hn : n ≤ 1000) (hw : yH r.2) (hv : ∀ v, r.1 = some v → yok r.2.2.1 v) (h : zPost cA dC dI B0 (dn_t tr) (n - 1) (sh_r r) a st oc t) : yPost cA dC dI B0 tr n r a st oc t := by
  obtain ⟨tr', h1, h2, h3, h4, h5⟩ := h
  refine ⟨up_t tr', ?_, fun k hk => ?_, ?_, ?_, h5⟩
  · rw [h1]
    show Outcome.returned ((r.1.map sh_v).map (z_v tr')) = _
    congr 1
    cases hr : r.1 with
    | none => rfl
    | some v => exact congrArg some up_v
  · unfold up_t
    by_cases q : k < 1000
    · rw [if_pos q, h2 (k - 1) (Or.inl (by omega))]
      unfold dn_t
      rw [if_pos (by omega), Nat.sub_add_cancel (by omega)]
    · rw [if_neg q, h2 k (Or.inr (by omega)), dn_st (by omega)]
  · have h3 : va_P (dC, dI) vwCl (zw cA tr' (sh_h r.2.1) (r.2.2.1 - 1)) t.heap := h3
    rw [up_w hw] at h3; exact h3
  · have h4 : va_D (fun q => B0 ≤ q) (zw cA tr' (sh_h r.2.1) (r.2.2.1 - 1)) := h4
    rw [up_w hw] at h4; exact h4
theorem Met_im {l : Launch} {y : MethodName} {ws : List Cond} {rm : Room} {Pc Pc' : Array Value → State → Prop} {Qc Qc' : Array Value → State → Outcome → State → Prop} {mc ms : Nat} {free : Addr → Prop} (hM : Met l y ws rm Pc Qc mc ms free) (hP : ∀ a s, Pc' a s → Pc a s) (hQ : ∀ a s o t, Qc a s o t → Qc' a s o t) : Met l y ws rm Pc' Qc' mc ms free := MetFree.mono hM hP (fun _ _ _ _ _ h => h) (fun a s o t _ h => ⟨hQ a s o t h.1, h.2⟩)
theorem y_sound (l : Launch) {Ms : List zM} (hMs : ∀ M ∈ Ms, zMok Ms M) (d : Nat) (y : Nat) (M : zM) (as : List Value) (H : zH) (r : zR) (hM : Ms[y]? = some M) (hB : zB Ms d y as H r) (hw : yH H) (ha : ∀ v ∈ as, yok H.2.1 v) (cA dC : Nat → ClassId) (dI : Nat → Nat → Nat) (B0 : Nat) (tr : Nat → Nat) : Met l M.1 (Cond.code M.1 M.2.2.1 M.2.2.2.1 M.2.2.2.2.1 :: zT) (zRoom d (r.2.2.2.1 - H.2.2.1) (r.2.2.2.2 - H.2.2.2)) (va_Pc (as.map (z_v tr)) (yPre cA dC dI B0 tr H)) (yPost cA dC dI B0 tr H.2.1 r) (r.2.2.2.1 - H.2.2.1) (r.2.2.2.2 - H.2.2.2) (fun q => B0 ≤ q) := by
  obtain ⟨c1, c2, c3, c4⟩ := zB_sh hMs d y as H r hB hw ha
  have met := z_sound l Ms hMs d y M (as.map sh_v) (sh_H H) (sh_r r) hM c1 (sh_wH hw) (fun v hv => by
    obtain ⟨w, h1, rfl⟩ := List.mem_map.mp hv
    exact sh_ok hw.2.1 (ha w h1)) cA dC dI B0 (dn_t tr)
  refine Met_im met (fun a s h => ?_) (fun a s o t h => yPost_z hw.2.1 c2 c4 h)
  obtain ⟨rfl, h⟩ := h
  exact ⟨by rw [dn_args hw.2.1 ha], yPre_z hw h⟩
