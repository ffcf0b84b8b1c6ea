/-! calls, ends, runs: the abstract machine is sound -/
theorem z_lookup_mem {α : Type} {l : List (Nat × α)} {k : Nat} {v : α} (h : l.lookup k = some v) : (k, v) ∈ l := by
  induction l with
  | nil => cases h
  | cons q r ih =>
    obtain ⟨a, b⟩ := q
    rw [List.lookup_cons] at h
    by_cases e : k = a
    · subst e
      simp at h
      subst h
      exact List.mem_cons_self
    · have e2 : (k == a) = false := by simp [e]
      rw [e2] at h
      exact List.mem_cons_of_mem _ (ih h)
def zMok (Ms : List zM) (M : zM) : Prop := (∀ q ∈ M.2.2.2.2.2, zok 0 q.2.2.2.2.2.2.1 ∧ ∃ len, decode M.2.2.1 q.1 = .ok (q.2.1, len) ∧ q.2.2.1 = q.1 + len ∧ zck Ms M.2.1 (M.1.name = "<init>") q.2.1 q.2.2.2 q.1 len) ∧ M.2.2.2.1 ≤ 100 ∧ Cond.code M.1 M.2.2.1 M.2.2.2.1 M.2.2.2.2.1 ∈ zT ∧ Cond.initialized M.1.cls ∈ zT ∧ (M.1.cls ≠ "java/lang/invoke/MethodHandle" ∧ M.1.cls ≠ "java/lang/invoke/VarHandle") ∧ plainName M.1.cls = true ∧ M.1.cls = zCn M.2.1
def zGr (H : zH) (r : zR) : Prop := zwH r.2 ∧ H.2.1 ≤ r.2.2.1 ∧ H.2.2.1 ≤ r.2.2.2.1 ∧ H.2.2.2 ≤ r.2.2.2.2 ∧ ∀ v, r.1 = some v → zok r.2.2.1 v
theorem zret_inv {rt : Option FieldType} {I : Instr} {st : List Value} {q : Prop × Option Value} (h : zret rt I st = some q) : (I = .ireturn ∧ ∃ v ty, st = [.int v] ∧ rt = some ty ∧ q = (znar ty v, some (.int v))) ∨ (I = .lreturn ∧ ∃ v, st = [.long v] ∧ rt = some .long ∧ q = (True, some (.long v))) ∨ (I = .return_ ∧ st = [] ∧ rt = none ∧ q = (True, none)) := by
  unfold zret at h
  split at h
  · split at h
    · cases h; exact Or.inl ⟨rfl, _, _, rfl, rfl, rfl⟩
    · cases h
  · split at h
    · cases h; exact Or.inr (Or.inl ⟨rfl, _, rfl, rfl, rfl⟩)
    · cases h
  · split at h
    · cases h; exact Or.inr (Or.inr ⟨rfl, rfl, rfl, rfl⟩)
    · cases h
  · cases h
theorem zinv_inv {I : Instr} {x : zX} {S : zS} {q : Prop × Nat × List Value × List Value} (h : zinv I x S = some q) : q.2.1 = x.1 ∧ q.2.2.1 = (S.2.1.take x.2.1).reverse ∧ q.2.2.2 = S.2.1.drop x.2.1 := by
  unfold zinv at h
  split at h
  · cases h; exact ⟨rfl, rfl, rfl⟩
  · split at h
    · cases h; exact ⟨rfl, rfl, rfl⟩
    · cases h
  · split at h
    · cases h; exact ⟨rfl, rfl, rfl⟩
    · cases h
  · cases h
theorem zjump_sub {I : Instr} {x : zX} {nx : Nat} {st : List Value} {q : Nat × List Value} (hq : zjump I x nx st = some q) : ∀ v ∈ q.2, v ∈ st := by
  unfold zjump at hq
  split at hq
  · cases hq; exact fun v hv => hv
  · split at hq
    · cases hq; exact fun v hv => List.mem_cons_of_mem _ hv
    · cases hq
  · split at hq
    · cases hq; exact fun v hv => List.mem_cons_of_mem _ (List.mem_cons_of_mem _ hv)
    · cases hq
  · split at hq
    · cases hq; exact fun v hv => List.mem_cons_of_mem _ hv
    · cases hq
  · split at hq
    · cases hq; exact fun v hv => List.mem_cons_of_mem _ hv
    · cases hq
  · cases hq
theorem z_in_ok {n maxL : Nat} {as : List Value} (h : ∀ v ∈ as, zok n v) : ∀ v ∈ z_in maxL as, zok n v := by
  intro v hv
  unfold z_in at hv
  rcases List.mem_append.mp hv with hv | hv
  · obtain ⟨a, h1, h2⟩ := List.mem_flatMap.mp hv
    by_cases e : a.category = 2
    · rw [if_pos e] at h2
      simp only [List.mem_cons, List.not_mem_nil, or_false] at h2
      rcases h2 with rfl | rfl
      · exact h v h1
      · trivial
    · rw [if_neg e] at h2
      simp only [List.mem_cons, List.not_mem_nil, or_false] at h2
      rw [h2]
      exact h a h1
  · rw [(List.mem_replicate.mp hv).2]
    trivial
theorem zrun_grow {C : zC} {M : zM} (hC : ∀ y as H r, C y as H r → zwH H → (∀ v ∈ as, zok H.2.1 v) → zGr H r) (hM : ∀ q ∈ M.2.2.2.2.2, zok 0 q.2.2.2.2.2.2.1) : ∀ n pc S r, zrun C M n pc S r → zwf S → zGr S.2.2 r := by
  intro n
  induction n with
  | zero => intro pc S r h; exact absurd h id
  | succ n ih =>
    intro pc S r h hw
    unfold zrun at h
    split at h
    · exact absurd h id
    · rename_i I nx x hl
      have hx := hM _ (z_lookup_mem hl)
      unfold zone at h
      split at h
      · rename_i q hq
        obtain ⟨g1, g2, g3, g4, g5⟩ := zplain_grow hx hq h.1 hw
        obtain ⟨a1, a2, a3, a4, a5⟩ := ih nx q.2 r h.2 g1
        exact ⟨a1, Nat.le_trans g3 a2, Nat.le_trans g4 a3, Nat.le_trans g5 a4, a5⟩
      · split at h
        · rename_i q hq
          refine ih q.1 (S.1, q.2, S.2.2) r h ⟨hw.1, ?_, hw.2.2⟩
          exact fun v hv => hw.2.1 v (zjump_sub hq v hv)
        · split at h
          · rename_i q hq
            obtain ⟨-, rfl⟩ := h
            refine ⟨hw.2.2, Nat.le_refl _, Nat.le_refl _, Nat.le_refl _, fun v hv => ?_⟩
            simp only at hv
            rcases zret_inv hq with ⟨-, a, ty, e1, e2, rfl⟩ | ⟨-, a, e1, e2, rfl⟩ | ⟨-, e1, e2, rfl⟩
            · cases hv; trivial
            · cases hv; trivial
            · cases hv
          · split at h
            · rename_i q hq
              obtain ⟨-, v, hv, hk⟩ := h
              obtain ⟨e1, e2, e3⟩ := zinv_inv hq
              obtain ⟨g1, g2, g3, g4, g5⟩ := hC _ _ _ _ hv hw.2.2 (fun u hu => hw.2.1 u (by rw [e2] at hu; exact List.mem_of_mem_take (List.mem_reverse.mp hu)))
              obtain ⟨a1, a2, a3, a4, a5⟩ := ih nx (S.1, v.1.toList ++ q.2.2.2, v.2) r hk ⟨fun u hu => (hw.1 u hu).mono g2, fun u hu => by
                rcases List.mem_append.mp hu with hu | hu
                · exact g5 u (by simpa using hu)
                · exact (hw.2.1 u (by rw [e3] at hu; exact List.mem_of_mem_drop hu)).mono g2, g1⟩
              exact ⟨a1, Nat.le_trans g2 a2, Nat.le_trans g3 a3, Nat.le_trans g4 a4, a5⟩
            · exact absurd h id
theorem zB_grow {Ms : List zM} (hMs : ∀ M ∈ Ms, zMok Ms M) : ∀ d y as H r, zB Ms d y as H r → zwH H → (∀ v ∈ as, zok H.2.1 v) → zGr H r := by
  intro d
  induction d with
  | zero => intro y as H r h; exact absurd h id
  | succ d ih =>
    intro y as H r h hw ha
    obtain ⟨M, h1, -, n, h2⟩ := h
    exact zrun_grow ih (fun q hq => ((hMs M (List.mem_of_getElem? h1)).1 q hq).1) n 0 _ r h2 ⟨z_in_ok ha, fun v hv => absurd hv List.not_mem_nil, hw⟩
/-! a contract for every run of the abstract machine -/
def zPre (cA dC : Nat → ClassId) (dI : Nat → Nat → Nat) (B0 : Nat) (tr : Nat → Nat) (H : zH) (U : State) : Prop := B0 ≤ U.heap.size ∧ va_P (dC, dI) vwCl (zw cA tr H.1 H.2.1) U.heap ∧ va_D (fun q => B0 ≤ q) (zw cA tr H.1 H.2.1) ∧ va_K (dC, dI) vwCl (z_tys cA) U ∧ zSt tr (fun q => B0 ≤ q) U U.heap ∧ zSr tr U ∧ zNs U
def zPost (cA dC : Nat → ClassId) (dI : Nat → Nat → Nat) (B0 : Nat) (tr : Nat → Nat) (n : Nat) (r : zR) : Array Value → State → Outcome → State → Prop := fun _ st oc t => ∃ tr' : Nat → Nat, oc = .returned (r.1.map (z_v tr')) ∧ (∀ k, k < n ∨ 1000 ≤ k → tr' k = tr k) ∧ va_P (dC, dI) vwCl (zw cA tr' r.2.1 r.2.2.1) t.heap ∧ va_D (fun q => B0 ≤ q) (zw cA tr' r.2.1 r.2.2.1) ∧ va_F (fun q => B0 ≤ q) st t
def zRoom (d mc ms : Nat) : Room := { frames := d + 2, cells := mc, slots := ms, locals := 200 * (d + 1) }
def zSound (l : Launch) (Ms : List zM) (d : Nat) : Prop := ∀ (y : Nat) (M : zM) (as : List Value) (H : zH) (r : zR), Ms[y]? = some M → zB Ms d y as H r → zwH H → (∀ v ∈ as, zok H.2.1 v) → ∀ (cA dC : Nat → ClassId) (dI : Nat → Nat → Nat) (B0 : Nat) (tr : Nat → Nat), Met l M.1 (Cond.code M.1 M.2.2.1 M.2.2.2.1 M.2.2.2.2.1 :: zT) (zRoom d (r.2.2.2.1 - H.2.2.1) (r.2.2.2.2 - H.2.2.2)) (va_Pc (as.map (z_v tr)) (zPre cA dC dI B0 tr H)) (zPost cA dC dI B0 tr H.2.1 r) (r.2.2.2.1 - H.2.2.1) (r.2.2.2.2 - H.2.2.2) (fun q => B0 ≤ q)
theorem zPre.blind {cA dC : Nat → ClassId} {dI : Nat → Nat → Nat} {B0 : Nat} {tr : Nat → Nat} {H : zH} {as : List Value} : FrameBlind (va_Pc as (zPre cA dC dI B0 tr H)) := by
  intro a U g mk h
  obtain ⟨h0, h1, h2, h3, h4, h5, h6, h7⟩ := h
  exact ⟨h0, h1, h2, h3, va_K.moved (u := U) (U := U.calling g mk a) (Vm.Alike.refl U.vm) h4, zSt.moved (u := U) (U := U.calling g mk a) (Vm.Alike.refl U.vm) h5, fun q hq => vk_R.same (u := U) (U := U.calling g mk a) rfl (h6 q hq), fun w hw => by
    have h2 := (List.mem_filter.mp hw).2
    cases w <;> first | (exact va_Nw.same (u := U) (U := U.calling g mk a) rfl rfl (h7 _ hw)) | (cases h2)⟩
section ZL
variable {p : Program} {l : Launch} {e : Env} {R : Room} {s : State} {m : MethodId} {args : Array Value} {below : List Frame} {meth : Method} {c : Code} {cA dC : Nat → ClassId} {dI : Nat → Nat → Nat} {B0 : Nat} {tr0 : Nat → Nat} {own nL kc0 ks0 n0 : Nat} {cc : ByteArray} {Q : State → Prop} {pc : Nat} {S S' : zS} {P : Prop} {x : zX} {Ms : List zM} {I : Instr} {len d : Nat} {ini : Prop}
theorem z_callgo {H : Heap} {locs : List Loc} {cells slots mc ms n : Nat} {tr : Nat → Nat} {r : zR} {a : Array Value} {ls : Array Slot} {st0 rest : List Value} (hr : va_Run p l e R s m args below meth c H locs cells slots mc ms (F0 m pc ls st0) rest (zPost cA dC dI B0 tr n r a) (fun q => B0 ≤ q)) (hS : va_S (fun q => B0 ≤ q) s.heap H locs)
    (kk : ∀ (tr' : Nat → Nat) (H1 : Heap) (locs1 : List Loc), (∀ k, k < n ∨ 1000 ≤ k → tr' k = tr k) → va_P (dC, dI) vwCl (zw cA tr' r.2.1 r.2.2.1) H1 → va_D (fun q => B0 ≤ q) (zw cA tr' r.2.1 r.2.2.1) → va_S (fun q => B0 ≤ q) s.heap H1 locs1 → W p l e R s m args below meth c H1 locs1 (cells + mc) (slots + ms) Q (F0 m (pc + 3) ls ((r.1.map (z_v tr')).toList ++ rest))) : W p l e R s m args below meth c H locs cells slots Q (F0 m pc ls st0) := by
  intro T hT X
  obtain ⟨v, st₀, t, T', L, h0, X', hL, e1, e2, ⟨tr', hv, ht, hP, hD, hz, hk⟩, st⟩ := hr T hT X
  cases hv
  rw [h0] at hz hk
  obtain ⟨t2, a1, b1⟩ := kk tr' T'.heap (locs ++ L) ht (by rw [e1]; exact hP) hD
    ⟨Nat.le_trans hS.1 (by rw [e1]; exact hz), fun q h1 h2 => by rw [e1, hk q (Nat.lt_of_lt_of_le h1 hS.1) h2]; exact hS.2.1 q h1 h2, fun q hq => by
      rcases List.mem_append.mp hq with h | h
      · exact hS.2.2 q h
      · exact hL q h⟩ T' rfl X'
  exact ⟨t2, st t2 a1, b1⟩
theorem z_pre_at {tr : Nat → Nat} {H : zH} {Hh : Heap} {locs : List Loc} (X : zCx p s m args c R cA dC dI B0 tr0 own cc nL) (g1 : ∀ k, k < n0 ∨ 1000 ≤ k → tr k = tr0 k) (g2 : zRl cA dC dI B0 s tr H Hh locs) : ∀ U : State, U.heap = Hh → s.WarmedH U.vm → zPre cA dC dI B0 tr H U := by
  intro U hU hW
  obtain ⟨x1, x2, x3, x4, x5, x6, x7, x8, x9, x10, -⟩ := X
  refine ⟨?_, ?_, g2.2.1, va_K.moved hW.alike x7, ?_, zSr.same (zSr.warm hW x10) (fun k hk => g1 k (Or.inr hk)), zNs.warm hW x6⟩
  · rw [hU]; exact Nat.le_trans x8 g2.2.2.1
  · rw [hU]; exact g2.1
  · rw [hU]
    exact zSt.same (zSt.moved hW.alike (zSt.kept x9 (fun a h1 h2 => g2.2.2.2.1 a h1 h2))) (fun k hk => g1 k (Or.inr hk))
theorem z_cn_cl : ∀ ci, ci < 12 → ∃ q, vwCl[ci]? = some q ∧ q.1 = zCn ci := by
  intro ci h
  rcases (show ci = 0 ∨ ci = 1 ∨ ci = 2 ∨ ci = 3 ∨ ci = 4 ∨ ci = 5 ∨ ci = 6 ∨ ci = 7 ∨ ci = 8 ∨ ci = 9 ∨ ci = 10 ∨ ci = 11 by omega) with rfl | rfl | rfl | rfl | rfl | rfl | rfl | rfl | rfl | rfl | rfl | rfl <;> exact ⟨_, rfl, rfl⟩
theorem z_recv_at {tr : Nat → Nat} {H : zH} {Hh : Heap} {locs : List Loc} {b ci : Nat} (X : zCx p s m args c R cA dC dI B0 tr0 own cc nL) (g1 : ∀ k, k < n0 ∨ 1000 ≤ k → tr k = tr0 k) (g2 : zRl cA dC dI B0 s tr H Hh locs) (hw : zwH H) (hb : b < H.2.1 ∨ 1000 ≤ b) (hc : ci < 12 ∨ ci = 200) (hi : zisc (z_cell H.1 b) ci) : ∃ cell : Cell, Hh[tr b]? = some cell ∧ cell.vm.isStatics = false ∧ s.vm.findClass (zCls ci) = some cell.cls := by
  unfold zisc at hi
  split at hi
  · rename_i o q1
    unfold z_cell at q1
    by_cases h : 1000 ≤ b
    · rw [if_pos h] at q1
      rcases z_sE_o q1 with ⟨i, h1, rfl, rfl⟩ | rfl
      · simp only at hi
        subst hi
        rw [g1 _ (Or.inr h)]
        exact vk_recv (i := i) X.2.2.2.2.2.2.2.2.1.2.2.2.1 h1 g2.2.2
      · simp only at hi; omega
    · rw [if_neg h] at q1
      have hlt : b < H.2.1 := by omega
      have h3 := hw.2 b hlt
      rw [q1] at h3
      have hc2 : ci < 12 := by
        rcases hc with hc | hc
        · exact hc
        · have := h3.1; omega
      obtain ⟨q, e1, e2⟩ := z_cn_cl ci hc2
      have he := zw_at' (cA := cA) (tr := tr) hlt q1
      obtain ⟨o1, o2⟩ := o
      simp only at hi
      subst hi
      have := va_recv X.2.2.2.2.2.2.1 g2.1 e1 he
      rw [e2] at this
      unfold zCls
      rw [if_neg (by omega)]
      exact this
  · exact absurd hi id
theorem zret_ok {r : zR} {q : Prop × Option Value} {rt : Option FieldType} (X : zCx p s m args c R cA dC dI B0 tr0 own cc nL) (hd : decode cc pc = .ok (I, len)) (hk : zck Ms own ini I x pc len) (hrt : meth.sig.returnType = rt) (hlocks : meth.locks = false) (hz : zret rt I S.2.1 = some q) (hP : q.1) (hr : r = (q.2, S.2.2)) : zGoal p l e R s m args below meth c cA dC dI B0 tr0 nL kc0 ks0 n0 (MQ below (zPost cA dC dI B0 tr0 n0 r) args s (r.2.2.2.1 - kc0) (r.2.2.2.2 - ks0) (fun q => B0 ≤ q)) pc S := by
  subst hr
  obtain ⟨L, st, H⟩ := S
  intro tr Hh locs ls g1 g2 g3
  rcases zret_inv hz with ⟨rfl, v, ty, e1, e2, rfl⟩ | ⟨rfl, v, e1, e2, rfl⟩ | ⟨rfl, e1, e2, rfl⟩
  · simp only at e1
    subst e1
    simp only [zck] at hk
    subst hk
    have hn : narrow ty (.int v) = .int v := by
      simp only [znar] at hP
      split at hP
      · rfl
      · rcases hP with rfl | rfl <;> rfl
      · exact hP
    exact W.zret X.1 X.2.1 (hrt.trans e2) hn (fun t ht _ => ⟨tr, rfl, g1, by rw [ht]; exact g2.1, g2.2.1, g2.2.2.F ht⟩) (fun q hq => g2.2.2.2.2 q hq) hd hlocks
  · simp only at e1
    subst e1
    simp only [zck] at hk
    subst hk
    exact W.lret X.1 X.2.1 (hrt.trans e2) (fun t ht _ => ⟨tr, rfl, g1, by rw [ht]; exact g2.1, g2.2.1, g2.2.2.F ht⟩) (fun q hq => g2.2.2.2.2 q hq) hd hlocks
  · simp only at e1
    subst e1
    simp only [zck] at hk
    subst hk
    exact W.vret X.1 X.2.1 (hrt.trans e2) (fun t ht _ => ⟨tr, rfl, g1, by rw [ht]; exact g2.1, g2.2.1, g2.2.2.F ht⟩) (fun q hq => g2.2.2.2.2 q hq) hd hlocks
end ZL
