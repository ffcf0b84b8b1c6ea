/-! the static cells' names; the words that are kept apart; no cell made yet -/
theorem st_St {s : State} {args : Array Value} (hts : ∀ w ∈ lw_tbl, w.before args s = true) (hg : (Jvm.Cond.and given_1 narrow_1).before args s = true) : ∃ tr0 : Nat → Nat, zSt tr0 (fun q => s.heap.size ≤ q) s s.heap ∧ zSr tr0 s := by
  have hs : ∀ w ∈ st_L, w.before args s = true := flat_of_before _ hg
  have hA : ∀ a : Nat, a < s.heap.size → ¬ (fun q => s.heap.size ≤ q) a := fun a h => Nat.not_le.mpr h
  obtain ⟨t, ht, hT⟩ := va_Tof (f := fun j => .int (z_pw j)) (A := fun q => s.heap.size ≤ q) (N := 8) (by decide) (hs _ st_p0) (va_eqt (hs _ st_p1)) (fun j hj => va_eqt (hs _ (st_p2 j hj))) hA
  obtain ⟨adK, adV, hS, hev⟩ := vk_Sof (N := 6) (tm := st_tm) (len := z_slen) (byt := z_sbyt) (A := fun q => s.heap.size ≤ q) st_q7 (fun i hi => hs _ (st_q0 i hi)) (fun i hi => hs _ (st_q1 i hi)) (fun i hi => hs _ (st_q2 i hi)) (fun i hi => hs _ (st_q3 i hi)) (fun i hi j hj => hs _ (st_q4 i hi j hj)) (fun i j hi hj hn => Or.imp (fun h => hs _ h) (fun h => hs _ h) (st_q5 i hi j hj hn)) hA
  refine ⟨fun k => if k = 1000 then t else if k < 1101 then adK (k - 1001) else adV (k - 1101), ⟨?_, ?_, ?_, ?_, ?_⟩, ?_⟩
  · exact va_Zref (hts _ st_r0.1) (hts _ st_r0.2) ht hA
  · exact hT
  · exact va_Zof (hts _ st_r1.1) (hts _ st_r1.2) (va_eqi (hs _ st_r3.1)) hA
  · refine hS.same (fun i hi => ?_) (fun i hi => ?_)
    · show (if 1001 + i = 1000 then t else if 1001 + i < 1101 then adK (1001 + i - 1001) else adV (1001 + i - 1101)) = adK i
      rw [if_neg (by omega), if_pos (by omega), Nat.add_sub_cancel_left]
    · show (if 1101 + i = 1000 then t else if 1101 + i < 1101 then adK (1101 + i - 1001) else adV (1101 + i - 1101)) = adV i
      rw [if_neg (by omega), if_neg (by omega), Nat.add_sub_cancel_left]
  · exact va_Zqof (hts _ st_r2.1) (hts _ st_r2.2) (hs _ st_r3.2) hA
  · intro q hq
    have hw := hts _ (st_x0 q hq)
    simp only [z_strs, List.mem_cons, List.not_mem_nil, or_false] at hq
    rcases hq with rfl | rfl | rfl | rfl | rfl | rfl | rfl
    · exact vk_R.of hw (hev 0 (by decide))
    · exact vk_R.of hw (hev 1 (by decide))
    · exact vk_R.of hw (va_eqR (hs _ st_q6) (hev 0 (by decide)))
    · exact vk_R.of hw (hev 2 (by decide))
    · exact vk_R.of hw (hev 3 (by decide))
    · exact vk_R.of hw (hev 4 (by decide))
    · exact vk_R.of hw (hev 5 (by decide))
theorem st_PX {s : State} {args : Array Value} (hts : ∀ w ∈ lw_tbl, w.before args s = true) (hg : (Jvm.Cond.and given_1 narrow_1).before args s = true) : zPX s.heap.size s := by
  have hs : ∀ w ∈ st_L, w.before args s = true := flat_of_before _ hg
  have hA : ∀ a : Nat, a < s.heap.size → ¬ (fun q => s.heap.size ≤ q) a := fun a h => Nat.not_le.mpr h
  exact ⟨fun w hw => va_tabs (x_w5 w hw) rfl (hts _ (st_x1 w hw)), vx_Zqof (hts _ st_r4.1) (hts _ st_r4.2.2) (hs _ st_r5.1) hA, vx_Zqof (hts _ st_r4.2.1) (hts _ st_r4.2.2) (hs _ st_r5.2) hA⟩
theorem st_Ns {s : State} {args : Array Value} (hts : ∀ w ∈ lw_tbl, w.before args s = true) : zNs s := fun w hw => va_tabs (st_x2 w hw) rfl (hts _ (List.mem_filter.mp hw).1)
theorem st_C {p : Program} {s : State} {m : MethodId} {meth : Method} {c : Code} {b L : Nat} {xs : Nat → Int32} (hL : L ≤ 320) (C0 : lw_At p s m meth c b L xs) : ∃ (cA dC : Nat → ClassId) (dI : Nat → Nat → Nat) (tr0 : Nat → Nat), lC p s m c cA dC dI tr0 b L xs := by
  obtain ⟨hexec, hcc, hret, hml, hown, hts, hX, hb, hlk, hgv⟩ := C0
  have hz : ∀ w ∈ zT, w.before #[Value.ref b] s = true := fun w hw => hts w (List.mem_filter.mp hw).1
  obtain ⟨cA, dC, dI, hK⟩ := st_K hz
  obtain ⟨tr0, h1, h2⟩ := st_St hts hgv
  exact ⟨cA, dC, dI, tr0, ⟨hexec, hcc, hml, hown, hz, st_Ns hts, hK, Nat.le_refl _, h1, h2, Nat.le_trans (by decide) room_f.1, Nat.le_trans (by decide) room_f.2⟩, st_PX hts hgv, hL, hX, hb⟩
