/-! the model: one object at 54, its rows at 55 .. 89 -/
def mdl (h : Nat → zE) (th : Int32) (to : Int32) (row : Nat → Int64) (gu : Int32) (ch : Int32) (now : Nat → Int32) (tape : Nat → Int32) (tp : Int32) (pt : Int32) (tt : Int32) (ne : Int32) (rd : Nat → Int32) (rM : Int32) (code : Nat → Int32) (rc : Nat → Int32) (cL : Int32) (cR : Int32) (stk : Nat → Int32) (ask : Nat → Int32) (un : Int32) (und : Nat → Int32) (aS : Nat → Int32) (aO : Nat → Int32) (aW : Nat → Int32) (aH : Nat → Int32) (ac : Int32) (thr : Nat → Int32) (ins : Nat → Int32) (gon : Nat → Int32) (nO : Nat → Int32) (mO : Nat → Int32) (rO : Nat → Int32) (wy : Nat → Int64) (ah : Nat → Int64) (late : Nat → Int32) (soon : Nat → Int32) (yet : Nat → Int32) (cir : Nat → Int32) (bed : Nat → Int32) (stp : Nat → Int32) (oO : Nat → Int32) (oW : Nat → Int32) (win : Nat → Int32) (wc : Nat → Int32) (rn : Int32) (wer : Nat → Int32) (iK : Nat → Int32) (kC : Nat → Int32) (kep : Nat → Int32) : Nat → zE := fun j =>
  if j = 54 then zO 11 [.int th, .int to, .ref 55, .int gu, .int ch, .ref 56, .ref 57, .int tp, .int pt, .int tt, .int ne, .ref 58, .int rM, .ref 59, .ref 60, .int cL, .int cR, .ref 61, .ref 62, .int un, .ref 63, .ref 64, .ref 65, .ref 66, .ref 67, .int ac, .ref 68, .ref 69, .ref 70, .ref 71, .ref 72, .ref 73, .ref 74, .ref 75, .ref 76, .ref 77, .ref 78, .ref 79, .ref 80, .ref 81, .ref 82, .ref 83, .ref 84, .ref 85, .int rn, .ref 86, .ref 87, .ref 88, .ref 89]
  else if j = 55 then zJ 24 row
  else if j = 56 then zI 0 57 now
  else if j = 57 then zI 0 80 tape
  else if j = 58 then zI 0 240 rd
  else if j = 59 then zI 0 80 code
  else if j = 60 then zI 0 80 rc
  else if j = 61 then zI 0 80 stk
  else if j = 62 then zI 0 7 ask
  else if j = 63 then zI 0 912 und
  else if j = 64 then zI 0 60 aS
  else if j = 65 then zI 0 60 aO
  else if j = 66 then zI 0 60 aW
  else if j = 67 then zI 0 60 aH
  else if j = 68 then zI 0 8 thr
  else if j = 69 then zI 0 2187 ins
  else if j = 70 then zI 0 2187 gon
  else if j = 71 then zI 0 7 nO
  else if j = 72 then zI 0 7 mO
  else if j = 73 then zI 0 7 rO
  else if j = 74 then zJ 2187 wy
  else if j = 75 then zJ 2187 ah
  else if j = 76 then zI 0 2187 late
  else if j = 77 then zI 0 2187 soon
  else if j = 78 then zI 0 2187 yet
  else if j = 79 then zI 0 7 cir
  else if j = 80 then zI 0 7 bed
  else if j = 81 then zI 0 7 stp
  else if j = 82 then zI 0 6 oO
  else if j = 83 then zI 0 6 oW
  else if j = 84 then zI 0 610 win
  else if j = 85 then zI 0 80 wc
  else if j = 86 then zI 0 57 wer
  else if j = 87 then zI 4 3 iK
  else if j = 88 then zI 0 3 kC
  else if j = 89 then zI 0 171 kep
  else h j
section MDL
variable {h : Nat → zE} {th : Int32} {to : Int32} {row : Nat → Int64} {gu : Int32} {ch : Int32} {now : Nat → Int32} {tape : Nat → Int32} {tp : Int32} {pt : Int32} {tt : Int32} {ne : Int32} {rd : Nat → Int32} {rM : Int32} {code : Nat → Int32} {rc : Nat → Int32} {cL : Int32} {cR : Int32} {stk : Nat → Int32} {ask : Nat → Int32} {un : Int32} {und : Nat → Int32} {aS : Nat → Int32} {aO : Nat → Int32} {aW : Nat → Int32} {aH : Nat → Int32} {ac : Int32} {thr : Nat → Int32} {ins : Nat → Int32} {gon : Nat → Int32} {nO : Nat → Int32} {mO : Nat → Int32} {rO : Nat → Int32} {wy : Nat → Int64} {ah : Nat → Int64} {late : Nat → Int32} {soon : Nat → Int32} {yet : Nat → Int32} {cir : Nat → Int32} {bed : Nat → Int32} {stp : Nat → Int32} {oO : Nat → Int32} {oW : Nat → Int32} {win : Nat → Int32} {wc : Nat → Int32} {rn : Int32} {wer : Nat → Int32} {iK : Nat → Int32} {kC : Nat → Int32} {kep : Nat → Int32}
theorem M_54 : (mdl h th to row gu ch now tape tp pt tt ne rd rM code rc cL cR stk ask un und aS aO aW aH ac thr ins gon nO mO rO wy ah late soon yet cir bed stp oO oW win wc rn wer iK kC kep) 54 = zO 11 [.int th, .int to, .ref 55, .int gu, .int ch, .ref 56, .ref 57, .int tp, .int pt, .int tt, .int ne, .ref 58, .int rM, .ref 59, .ref 60, .int cL, .int cR, .ref 61, .ref 62, .int un, .ref 63, .ref 64, .ref 65, .ref 66, .ref 67, .int ac, .ref 68, .ref 69, .ref 70, .ref 71, .ref 72, .ref 73, .ref 74, .ref 75, .ref 76, .ref 77, .ref 78, .ref 79, .ref 80, .ref 81, .ref 82, .ref 83, .ref 84, .ref 85, .int rn, .ref 86, .ref 87, .ref 88, .ref 89] := rfl
theorem M_row : (mdl h th to row gu ch now tape tp pt tt ne rd rM code rc cL cR stk ask un und aS aO aW aH ac thr ins gon nO mO rO wy ah late soon yet cir bed stp oO oW win wc rn wer iK kC kep) 55 = zJ 24 row := rfl
theorem M_now : (mdl h th to row gu ch now tape tp pt tt ne rd rM code rc cL cR stk ask un und aS aO aW aH ac thr ins gon nO mO rO wy ah late soon yet cir bed stp oO oW win wc rn wer iK kC kep) 56 = zI 0 57 now := rfl
theorem M_tape : (mdl h th to row gu ch now tape tp pt tt ne rd rM code rc cL cR stk ask un und aS aO aW aH ac thr ins gon nO mO rO wy ah late soon yet cir bed stp oO oW win wc rn wer iK kC kep) 57 = zI 0 80 tape := rfl
theorem M_rd : (mdl h th to row gu ch now tape tp pt tt ne rd rM code rc cL cR stk ask un und aS aO aW aH ac thr ins gon nO mO rO wy ah late soon yet cir bed stp oO oW win wc rn wer iK kC kep) 58 = zI 0 240 rd := rfl
theorem M_code : (mdl h th to row gu ch now tape tp pt tt ne rd rM code rc cL cR stk ask un und aS aO aW aH ac thr ins gon nO mO rO wy ah late soon yet cir bed stp oO oW win wc rn wer iK kC kep) 59 = zI 0 80 code := rfl
theorem M_rc : (mdl h th to row gu ch now tape tp pt tt ne rd rM code rc cL cR stk ask un und aS aO aW aH ac thr ins gon nO mO rO wy ah late soon yet cir bed stp oO oW win wc rn wer iK kC kep) 60 = zI 0 80 rc := rfl
theorem M_stk : (mdl h th to row gu ch now tape tp pt tt ne rd rM code rc cL cR stk ask un und aS aO aW aH ac thr ins gon nO mO rO wy ah late soon yet cir bed stp oO oW win wc rn wer iK kC kep) 61 = zI 0 80 stk := rfl
theorem M_ask : (mdl h th to row gu ch now tape tp pt tt ne rd rM code rc cL cR stk ask un und aS aO aW aH ac thr ins gon nO mO rO wy ah late soon yet cir bed stp oO oW win wc rn wer iK kC kep) 62 = zI 0 7 ask := rfl
theorem M_und : (mdl h th to row gu ch now tape tp pt tt ne rd rM code rc cL cR stk ask un und aS aO aW aH ac thr ins gon nO mO rO wy ah late soon yet cir bed stp oO oW win wc rn wer iK kC kep) 63 = zI 0 912 und := rfl
theorem M_aS : (mdl h th to row gu ch now tape tp pt tt ne rd rM code rc cL cR stk ask un und aS aO aW aH ac thr ins gon nO mO rO wy ah late soon yet cir bed stp oO oW win wc rn wer iK kC kep) 64 = zI 0 60 aS := rfl
theorem M_aO : (mdl h th to row gu ch now tape tp pt tt ne rd rM code rc cL cR stk ask un und aS aO aW aH ac thr ins gon nO mO rO wy ah late soon yet cir bed stp oO oW win wc rn wer iK kC kep) 65 = zI 0 60 aO := rfl
theorem M_aW : (mdl h th to row gu ch now tape tp pt tt ne rd rM code rc cL cR stk ask un und aS aO aW aH ac thr ins gon nO mO rO wy ah late soon yet cir bed stp oO oW win wc rn wer iK kC kep) 66 = zI 0 60 aW := rfl
theorem M_aH : (mdl h th to row gu ch now tape tp pt tt ne rd rM code rc cL cR stk ask un und aS aO aW aH ac thr ins gon nO mO rO wy ah late soon yet cir bed stp oO oW win wc rn wer iK kC kep) 67 = zI 0 60 aH := rfl
theorem M_thr : (mdl h th to row gu ch now tape tp pt tt ne rd rM code rc cL cR stk ask un und aS aO aW aH ac thr ins gon nO mO rO wy ah late soon yet cir bed stp oO oW win wc rn wer iK kC kep) 68 = zI 0 8 thr := rfl
theorem M_ins : (mdl h th to row gu ch now tape tp pt tt ne rd rM code rc cL cR stk ask un und aS aO aW aH ac thr ins gon nO mO rO wy ah late soon yet cir bed stp oO oW win wc rn wer iK kC kep) 69 = zI 0 2187 ins := rfl
theorem M_gon : (mdl h th to row gu ch now tape tp pt tt ne rd rM code rc cL cR stk ask un und aS aO aW aH ac thr ins gon nO mO rO wy ah late soon yet cir bed stp oO oW win wc rn wer iK kC kep) 70 = zI 0 2187 gon := rfl
theorem M_nO : (mdl h th to row gu ch now tape tp pt tt ne rd rM code rc cL cR stk ask un und aS aO aW aH ac thr ins gon nO mO rO wy ah late soon yet cir bed stp oO oW win wc rn wer iK kC kep) 71 = zI 0 7 nO := rfl
theorem M_mO : (mdl h th to row gu ch now tape tp pt tt ne rd rM code rc cL cR stk ask un und aS aO aW aH ac thr ins gon nO mO rO wy ah late soon yet cir bed stp oO oW win wc rn wer iK kC kep) 72 = zI 0 7 mO := rfl
theorem M_rO : (mdl h th to row gu ch now tape tp pt tt ne rd rM code rc cL cR stk ask un und aS aO aW aH ac thr ins gon nO mO rO wy ah late soon yet cir bed stp oO oW win wc rn wer iK kC kep) 73 = zI 0 7 rO := rfl
theorem M_wy : (mdl h th to row gu ch now tape tp pt tt ne rd rM code rc cL cR stk ask un und aS aO aW aH ac thr ins gon nO mO rO wy ah late soon yet cir bed stp oO oW win wc rn wer iK kC kep) 74 = zJ 2187 wy := rfl
theorem M_ah : (mdl h th to row gu ch now tape tp pt tt ne rd rM code rc cL cR stk ask un und aS aO aW aH ac thr ins gon nO mO rO wy ah late soon yet cir bed stp oO oW win wc rn wer iK kC kep) 75 = zJ 2187 ah := rfl
theorem M_late : (mdl h th to row gu ch now tape tp pt tt ne rd rM code rc cL cR stk ask un und aS aO aW aH ac thr ins gon nO mO rO wy ah late soon yet cir bed stp oO oW win wc rn wer iK kC kep) 76 = zI 0 2187 late := rfl
theorem M_soon : (mdl h th to row gu ch now tape tp pt tt ne rd rM code rc cL cR stk ask un und aS aO aW aH ac thr ins gon nO mO rO wy ah late soon yet cir bed stp oO oW win wc rn wer iK kC kep) 77 = zI 0 2187 soon := rfl
theorem M_yet : (mdl h th to row gu ch now tape tp pt tt ne rd rM code rc cL cR stk ask un und aS aO aW aH ac thr ins gon nO mO rO wy ah late soon yet cir bed stp oO oW win wc rn wer iK kC kep) 78 = zI 0 2187 yet := rfl
theorem M_cir : (mdl h th to row gu ch now tape tp pt tt ne rd rM code rc cL cR stk ask un und aS aO aW aH ac thr ins gon nO mO rO wy ah late soon yet cir bed stp oO oW win wc rn wer iK kC kep) 79 = zI 0 7 cir := rfl
theorem M_bed : (mdl h th to row gu ch now tape tp pt tt ne rd rM code rc cL cR stk ask un und aS aO aW aH ac thr ins gon nO mO rO wy ah late soon yet cir bed stp oO oW win wc rn wer iK kC kep) 80 = zI 0 7 bed := rfl
theorem M_stp : (mdl h th to row gu ch now tape tp pt tt ne rd rM code rc cL cR stk ask un und aS aO aW aH ac thr ins gon nO mO rO wy ah late soon yet cir bed stp oO oW win wc rn wer iK kC kep) 81 = zI 0 7 stp := rfl
theorem M_oO : (mdl h th to row gu ch now tape tp pt tt ne rd rM code rc cL cR stk ask un und aS aO aW aH ac thr ins gon nO mO rO wy ah late soon yet cir bed stp oO oW win wc rn wer iK kC kep) 82 = zI 0 6 oO := rfl
theorem M_oW : (mdl h th to row gu ch now tape tp pt tt ne rd rM code rc cL cR stk ask un und aS aO aW aH ac thr ins gon nO mO rO wy ah late soon yet cir bed stp oO oW win wc rn wer iK kC kep) 83 = zI 0 6 oW := rfl
theorem M_win : (mdl h th to row gu ch now tape tp pt tt ne rd rM code rc cL cR stk ask un und aS aO aW aH ac thr ins gon nO mO rO wy ah late soon yet cir bed stp oO oW win wc rn wer iK kC kep) 84 = zI 0 610 win := rfl
theorem M_wc : (mdl h th to row gu ch now tape tp pt tt ne rd rM code rc cL cR stk ask un und aS aO aW aH ac thr ins gon nO mO rO wy ah late soon yet cir bed stp oO oW win wc rn wer iK kC kep) 85 = zI 0 80 wc := rfl
theorem M_wer : (mdl h th to row gu ch now tape tp pt tt ne rd rM code rc cL cR stk ask un und aS aO aW aH ac thr ins gon nO mO rO wy ah late soon yet cir bed stp oO oW win wc rn wer iK kC kep) 86 = zI 0 57 wer := rfl
theorem M_iK : (mdl h th to row gu ch now tape tp pt tt ne rd rM code rc cL cR stk ask un und aS aO aW aH ac thr ins gon nO mO rO wy ah late soon yet cir bed stp oO oW win wc rn wer iK kC kep) 87 = zI 4 3 iK := rfl
theorem M_kC : (mdl h th to row gu ch now tape tp pt tt ne rd rM code rc cL cR stk ask un und aS aO aW aH ac thr ins gon nO mO rO wy ah late soon yet cir bed stp oO oW win wc rn wer iK kC kep) 88 = zI 0 3 kC := rfl
theorem M_kep : (mdl h th to row gu ch now tape tp pt tt ne rd rM code rc cL cR stk ask un und aS aO aW aH ac thr ins gon nO mO rO wy ah late soon yet cir bed stp oO oW win wc rn wer iK kC kep) 89 = zI 0 171 kep := rfl
theorem S_th {x : Int32} : z_up (mdl h th to row gu ch now tape tp pt tt ne rd rM code rc cL cR stk ask un und aS aO aW aH ac thr ins gon nO mO rO wy ah late soon yet cir bed stp oO oW win wc rn wer iK kC kep) 54 (zO 11 [.int x, .int to, .ref 55, .int gu, .int ch, .ref 56, .ref 57, .int tp, .int pt, .int tt, .int ne, .ref 58, .int rM, .ref 59, .ref 60, .int cL, .int cR, .ref 61, .ref 62, .int un, .ref 63, .ref 64, .ref 65, .ref 66, .ref 67, .int ac, .ref 68, .ref 69, .ref 70, .ref 71, .ref 72, .ref 73, .ref 74, .ref 75, .ref 76, .ref 77, .ref 78, .ref 79, .ref 80, .ref 81, .ref 82, .ref 83, .ref 84, .ref 85, .int rn, .ref 86, .ref 87, .ref 88, .ref 89]) = (mdl h x to row gu ch now tape tp pt tt ne rd rM code rc cL cR stk ask un und aS aO aW aH ac thr ins gon nO mO rO wy ah late soon yet cir bed stp oO oW win wc rn wer iK kC kep) := by
  funext j
  by_cases c : j = 54
  · subst c; rfl
  simp only [mdl, z_up, c, if_false]
theorem S_to {x : Int32} : z_up (mdl h th to row gu ch now tape tp pt tt ne rd rM code rc cL cR stk ask un und aS aO aW aH ac thr ins gon nO mO rO wy ah late soon yet cir bed stp oO oW win wc rn wer iK kC kep) 54 (zO 11 [.int th, .int x, .ref 55, .int gu, .int ch, .ref 56, .ref 57, .int tp, .int pt, .int tt, .int ne, .ref 58, .int rM, .ref 59, .ref 60, .int cL, .int cR, .ref 61, .ref 62, .int un, .ref 63, .ref 64, .ref 65, .ref 66, .ref 67, .int ac, .ref 68, .ref 69, .ref 70, .ref 71, .ref 72, .ref 73, .ref 74, .ref 75, .ref 76, .ref 77, .ref 78, .ref 79, .ref 80, .ref 81, .ref 82, .ref 83, .ref 84, .ref 85, .int rn, .ref 86, .ref 87, .ref 88, .ref 89]) = (mdl h th x row gu ch now tape tp pt tt ne rd rM code rc cL cR stk ask un und aS aO aW aH ac thr ins gon nO mO rO wy ah late soon yet cir bed stp oO oW win wc rn wer iK kC kep) := by
  funext j
  by_cases c : j = 54
  · subst c; rfl
  simp only [mdl, z_up, c, if_false]
theorem S_row {x : Nat → Int64} : z_up (mdl h th to row gu ch now tape tp pt tt ne rd rM code rc cL cR stk ask un und aS aO aW aH ac thr ins gon nO mO rO wy ah late soon yet cir bed stp oO oW win wc rn wer iK kC kep) 55 (zJ 24 x) = (mdl h th to x gu ch now tape tp pt tt ne rd rM code rc cL cR stk ask un und aS aO aW aH ac thr ins gon nO mO rO wy ah late soon yet cir bed stp oO oW win wc rn wer iK kC kep) := by
  funext j
  by_cases c : j = 55
  · subst c; rfl
  simp only [mdl, z_up, c, if_false]
theorem S_gu {x : Int32} : z_up (mdl h th to row gu ch now tape tp pt tt ne rd rM code rc cL cR stk ask un und aS aO aW aH ac thr ins gon nO mO rO wy ah late soon yet cir bed stp oO oW win wc rn wer iK kC kep) 54 (zO 11 [.int th, .int to, .ref 55, .int x, .int ch, .ref 56, .ref 57, .int tp, .int pt, .int tt, .int ne, .ref 58, .int rM, .ref 59, .ref 60, .int cL, .int cR, .ref 61, .ref 62, .int un, .ref 63, .ref 64, .ref 65, .ref 66, .ref 67, .int ac, .ref 68, .ref 69, .ref 70, .ref 71, .ref 72, .ref 73, .ref 74, .ref 75, .ref 76, .ref 77, .ref 78, .ref 79, .ref 80, .ref 81, .ref 82, .ref 83, .ref 84, .ref 85, .int rn, .ref 86, .ref 87, .ref 88, .ref 89]) = (mdl h th to row x ch now tape tp pt tt ne rd rM code rc cL cR stk ask un und aS aO aW aH ac thr ins gon nO mO rO wy ah late soon yet cir bed stp oO oW win wc rn wer iK kC kep) := by
  funext j
  by_cases c : j = 54
  · subst c; rfl
  simp only [mdl, z_up, c, if_false]
theorem S_ch {x : Int32} : z_up (mdl h th to row gu ch now tape tp pt tt ne rd rM code rc cL cR stk ask un und aS aO aW aH ac thr ins gon nO mO rO wy ah late soon yet cir bed stp oO oW win wc rn wer iK kC kep) 54 (zO 11 [.int th, .int to, .ref 55, .int gu, .int x, .ref 56, .ref 57, .int tp, .int pt, .int tt, .int ne, .ref 58, .int rM, .ref 59, .ref 60, .int cL, .int cR, .ref 61, .ref 62, .int un, .ref 63, .ref 64, .ref 65, .ref 66, .ref 67, .int ac, .ref 68, .ref 69, .ref 70, .ref 71, .ref 72, .ref 73, .ref 74, .ref 75, .ref 76, .ref 77, .ref 78, .ref 79, .ref 80, .ref 81, .ref 82, .ref 83, .ref 84, .ref 85, .int rn, .ref 86, .ref 87, .ref 88, .ref 89]) = (mdl h th to row gu x now tape tp pt tt ne rd rM code rc cL cR stk ask un und aS aO aW aH ac thr ins gon nO mO rO wy ah late soon yet cir bed stp oO oW win wc rn wer iK kC kep) := by
  funext j
  by_cases c : j = 54
  · subst c; rfl
  simp only [mdl, z_up, c, if_false]
theorem S_now {x : Nat → Int32} : z_up (mdl h th to row gu ch now tape tp pt tt ne rd rM code rc cL cR stk ask un und aS aO aW aH ac thr ins gon nO mO rO wy ah late soon yet cir bed stp oO oW win wc rn wer iK kC kep) 56 (zI 0 57 x) = (mdl h th to row gu ch x tape tp pt tt ne rd rM code rc cL cR stk ask un und aS aO aW aH ac thr ins gon nO mO rO wy ah late soon yet cir bed stp oO oW win wc rn wer iK kC kep) := by
  funext j
  by_cases c : j = 56
  · subst c; rfl
  simp only [mdl, z_up, c, if_false]
theorem S_tape {x : Nat → Int32} : z_up (mdl h th to row gu ch now tape tp pt tt ne rd rM code rc cL cR stk ask un und aS aO aW aH ac thr ins gon nO mO rO wy ah late soon yet cir bed stp oO oW win wc rn wer iK kC kep) 57 (zI 0 80 x) = (mdl h th to row gu ch now x tp pt tt ne rd rM code rc cL cR stk ask un und aS aO aW aH ac thr ins gon nO mO rO wy ah late soon yet cir bed stp oO oW win wc rn wer iK kC kep) := by
  funext j
  by_cases c : j = 57
  · subst c; rfl
  simp only [mdl, z_up, c, if_false]
theorem S_tp {x : Int32} : z_up (mdl h th to row gu ch now tape tp pt tt ne rd rM code rc cL cR stk ask un und aS aO aW aH ac thr ins gon nO mO rO wy ah late soon yet cir bed stp oO oW win wc rn wer iK kC kep) 54 (zO 11 [.int th, .int to, .ref 55, .int gu, .int ch, .ref 56, .ref 57, .int x, .int pt, .int tt, .int ne, .ref 58, .int rM, .ref 59, .ref 60, .int cL, .int cR, .ref 61, .ref 62, .int un, .ref 63, .ref 64, .ref 65, .ref 66, .ref 67, .int ac, .ref 68, .ref 69, .ref 70, .ref 71, .ref 72, .ref 73, .ref 74, .ref 75, .ref 76, .ref 77, .ref 78, .ref 79, .ref 80, .ref 81, .ref 82, .ref 83, .ref 84, .ref 85, .int rn, .ref 86, .ref 87, .ref 88, .ref 89]) = (mdl h th to row gu ch now tape x pt tt ne rd rM code rc cL cR stk ask un und aS aO aW aH ac thr ins gon nO mO rO wy ah late soon yet cir bed stp oO oW win wc rn wer iK kC kep) := by
  funext j
  by_cases c : j = 54
  · subst c; rfl
  simp only [mdl, z_up, c, if_false]
theorem S_pt {x : Int32} : z_up (mdl h th to row gu ch now tape tp pt tt ne rd rM code rc cL cR stk ask un und aS aO aW aH ac thr ins gon nO mO rO wy ah late soon yet cir bed stp oO oW win wc rn wer iK kC kep) 54 (zO 11 [.int th, .int to, .ref 55, .int gu, .int ch, .ref 56, .ref 57, .int tp, .int x, .int tt, .int ne, .ref 58, .int rM, .ref 59, .ref 60, .int cL, .int cR, .ref 61, .ref 62, .int un, .ref 63, .ref 64, .ref 65, .ref 66, .ref 67, .int ac, .ref 68, .ref 69, .ref 70, .ref 71, .ref 72, .ref 73, .ref 74, .ref 75, .ref 76, .ref 77, .ref 78, .ref 79, .ref 80, .ref 81, .ref 82, .ref 83, .ref 84, .ref 85, .int rn, .ref 86, .ref 87, .ref 88, .ref 89]) = (mdl h th to row gu ch now tape tp x tt ne rd rM code rc cL cR stk ask un und aS aO aW aH ac thr ins gon nO mO rO wy ah late soon yet cir bed stp oO oW win wc rn wer iK kC kep) := by
  funext j
  by_cases c : j = 54
  · subst c; rfl
  simp only [mdl, z_up, c, if_false]
theorem S_tt {x : Int32} : z_up (mdl h th to row gu ch now tape tp pt tt ne rd rM code rc cL cR stk ask un und aS aO aW aH ac thr ins gon nO mO rO wy ah late soon yet cir bed stp oO oW win wc rn wer iK kC kep) 54 (zO 11 [.int th, .int to, .ref 55, .int gu, .int ch, .ref 56, .ref 57, .int tp, .int pt, .int x, .int ne, .ref 58, .int rM, .ref 59, .ref 60, .int cL, .int cR, .ref 61, .ref 62, .int un, .ref 63, .ref 64, .ref 65, .ref 66, .ref 67, .int ac, .ref 68, .ref 69, .ref 70, .ref 71, .ref 72, .ref 73, .ref 74, .ref 75, .ref 76, .ref 77, .ref 78, .ref 79, .ref 80, .ref 81, .ref 82, .ref 83, .ref 84, .ref 85, .int rn, .ref 86, .ref 87, .ref 88, .ref 89]) = (mdl h th to row gu ch now tape tp pt x ne rd rM code rc cL cR stk ask un und aS aO aW aH ac thr ins gon nO mO rO wy ah late soon yet cir bed stp oO oW win wc rn wer iK kC kep) := by
  funext j
  by_cases c : j = 54
  · subst c; rfl
  simp only [mdl, z_up, c, if_false]
theorem S_ne {x : Int32} : z_up (mdl h th to row gu ch now tape tp pt tt ne rd rM code rc cL cR stk ask un und aS aO aW aH ac thr ins gon nO mO rO wy ah late soon yet cir bed stp oO oW win wc rn wer iK kC kep) 54 (zO 11 [.int th, .int to, .ref 55, .int gu, .int ch, .ref 56, .ref 57, .int tp, .int pt, .int tt, .int x, .ref 58, .int rM, .ref 59, .ref 60, .int cL, .int cR, .ref 61, .ref 62, .int un, .ref 63, .ref 64, .ref 65, .ref 66, .ref 67, .int ac, .ref 68, .ref 69, .ref 70, .ref 71, .ref 72, .ref 73, .ref 74, .ref 75, .ref 76, .ref 77, .ref 78, .ref 79, .ref 80, .ref 81, .ref 82, .ref 83, .ref 84, .ref 85, .int rn, .ref 86, .ref 87, .ref 88, .ref 89]) = (mdl h th to row gu ch now tape tp pt tt x rd rM code rc cL cR stk ask un und aS aO aW aH ac thr ins gon nO mO rO wy ah late soon yet cir bed stp oO oW win wc rn wer iK kC kep) := by
  funext j
  by_cases c : j = 54
  · subst c; rfl
  simp only [mdl, z_up, c, if_false]
theorem S_rd {x : Nat → Int32} : z_up (mdl h th to row gu ch now tape tp pt tt ne rd rM code rc cL cR stk ask un und aS aO aW aH ac thr ins gon nO mO rO wy ah late soon yet cir bed stp oO oW win wc rn wer iK kC kep) 58 (zI 0 240 x) = (mdl h th to row gu ch now tape tp pt tt ne x rM code rc cL cR stk ask un und aS aO aW aH ac thr ins gon nO mO rO wy ah late soon yet cir bed stp oO oW win wc rn wer iK kC kep) := by
  funext j
  by_cases c : j = 58
  · subst c; rfl
  simp only [mdl, z_up, c, if_false]
theorem S_rM {x : Int32} : z_up (mdl h th to row gu ch now tape tp pt tt ne rd rM code rc cL cR stk ask un und aS aO aW aH ac thr ins gon nO mO rO wy ah late soon yet cir bed stp oO oW win wc rn wer iK kC kep) 54 (zO 11 [.int th, .int to, .ref 55, .int gu, .int ch, .ref 56, .ref 57, .int tp, .int pt, .int tt, .int ne, .ref 58, .int x, .ref 59, .ref 60, .int cL, .int cR, .ref 61, .ref 62, .int un, .ref 63, .ref 64, .ref 65, .ref 66, .ref 67, .int ac, .ref 68, .ref 69, .ref 70, .ref 71, .ref 72, .ref 73, .ref 74, .ref 75, .ref 76, .ref 77, .ref 78, .ref 79, .ref 80, .ref 81, .ref 82, .ref 83, .ref 84, .ref 85, .int rn, .ref 86, .ref 87, .ref 88, .ref 89]) = (mdl h th to row gu ch now tape tp pt tt ne rd x code rc cL cR stk ask un und aS aO aW aH ac thr ins gon nO mO rO wy ah late soon yet cir bed stp oO oW win wc rn wer iK kC kep) := by
  funext j
  by_cases c : j = 54
  · subst c; rfl
  simp only [mdl, z_up, c, if_false]
theorem S_code {x : Nat → Int32} : z_up (mdl h th to row gu ch now tape tp pt tt ne rd rM code rc cL cR stk ask un und aS aO aW aH ac thr ins gon nO mO rO wy ah late soon yet cir bed stp oO oW win wc rn wer iK kC kep) 59 (zI 0 80 x) = (mdl h th to row gu ch now tape tp pt tt ne rd rM x rc cL cR stk ask un und aS aO aW aH ac thr ins gon nO mO rO wy ah late soon yet cir bed stp oO oW win wc rn wer iK kC kep) := by
  funext j
  by_cases c : j = 59
  · subst c; rfl
  simp only [mdl, z_up, c, if_false]
theorem S_rc {x : Nat → Int32} : z_up (mdl h th to row gu ch now tape tp pt tt ne rd rM code rc cL cR stk ask un und aS aO aW aH ac thr ins gon nO mO rO wy ah late soon yet cir bed stp oO oW win wc rn wer iK kC kep) 60 (zI 0 80 x) = (mdl h th to row gu ch now tape tp pt tt ne rd rM code x cL cR stk ask un und aS aO aW aH ac thr ins gon nO mO rO wy ah late soon yet cir bed stp oO oW win wc rn wer iK kC kep) := by
  funext j
  by_cases c : j = 60
  · subst c; rfl
  simp only [mdl, z_up, c, if_false]
theorem S_cL {x : Int32} : z_up (mdl h th to row gu ch now tape tp pt tt ne rd rM code rc cL cR stk ask un und aS aO aW aH ac thr ins gon nO mO rO wy ah late soon yet cir bed stp oO oW win wc rn wer iK kC kep) 54 (zO 11 [.int th, .int to, .ref 55, .int gu, .int ch, .ref 56, .ref 57, .int tp, .int pt, .int tt, .int ne, .ref 58, .int rM, .ref 59, .ref 60, .int x, .int cR, .ref 61, .ref 62, .int un, .ref 63, .ref 64, .ref 65, .ref 66, .ref 67, .int ac, .ref 68, .ref 69, .ref 70, .ref 71, .ref 72, .ref 73, .ref 74, .ref 75, .ref 76, .ref 77, .ref 78, .ref 79, .ref 80, .ref 81, .ref 82, .ref 83, .ref 84, .ref 85, .int rn, .ref 86, .ref 87, .ref 88, .ref 89]) = (mdl h th to row gu ch now tape tp pt tt ne rd rM code rc x cR stk ask un und aS aO aW aH ac thr ins gon nO mO rO wy ah late soon yet cir bed stp oO oW win wc rn wer iK kC kep) := by
  funext j
  by_cases c : j = 54
  · subst c; rfl
  simp only [mdl, z_up, c, if_false]
theorem S_cR {x : Int32} : z_up (mdl h th to row gu ch now tape tp pt tt ne rd rM code rc cL cR stk ask un und aS aO aW aH ac thr ins gon nO mO rO wy ah late soon yet cir bed stp oO oW win wc rn wer iK kC kep) 54 (zO 11 [.int th, .int to, .ref 55, .int gu, .int ch, .ref 56, .ref 57, .int tp, .int pt, .int tt, .int ne, .ref 58, .int rM, .ref 59, .ref 60, .int cL, .int x, .ref 61, .ref 62, .int un, .ref 63, .ref 64, .ref 65, .ref 66, .ref 67, .int ac, .ref 68, .ref 69, .ref 70, .ref 71, .ref 72, .ref 73, .ref 74, .ref 75, .ref 76, .ref 77, .ref 78, .ref 79, .ref 80, .ref 81, .ref 82, .ref 83, .ref 84, .ref 85, .int rn, .ref 86, .ref 87, .ref 88, .ref 89]) = (mdl h th to row gu ch now tape tp pt tt ne rd rM code rc cL x stk ask un und aS aO aW aH ac thr ins gon nO mO rO wy ah late soon yet cir bed stp oO oW win wc rn wer iK kC kep) := by
  funext j
  by_cases c : j = 54
  · subst c; rfl
  simp only [mdl, z_up, c, if_false]
theorem S_stk {x : Nat → Int32} : z_up (mdl h th to row gu ch now tape tp pt tt ne rd rM code rc cL cR stk ask un und aS aO aW aH ac thr ins gon nO mO rO wy ah late soon yet cir bed stp oO oW win wc rn wer iK kC kep) 61 (zI 0 80 x) = (mdl h th to row gu ch now tape tp pt tt ne rd rM code rc cL cR x ask un und aS aO aW aH ac thr ins gon nO mO rO wy ah late soon yet cir bed stp oO oW win wc rn wer iK kC kep) := by
  funext j
  by_cases c : j = 61
  · subst c; rfl
  simp only [mdl, z_up, c, if_false]
theorem S_ask {x : Nat → Int32} : z_up (mdl h th to row gu ch now tape tp pt tt ne rd rM code rc cL cR stk ask un und aS aO aW aH ac thr ins gon nO mO rO wy ah late soon yet cir bed stp oO oW win wc rn wer iK kC kep) 62 (zI 0 7 x) = (mdl h th to row gu ch now tape tp pt tt ne rd rM code rc cL cR stk x un und aS aO aW aH ac thr ins gon nO mO rO wy ah late soon yet cir bed stp oO oW win wc rn wer iK kC kep) := by
  funext j
  by_cases c : j = 62
  · subst c; rfl
  simp only [mdl, z_up, c, if_false]
theorem S_un {x : Int32} : z_up (mdl h th to row gu ch now tape tp pt tt ne rd rM code rc cL cR stk ask un und aS aO aW aH ac thr ins gon nO mO rO wy ah late soon yet cir bed stp oO oW win wc rn wer iK kC kep) 54 (zO 11 [.int th, .int to, .ref 55, .int gu, .int ch, .ref 56, .ref 57, .int tp, .int pt, .int tt, .int ne, .ref 58, .int rM, .ref 59, .ref 60, .int cL, .int cR, .ref 61, .ref 62, .int x, .ref 63, .ref 64, .ref 65, .ref 66, .ref 67, .int ac, .ref 68, .ref 69, .ref 70, .ref 71, .ref 72, .ref 73, .ref 74, .ref 75, .ref 76, .ref 77, .ref 78, .ref 79, .ref 80, .ref 81, .ref 82, .ref 83, .ref 84, .ref 85, .int rn, .ref 86, .ref 87, .ref 88, .ref 89]) = (mdl h th to row gu ch now tape tp pt tt ne rd rM code rc cL cR stk ask x und aS aO aW aH ac thr ins gon nO mO rO wy ah late soon yet cir bed stp oO oW win wc rn wer iK kC kep) := by
  funext j
  by_cases c : j = 54
  · subst c; rfl
  simp only [mdl, z_up, c, if_false]
theorem S_und {x : Nat → Int32} : z_up (mdl h th to row gu ch now tape tp pt tt ne rd rM code rc cL cR stk ask un und aS aO aW aH ac thr ins gon nO mO rO wy ah late soon yet cir bed stp oO oW win wc rn wer iK kC kep) 63 (zI 0 912 x) = (mdl h th to row gu ch now tape tp pt tt ne rd rM code rc cL cR stk ask un x aS aO aW aH ac thr ins gon nO mO rO wy ah late soon yet cir bed stp oO oW win wc rn wer iK kC kep) := by
  funext j
  by_cases c : j = 63
  · subst c; rfl
  simp only [mdl, z_up, c, if_false]
theorem S_aS {x : Nat → Int32} : z_up (mdl h th to row gu ch now tape tp pt tt ne rd rM code rc cL cR stk ask un und aS aO aW aH ac thr ins gon nO mO rO wy ah late soon yet cir bed stp oO oW win wc rn wer iK kC kep) 64 (zI 0 60 x) = (mdl h th to row gu ch now tape tp pt tt ne rd rM code rc cL cR stk ask un und x aO aW aH ac thr ins gon nO mO rO wy ah late soon yet cir bed stp oO oW win wc rn wer iK kC kep) := by
  funext j
  by_cases c : j = 64
  · subst c; rfl
  simp only [mdl, z_up, c, if_false]
theorem S_aO {x : Nat → Int32} : z_up (mdl h th to row gu ch now tape tp pt tt ne rd rM code rc cL cR stk ask un und aS aO aW aH ac thr ins gon nO mO rO wy ah late soon yet cir bed stp oO oW win wc rn wer iK kC kep) 65 (zI 0 60 x) = (mdl h th to row gu ch now tape tp pt tt ne rd rM code rc cL cR stk ask un und aS x aW aH ac thr ins gon nO mO rO wy ah late soon yet cir bed stp oO oW win wc rn wer iK kC kep) := by
  funext j
  by_cases c : j = 65
  · subst c; rfl
  simp only [mdl, z_up, c, if_false]
theorem S_aW {x : Nat → Int32} : z_up (mdl h th to row gu ch now tape tp pt tt ne rd rM code rc cL cR stk ask un und aS aO aW aH ac thr ins gon nO mO rO wy ah late soon yet cir bed stp oO oW win wc rn wer iK kC kep) 66 (zI 0 60 x) = (mdl h th to row gu ch now tape tp pt tt ne rd rM code rc cL cR stk ask un und aS aO x aH ac thr ins gon nO mO rO wy ah late soon yet cir bed stp oO oW win wc rn wer iK kC kep) := by
  funext j
  by_cases c : j = 66
  · subst c; rfl
  simp only [mdl, z_up, c, if_false]
theorem S_aH {x : Nat → Int32} : z_up (mdl h th to row gu ch now tape tp pt tt ne rd rM code rc cL cR stk ask un und aS aO aW aH ac thr ins gon nO mO rO wy ah late soon yet cir bed stp oO oW win wc rn wer iK kC kep) 67 (zI 0 60 x) = (mdl h th to row gu ch now tape tp pt tt ne rd rM code rc cL cR stk ask un und aS aO aW x ac thr ins gon nO mO rO wy ah late soon yet cir bed stp oO oW win wc rn wer iK kC kep) := by
  funext j
  by_cases c : j = 67
  · subst c; rfl
  simp only [mdl, z_up, c, if_false]
theorem S_ac {x : Int32} : z_up (mdl h th to row gu ch now tape tp pt tt ne rd rM code rc cL cR stk ask un und aS aO aW aH ac thr ins gon nO mO rO wy ah late soon yet cir bed stp oO oW win wc rn wer iK kC kep) 54 (zO 11 [.int th, .int to, .ref 55, .int gu, .int ch, .ref 56, .ref 57, .int tp, .int pt, .int tt, .int ne, .ref 58, .int rM, .ref 59, .ref 60, .int cL, .int cR, .ref 61, .ref 62, .int un, .ref 63, .ref 64, .ref 65, .ref 66, .ref 67, .int x, .ref 68, .ref 69, .ref 70, .ref 71, .ref 72, .ref 73, .ref 74, .ref 75, .ref 76, .ref 77, .ref 78, .ref 79, .ref 80, .ref 81, .ref 82, .ref 83, .ref 84, .ref 85, .int rn, .ref 86, .ref 87, .ref 88, .ref 89]) = (mdl h th to row gu ch now tape tp pt tt ne rd rM code rc cL cR stk ask un und aS aO aW aH x thr ins gon nO mO rO wy ah late soon yet cir bed stp oO oW win wc rn wer iK kC kep) := by
  funext j
  by_cases c : j = 54
  · subst c; rfl
  simp only [mdl, z_up, c, if_false]
theorem S_thr {x : Nat → Int32} : z_up (mdl h th to row gu ch now tape tp pt tt ne rd rM code rc cL cR stk ask un und aS aO aW aH ac thr ins gon nO mO rO wy ah late soon yet cir bed stp oO oW win wc rn wer iK kC kep) 68 (zI 0 8 x) = (mdl h th to row gu ch now tape tp pt tt ne rd rM code rc cL cR stk ask un und aS aO aW aH ac x ins gon nO mO rO wy ah late soon yet cir bed stp oO oW win wc rn wer iK kC kep) := by
  funext j
  by_cases c : j = 68
  · subst c; rfl
  simp only [mdl, z_up, c, if_false]
theorem S_ins {x : Nat → Int32} : z_up (mdl h th to row gu ch now tape tp pt tt ne rd rM code rc cL cR stk ask un und aS aO aW aH ac thr ins gon nO mO rO wy ah late soon yet cir bed stp oO oW win wc rn wer iK kC kep) 69 (zI 0 2187 x) = (mdl h th to row gu ch now tape tp pt tt ne rd rM code rc cL cR stk ask un und aS aO aW aH ac thr x gon nO mO rO wy ah late soon yet cir bed stp oO oW win wc rn wer iK kC kep) := by
  funext j
  by_cases c : j = 69
  · subst c; rfl
  simp only [mdl, z_up, c, if_false]
theorem S_gon {x : Nat → Int32} : z_up (mdl h th to row gu ch now tape tp pt tt ne rd rM code rc cL cR stk ask un und aS aO aW aH ac thr ins gon nO mO rO wy ah late soon yet cir bed stp oO oW win wc rn wer iK kC kep) 70 (zI 0 2187 x) = (mdl h th to row gu ch now tape tp pt tt ne rd rM code rc cL cR stk ask un und aS aO aW aH ac thr ins x nO mO rO wy ah late soon yet cir bed stp oO oW win wc rn wer iK kC kep) := by
  funext j
  by_cases c : j = 70
  · subst c; rfl
  simp only [mdl, z_up, c, if_false]
theorem S_nO {x : Nat → Int32} : z_up (mdl h th to row gu ch now tape tp pt tt ne rd rM code rc cL cR stk ask un und aS aO aW aH ac thr ins gon nO mO rO wy ah late soon yet cir bed stp oO oW win wc rn wer iK kC kep) 71 (zI 0 7 x) = (mdl h th to row gu ch now tape tp pt tt ne rd rM code rc cL cR stk ask un und aS aO aW aH ac thr ins gon x mO rO wy ah late soon yet cir bed stp oO oW win wc rn wer iK kC kep) := by
  funext j
  by_cases c : j = 71
  · subst c; rfl
  simp only [mdl, z_up, c, if_false]
theorem S_mO {x : Nat → Int32} : z_up (mdl h th to row gu ch now tape tp pt tt ne rd rM code rc cL cR stk ask un und aS aO aW aH ac thr ins gon nO mO rO wy ah late soon yet cir bed stp oO oW win wc rn wer iK kC kep) 72 (zI 0 7 x) = (mdl h th to row gu ch now tape tp pt tt ne rd rM code rc cL cR stk ask un und aS aO aW aH ac thr ins gon nO x rO wy ah late soon yet cir bed stp oO oW win wc rn wer iK kC kep) := by
  funext j
  by_cases c : j = 72
  · subst c; rfl
  simp only [mdl, z_up, c, if_false]
theorem S_rO {x : Nat → Int32} : z_up (mdl h th to row gu ch now tape tp pt tt ne rd rM code rc cL cR stk ask un und aS aO aW aH ac thr ins gon nO mO rO wy ah late soon yet cir bed stp oO oW win wc rn wer iK kC kep) 73 (zI 0 7 x) = (mdl h th to row gu ch now tape tp pt tt ne rd rM code rc cL cR stk ask un und aS aO aW aH ac thr ins gon nO mO x wy ah late soon yet cir bed stp oO oW win wc rn wer iK kC kep) := by
  funext j
  by_cases c : j = 73
  · subst c; rfl
  simp only [mdl, z_up, c, if_false]
theorem S_wy {x : Nat → Int64} : z_up (mdl h th to row gu ch now tape tp pt tt ne rd rM code rc cL cR stk ask un und aS aO aW aH ac thr ins gon nO mO rO wy ah late soon yet cir bed stp oO oW win wc rn wer iK kC kep) 74 (zJ 2187 x) = (mdl h th to row gu ch now tape tp pt tt ne rd rM code rc cL cR stk ask un und aS aO aW aH ac thr ins gon nO mO rO x ah late soon yet cir bed stp oO oW win wc rn wer iK kC kep) := by
  funext j
  by_cases c : j = 74
  · subst c; rfl
  simp only [mdl, z_up, c, if_false]
theorem S_ah {x : Nat → Int64} : z_up (mdl h th to row gu ch now tape tp pt tt ne rd rM code rc cL cR stk ask un und aS aO aW aH ac thr ins gon nO mO rO wy ah late soon yet cir bed stp oO oW win wc rn wer iK kC kep) 75 (zJ 2187 x) = (mdl h th to row gu ch now tape tp pt tt ne rd rM code rc cL cR stk ask un und aS aO aW aH ac thr ins gon nO mO rO wy x late soon yet cir bed stp oO oW win wc rn wer iK kC kep) := by
  funext j
  by_cases c : j = 75
  · subst c; rfl
  simp only [mdl, z_up, c, if_false]
theorem S_late {x : Nat → Int32} : z_up (mdl h th to row gu ch now tape tp pt tt ne rd rM code rc cL cR stk ask un und aS aO aW aH ac thr ins gon nO mO rO wy ah late soon yet cir bed stp oO oW win wc rn wer iK kC kep) 76 (zI 0 2187 x) = (mdl h th to row gu ch now tape tp pt tt ne rd rM code rc cL cR stk ask un und aS aO aW aH ac thr ins gon nO mO rO wy ah x soon yet cir bed stp oO oW win wc rn wer iK kC kep) := by
  funext j
  by_cases c : j = 76
  · subst c; rfl
  simp only [mdl, z_up, c, if_false]
theorem S_soon {x : Nat → Int32} : z_up (mdl h th to row gu ch now tape tp pt tt ne rd rM code rc cL cR stk ask un und aS aO aW aH ac thr ins gon nO mO rO wy ah late soon yet cir bed stp oO oW win wc rn wer iK kC kep) 77 (zI 0 2187 x) = (mdl h th to row gu ch now tape tp pt tt ne rd rM code rc cL cR stk ask un und aS aO aW aH ac thr ins gon nO mO rO wy ah late x yet cir bed stp oO oW win wc rn wer iK kC kep) := by
  funext j
  by_cases c : j = 77
  · subst c; rfl
  simp only [mdl, z_up, c, if_false]
theorem S_yet {x : Nat → Int32} : z_up (mdl h th to row gu ch now tape tp pt tt ne rd rM code rc cL cR stk ask un und aS aO aW aH ac thr ins gon nO mO rO wy ah late soon yet cir bed stp oO oW win wc rn wer iK kC kep) 78 (zI 0 2187 x) = (mdl h th to row gu ch now tape tp pt tt ne rd rM code rc cL cR stk ask un und aS aO aW aH ac thr ins gon nO mO rO wy ah late soon x cir bed stp oO oW win wc rn wer iK kC kep) := by
  funext j
  by_cases c : j = 78
  · subst c; rfl
  simp only [mdl, z_up, c, if_false]
theorem S_cir {x : Nat → Int32} : z_up (mdl h th to row gu ch now tape tp pt tt ne rd rM code rc cL cR stk ask un und aS aO aW aH ac thr ins gon nO mO rO wy ah late soon yet cir bed stp oO oW win wc rn wer iK kC kep) 79 (zI 0 7 x) = (mdl h th to row gu ch now tape tp pt tt ne rd rM code rc cL cR stk ask un und aS aO aW aH ac thr ins gon nO mO rO wy ah late soon yet x bed stp oO oW win wc rn wer iK kC kep) := by
  funext j
  by_cases c : j = 79
  · subst c; rfl
  simp only [mdl, z_up, c, if_false]
theorem S_bed {x : Nat → Int32} : z_up (mdl h th to row gu ch now tape tp pt tt ne rd rM code rc cL cR stk ask un und aS aO aW aH ac thr ins gon nO mO rO wy ah late soon yet cir bed stp oO oW win wc rn wer iK kC kep) 80 (zI 0 7 x) = (mdl h th to row gu ch now tape tp pt tt ne rd rM code rc cL cR stk ask un und aS aO aW aH ac thr ins gon nO mO rO wy ah late soon yet cir x stp oO oW win wc rn wer iK kC kep) := by
  funext j
  by_cases c : j = 80
  · subst c; rfl
  simp only [mdl, z_up, c, if_false]
theorem S_stp {x : Nat → Int32} : z_up (mdl h th to row gu ch now tape tp pt tt ne rd rM code rc cL cR stk ask un und aS aO aW aH ac thr ins gon nO mO rO wy ah late soon yet cir bed stp oO oW win wc rn wer iK kC kep) 81 (zI 0 7 x) = (mdl h th to row gu ch now tape tp pt tt ne rd rM code rc cL cR stk ask un und aS aO aW aH ac thr ins gon nO mO rO wy ah late soon yet cir bed x oO oW win wc rn wer iK kC kep) := by
  funext j
  by_cases c : j = 81
  · subst c; rfl
  simp only [mdl, z_up, c, if_false]
theorem S_oO {x : Nat → Int32} : z_up (mdl h th to row gu ch now tape tp pt tt ne rd rM code rc cL cR stk ask un und aS aO aW aH ac thr ins gon nO mO rO wy ah late soon yet cir bed stp oO oW win wc rn wer iK kC kep) 82 (zI 0 6 x) = (mdl h th to row gu ch now tape tp pt tt ne rd rM code rc cL cR stk ask un und aS aO aW aH ac thr ins gon nO mO rO wy ah late soon yet cir bed stp x oW win wc rn wer iK kC kep) := by
  funext j
  by_cases c : j = 82
  · subst c; rfl
  simp only [mdl, z_up, c, if_false]
theorem S_oW {x : Nat → Int32} : z_up (mdl h th to row gu ch now tape tp pt tt ne rd rM code rc cL cR stk ask un und aS aO aW aH ac thr ins gon nO mO rO wy ah late soon yet cir bed stp oO oW win wc rn wer iK kC kep) 83 (zI 0 6 x) = (mdl h th to row gu ch now tape tp pt tt ne rd rM code rc cL cR stk ask un und aS aO aW aH ac thr ins gon nO mO rO wy ah late soon yet cir bed stp oO x win wc rn wer iK kC kep) := by
  funext j
  by_cases c : j = 83
  · subst c; rfl
  simp only [mdl, z_up, c, if_false]
theorem S_win {x : Nat → Int32} : z_up (mdl h th to row gu ch now tape tp pt tt ne rd rM code rc cL cR stk ask un und aS aO aW aH ac thr ins gon nO mO rO wy ah late soon yet cir bed stp oO oW win wc rn wer iK kC kep) 84 (zI 0 610 x) = (mdl h th to row gu ch now tape tp pt tt ne rd rM code rc cL cR stk ask un und aS aO aW aH ac thr ins gon nO mO rO wy ah late soon yet cir bed stp oO oW x wc rn wer iK kC kep) := by
  funext j
  by_cases c : j = 84
  · subst c; rfl
  simp only [mdl, z_up, c, if_false]
theorem S_wc {x : Nat → Int32} : z_up (mdl h th to row gu ch now tape tp pt tt ne rd rM code rc cL cR stk ask un und aS aO aW aH ac thr ins gon nO mO rO wy ah late soon yet cir bed stp oO oW win wc rn wer iK kC kep) 85 (zI 0 80 x) = (mdl h th to row gu ch now tape tp pt tt ne rd rM code rc cL cR stk ask un und aS aO aW aH ac thr ins gon nO mO rO wy ah late soon yet cir bed stp oO oW win x rn wer iK kC kep) := by
  funext j
  by_cases c : j = 85
  · subst c; rfl
  simp only [mdl, z_up, c, if_false]
theorem S_rn {x : Int32} : z_up (mdl h th to row gu ch now tape tp pt tt ne rd rM code rc cL cR stk ask un und aS aO aW aH ac thr ins gon nO mO rO wy ah late soon yet cir bed stp oO oW win wc rn wer iK kC kep) 54 (zO 11 [.int th, .int to, .ref 55, .int gu, .int ch, .ref 56, .ref 57, .int tp, .int pt, .int tt, .int ne, .ref 58, .int rM, .ref 59, .ref 60, .int cL, .int cR, .ref 61, .ref 62, .int un, .ref 63, .ref 64, .ref 65, .ref 66, .ref 67, .int ac, .ref 68, .ref 69, .ref 70, .ref 71, .ref 72, .ref 73, .ref 74, .ref 75, .ref 76, .ref 77, .ref 78, .ref 79, .ref 80, .ref 81, .ref 82, .ref 83, .ref 84, .ref 85, .int x, .ref 86, .ref 87, .ref 88, .ref 89]) = (mdl h th to row gu ch now tape tp pt tt ne rd rM code rc cL cR stk ask un und aS aO aW aH ac thr ins gon nO mO rO wy ah late soon yet cir bed stp oO oW win wc x wer iK kC kep) := by
  funext j
  by_cases c : j = 54
  · subst c; rfl
  simp only [mdl, z_up, c, if_false]
theorem S_wer {x : Nat → Int32} : z_up (mdl h th to row gu ch now tape tp pt tt ne rd rM code rc cL cR stk ask un und aS aO aW aH ac thr ins gon nO mO rO wy ah late soon yet cir bed stp oO oW win wc rn wer iK kC kep) 86 (zI 0 57 x) = (mdl h th to row gu ch now tape tp pt tt ne rd rM code rc cL cR stk ask un und aS aO aW aH ac thr ins gon nO mO rO wy ah late soon yet cir bed stp oO oW win wc rn x iK kC kep) := by
  funext j
  by_cases c : j = 86
  · subst c; rfl
  simp only [mdl, z_up, c, if_false]
theorem S_iK {x : Nat → Int32} : z_up (mdl h th to row gu ch now tape tp pt tt ne rd rM code rc cL cR stk ask un und aS aO aW aH ac thr ins gon nO mO rO wy ah late soon yet cir bed stp oO oW win wc rn wer iK kC kep) 87 (zI 4 3 x) = (mdl h th to row gu ch now tape tp pt tt ne rd rM code rc cL cR stk ask un und aS aO aW aH ac thr ins gon nO mO rO wy ah late soon yet cir bed stp oO oW win wc rn wer x kC kep) := by
  funext j
  by_cases c : j = 87
  · subst c; rfl
  simp only [mdl, z_up, c, if_false]
theorem S_kC {x : Nat → Int32} : z_up (mdl h th to row gu ch now tape tp pt tt ne rd rM code rc cL cR stk ask un und aS aO aW aH ac thr ins gon nO mO rO wy ah late soon yet cir bed stp oO oW win wc rn wer iK kC kep) 88 (zI 0 3 x) = (mdl h th to row gu ch now tape tp pt tt ne rd rM code rc cL cR stk ask un und aS aO aW aH ac thr ins gon nO mO rO wy ah late soon yet cir bed stp oO oW win wc rn wer iK x kep) := by
  funext j
  by_cases c : j = 88
  · subst c; rfl
  simp only [mdl, z_up, c, if_false]
theorem S_kep {x : Nat → Int32} : z_up (mdl h th to row gu ch now tape tp pt tt ne rd rM code rc cL cR stk ask un und aS aO aW aH ac thr ins gon nO mO rO wy ah late soon yet cir bed stp oO oW win wc rn wer iK kC kep) 89 (zI 0 171 x) = (mdl h th to row gu ch now tape tp pt tt ne rd rM code rc cL cR stk ask un und aS aO aW aH ac thr ins gon nO mO rO wy ah late soon yet cir bed stp oO oW win wc rn wer iK kC x) := by
  funext j
  by_cases c : j = 89
  · subst c; rfl
  simp only [mdl, z_up, c, if_false]
end MDL

