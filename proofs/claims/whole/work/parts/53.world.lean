/-! the whole object: its parts at their names (1: itself; 2 text; 4 told; 8 dream; 12 past; 16 row; 18 fits; 22 orders; 34 costs; 41 circles; 44 games; 46, 50 the two rules) -/
abbrev cTold : Type := Nat × (Nat → Nat) × (Nat → Nat) × (Nat → Nat) × Bool × Int32
abbrev cText : Type := Nat × (Nat → Nat)
abbrev cPast : Type := (Nat → Int64) × (Nat → Int64) × (Nat → Int64) × Nat × Nat
abbrev cRow : Type := Nat × (Nat → Int64)
abbrev cFits : Type := (Nat → Nat) × (Nat → Nat) × (Nat → Bool)
/-- k, len, m, A, B, C, op, sn, tl, n, la -/
abbrev cOrd : Type := Nat × Nat × Nat × (Nat → Nat → Nat) × (Nat → Nat → Int64) × (Nat → Nat → Nat) × (Nat → Int32) × Int32 × Bool × Nat × Nat
/-- name of the row, its length, cost, worth, things, mates, wrongIn, wrongGone, lying -/
abbrev cCst : Type := Nat × Nat × (Nat → Int32) × (Nat → Int32) × (Nat → Int32) × (Nat → Nat) × (Nat → Nat) × (Nat → Nat) × Bool
abbrev cCir : Type := (Nat → Int32) × (Nat → Int32)
abbrev cGam : Type := (Nat → Int32) × Int32
abbrev cRule : Type := (Nat → Int32) × (Nat → Int32) × (Nat → Nat) × Nat × Nat × Nat
def toldS (h : Nat → zE) (b : Nat) (s : cTold) : Nat → zE := toldSet h b s.1 s.2.1 s.2.2.1 s.2.2.2.1 s.2.2.2.2.1 s.2.2.2.2.2
def textS (h : Nat → zE) (b : Nat) (s : cText) : Nat → zE := textSet h b s.1 s.2
def pastS (h : Nat → zE) (b : Nat) (s : cPast) : Nat → zE := pastSet h b s.1 s.2.1 s.2.2.1 s.2.2.2.1 s.2.2.2.2
def rowS (h : Nat → zE) (b : Nat) (s : cRow) : Nat → zE := rowSet h b s.1 s.2
def fitsS (h : Nat → zE) (b : Nat) (s : cFits) : Nat → zE := fitsSet h b s.1 s.2.1 s.2.2
def ordS (h : Nat → zE) (b : Nat) (s : cOrd) : Nat → zE := ordSet h b s.1 s.2.1 s.2.2.1 s.2.2.2.1 s.2.2.2.2.1 s.2.2.2.2.2.1 s.2.2.2.2.2.2.1 s.2.2.2.2.2.2.2.1 s.2.2.2.2.2.2.2.2.1 s.2.2.2.2.2.2.2.2.2.1 s.2.2.2.2.2.2.2.2.2.2
def ruleS (h : Nat → zE) (b : Nat) (s : cRule) : Nat → zE := ruleSet h b s.1 s.2.1 s.2.2.1 s.2.2.2.1 s.2.2.2.2.1 s.2.2.2.2.2
def cstS (h : Nat → zE) (b : Nat) (s : cCst) : Nat → zE := fun j =>
  if j = b then zO 1 [.ref s.1, .ref (b + 2), .ref (b + 3), .ref (b + 4), .ref (b + 5), .ref (b + 6), .int (b01 s.2.2.2.2.2.2.2.2)]
  else if j = s.1 then zI 0 s.2.1 s.2.2.1
  else if j = b + 2 then zI 0 896 s.2.2.2.1
  else if j = b + 3 then zI 0 7 s.2.2.2.2.1
  else if j = b + 4 then zI 0 7 (fun i => nI (s.2.2.2.2.2.1 i))
  else if j = b + 5 then zI 0 7 (fun i => nI (s.2.2.2.2.2.2.1 i))
  else if j = b + 6 then zI 0 7 (fun i => nI (s.2.2.2.2.2.2.2.1 i))
  else h j
def cirS (h : Nat → zE) (b : Nat) (s : cCir) : Nat → zE := fun j =>
  if j = b then zO 0 [.ref (b + 1), .ref (b + 2)] else if j = b + 1 then zI 0 7 s.1 else if j = b + 2 then zI 0 7 s.2 else h j
def gamS (h : Nat → zE) (b : Nat) (s : cGam) : Nat → zE := fun j =>
  if j = b then zO 3 [.ref (b + 1), .int s.2] else if j = b + 1 then zI 0 61 s.1 else h j
def wld (h : Nat → zE) (te : cText) (tO dr : cTold) (pa : cPast) (ro : cRow) (fi : cFits) (od : cOrd) (cs : cCst) (ci : cCir) (ga : cGam) (r1 r2 : cRule) (sw : Bool) : Nat → zE :=
  textS (toldS (toldS (pastS (rowS (fitsS (ruleS (ruleS (cirS (gamS (z_up (ordS (cstS h 34 cs) 22 od) 1
    (zO 10 [.ref 2, .ref 4, .ref 8, .ref 12, .ref 16, .ref 18, .ref 22, .ref 34, .ref 41, .ref 44, .ref (if sw then 50 else 46), .ref (if sw then 46 else 50)]))
    44 ga) 41 ci) 46 r1) 50 r2) 18 fi) 16 ro) 12 pa) 8 dr) 4 tO) 2 te
def oldT (s : cTold) : Prop := s.1 ≤ 7 ∧ (∀ i, s.2.1 i ≤ 9) ∧ (∀ i, s.2.2.1 i < 128) ∧ (∀ i, s.2.2.2.1 i < 128)
def oldX (s : cText) : Prop := s.1 ≤ 80 ∧ ∀ i, s.2 i < 256
def oldP (s : cPast) : Prop := s.2.2.2.2 ≤ 15 ∧ s.2.2.2.1 < 8
def oldF (s : cFits) : Prop := (∀ i, s.1 i < 128) ∧ (∀ i, s.2.1 i < 128)
def oldU (s : cRule) : Prop := s.2.2.2.1 ≤ 40 ∧ s.2.2.2.2.1 ≤ 40 ∧ s.2.2.2.2.2 ≤ s.2.2.2.2.1 ∧ ∀ i, s.2.2.1 i < 256
/-- the names of ORDERS' rows and of COSTS' row -/
def nmOK (od : cOrd) (cs : cCst) : Prop := od.1 + 7 < 1000 ∧ cs.1 < 1000 ∧ (od.1 = 23 ∨ 54 ≤ od.1) ∧ (cs.1 = 35 ∨ 54 ≤ cs.1) ∧ (cs.1 < od.1 ∨ od.1 + 7 < cs.1)
section WORLD
variable {h : Nat → zE} {te : cText} {tO dr : cTold} {pa : cPast} {ro : cRow} {fi : cFits} {od : cOrd} {cs : cCst} {ci : cCir} {ga : cGam} {r1 r2 : cRule} {sw : Bool}
theorem W_1 : (wld h te tO dr pa ro fi od cs ci ga r1 r2 sw) 1 = zO 10 [.ref 2, .ref 4, .ref 8, .ref 12, .ref 16, .ref 18, .ref 22, .ref 34, .ref 41, .ref 44, .ref (if sw then 50 else 46), .ref (if sw then 46 else 50)] := rfl
theorem W_told (hs : oldT tO) : toldAt (wld h te tO dr pa ro fi od cs ci ga r1 r2 sw) 4 tO.1 tO.2.1 tO.2.2.1 tO.2.2.2.1 tO.2.2.2.2.1 tO.2.2.2.2.2 := ⟨by decide, rfl, rfl, rfl, rfl, hs⟩
theorem W_dr (hs : oldT dr) : toldAt (wld h te tO dr pa ro fi od cs ci ga r1 r2 sw) 8 dr.1 dr.2.1 dr.2.2.1 dr.2.2.2.1 dr.2.2.2.2.1 dr.2.2.2.2.2 := ⟨by decide, rfl, rfl, rfl, rfl, hs⟩
theorem W_text (hs : oldX te) : textAt (wld h te tO dr pa ro fi od cs ci ga r1 r2 sw) 2 te.1 te.2 := ⟨by decide, hs.1, hs.2, rfl, rfl⟩
theorem W_past (hs : oldP pa) : pastAt (wld h te tO dr pa ro fi od cs ci ga r1 r2 sw) 12 pa.1 pa.2.1 pa.2.2.1 pa.2.2.2.1 pa.2.2.2.2 := ⟨by decide, hs.1, hs.2, rfl, rfl, rfl, rfl⟩
theorem W_row (hs : ro.1 ≤ 14) : rowAt (wld h te tO dr pa ro fi od cs ci ga r1 r2 sw) 16 ro.1 ro.2 := ⟨by decide, hs, rfl, rfl⟩
theorem W_fits (hs : oldF fi) : fitsAt (wld h te tO dr pa ro fi od cs ci ga r1 r2 sw) 18 fi.1 fi.2.1 fi.2.2 := ⟨by decide, rfl, rfl, rfl, rfl, hs⟩
theorem W_r1 (hs : oldU r1) : ruleAt (wld h te tO dr pa ro fi od cs ci ga r1 r2 sw) 46 r1.1 r1.2.1 r1.2.2.1 r1.2.2.2.1 r1.2.2.2.2.1 r1.2.2.2.2.2 := ⟨by decide, rfl, rfl, rfl, rfl, hs⟩
theorem W_r2 (hs : oldU r2) : ruleAt (wld h te tO dr pa ro fi od cs ci ga r1 r2 sw) 50 r2.1 r2.2.1 r2.2.2.1 r2.2.2.2.1 r2.2.2.2.2.1 r2.2.2.2.2.2 := ⟨by decide, rfl, rfl, rfl, rfl, hs⟩
theorem W_sTold {n : Nat} {rm mt nt : Nat → Nat} {fm : Bool} {vr : Int32} : toldSet (wld h te tO dr pa ro fi od cs ci ga r1 r2 sw) 4 n rm mt nt fm vr = (wld h te (n, rm, mt, nt, fm, vr) dr pa ro fi od cs ci ga r1 r2 sw) := by
  funext j
  by_cases c0 : j = 4
  · subst c0; rfl
  by_cases c1 : j = 5
  · subst c1; rfl
  by_cases c2 : j = 6
  · subst c2; rfl
  by_cases c3 : j = 7
  · subst c3; rfl
  simp only [wld, textS, toldS, pastS, rowS, fitsS, ruleS, cirS, gamS, textSet, toldSet, pastSet, rowSet, fitsSet, ruleSet, z_up, Nat.reduceAdd, c0, c1, c2, c3, if_false]
theorem W_sDr {n : Nat} {rm mt nt : Nat → Nat} {fm : Bool} {vr : Int32} : toldSet (wld h te tO dr pa ro fi od cs ci ga r1 r2 sw) 8 n rm mt nt fm vr = (wld h te tO (n, rm, mt, nt, fm, vr) pa ro fi od cs ci ga r1 r2 sw) := by
  funext j
  by_cases c0 : j = 8
  · subst c0; rfl
  by_cases c1 : j = 9
  · subst c1; rfl
  by_cases c2 : j = 10
  · subst c2; rfl
  by_cases c3 : j = 11
  · subst c3; rfl
  simp only [wld, textS, toldS, pastS, rowS, fitsS, ruleS, cirS, gamS, textSet, toldSet, pastSet, rowSet, fitsSet, ruleSet, z_up, Nat.reduceAdd, c0, c1, c2, c3, if_false]
theorem W_sText {len : Nat} {c : Nat → Nat} : textSet (wld h te tO dr pa ro fi od cs ci ga r1 r2 sw) 2 len c = (wld h (len, c) tO dr pa ro fi od cs ci ga r1 r2 sw) := by
  funext j
  by_cases c0 : j = 2
  · subst c0; rfl
  by_cases c1 : j = 3
  · subst c1; rfl
  simp only [wld, textS, toldS, pastS, rowS, fitsS, ruleS, cirS, gamS, textSet, toldSet, pastSet, rowSet, fitsSet, ruleSet, z_up, Nat.reduceAdd, c0, c1, if_false]
theorem W_sPast {F S K : Nat → Int64} {ko k : Nat} : pastSet (wld h te tO dr pa ro fi od cs ci ga r1 r2 sw) 12 F S K ko k = (wld h te tO dr (F, S, K, ko, k) ro fi od cs ci ga r1 r2 sw) := by
  funext j
  by_cases c0 : j = 12
  · subst c0; rfl
  by_cases c1 : j = 13
  · subst c1; rfl
  by_cases c2 : j = 14
  · subst c2; rfl
  by_cases c3 : j = 15
  · subst c3; rfl
  simp only [wld, textS, toldS, pastS, rowS, fitsS, ruleS, cirS, gamS, textSet, toldSet, pastSet, rowSet, fitsSet, ruleSet, z_up, Nat.reduceAdd, c0, c1, c2, c3, if_false]
theorem W_sRow {k : Nat} {f : Nat → Int64} : rowSet (wld h te tO dr pa ro fi od cs ci ga r1 r2 sw) 16 k f = (wld h te tO dr pa (k, f) fi od cs ci ga r1 r2 sw) := by
  funext j
  by_cases c0 : j = 16
  · subst c0; rfl
  by_cases c1 : j = 17
  · subst c1; rfl
  simp only [wld, textS, toldS, pastS, rowS, fitsS, ruleS, cirS, gamS, textSet, toldSet, pastSet, rowSet, fitsSet, ruleSet, z_up, Nat.reduceAdd, c0, c1, if_false]
theorem W_sFits {nd br : Nat → Nat} {rc : Nat → Bool} : fitsSet (wld h te tO dr pa ro fi od cs ci ga r1 r2 sw) 18 nd br rc = (wld h te tO dr pa ro (nd, br, rc) od cs ci ga r1 r2 sw) := by
  funext j
  by_cases c0 : j = 18
  · subst c0; rfl
  by_cases c1 : j = 19
  · subst c1; rfl
  by_cases c2 : j = 20
  · subst c2; rfl
  by_cases c3 : j = 21
  · subst c3; rfl
  simp only [wld, textS, toldS, pastS, rowS, fitsS, ruleS, cirS, gamS, textSet, toldSet, pastSet, rowSet, fitsSet, ruleSet, z_up, Nat.reduceAdd, c0, c1, c2, c3, if_false]
theorem W_sR1 {cd st : Nat → Int32} {sg : Nat → Nat} {sz sp p : Nat} : ruleSet (wld h te tO dr pa ro fi od cs ci ga r1 r2 sw) 46 cd st sg sz sp p = (wld h te tO dr pa ro fi od cs ci ga (cd, st, sg, sz, sp, p) r2 sw) := by
  funext j
  by_cases c0 : j = 46
  · subst c0; rfl
  by_cases c1 : j = 47
  · subst c1; rfl
  by_cases c2 : j = 48
  · subst c2; rfl
  by_cases c3 : j = 49
  · subst c3; rfl
  simp only [wld, textS, toldS, pastS, rowS, fitsS, ruleS, cirS, gamS, textSet, toldSet, pastSet, rowSet, fitsSet, ruleSet, z_up, Nat.reduceAdd, c0, c1, c2, c3, if_false]
theorem W_sR2 {cd st : Nat → Int32} {sg : Nat → Nat} {sz sp p : Nat} : ruleSet (wld h te tO dr pa ro fi od cs ci ga r1 r2 sw) 50 cd st sg sz sp p = (wld h te tO dr pa ro fi od cs ci ga r1 (cd, st, sg, sz, sp, p) sw) := by
  funext j
  by_cases c0 : j = 50
  · subst c0; rfl
  by_cases c1 : j = 51
  · subst c1; rfl
  by_cases c2 : j = 52
  · subst c2; rfl
  by_cases c3 : j = 53
  · subst c3; rfl
  simp only [wld, textS, toldS, pastS, rowS, fitsS, ruleS, cirS, gamS, textSet, toldSet, pastSet, rowSet, fitsSet, ruleSet, z_up, Nat.reduceAdd, c0, c1, c2, c3, if_false]
theorem W_sSw {b : Bool} : z_up (wld h te tO dr pa ro fi od cs ci ga r1 r2 sw) 1 (zO 10 [.ref 2, .ref 4, .ref 8, .ref 12, .ref 16, .ref 18, .ref 22, .ref 34, .ref 41, .ref 44, .ref (if b then 50 else 46), .ref (if b then 46 else 50)]) = (wld h te tO dr pa ro fi od cs ci ga r1 r2 b) := by
  funext j
  by_cases c0 : j = 1
  · subst c0; rfl
  simp only [wld, textS, toldS, pastS, rowS, fitsS, ruleS, cirS, gamS, textSet, toldSet, pastSet, rowSet, fitsSet, ruleSet, z_up, Nat.reduceAdd, c0, if_false]
/-! told, row, circles, games: cell by cell -/
theorem W_4 : (wld h te tO dr pa ro fi od cs ci ga r1 r2 sw) 4 = zO 9 [.ref 5, .ref 6, .ref 7, .int (nI tO.1), .int (if tO.2.2.2.2.1 then 1 else 0), .int tO.2.2.2.2.2] := rfl
theorem W_5 : (wld h te tO dr pa ro fi od cs ci ga r1 r2 sw) 5 = zI 0 7 (fun i => nI (tO.2.1 i)) := rfl
theorem W_6 : (wld h te tO dr pa ro fi od cs ci ga r1 r2 sw) 6 = zI 0 7 (fun i => nI (tO.2.2.1 i)) := rfl
theorem W_7 : (wld h te tO dr pa ro fi od cs ci ga r1 r2 sw) 7 = zI 0 7 (fun i => nI (tO.2.2.2.1 i)) := rfl
theorem W_8 : (wld h te tO dr pa ro fi od cs ci ga r1 r2 sw) 8 = zO 9 [.ref 9, .ref 10, .ref 11, .int (nI dr.1), .int (if dr.2.2.2.2.1 then 1 else 0), .int dr.2.2.2.2.2] := rfl
theorem W_2 : (wld h te tO dr pa ro fi od cs ci ga r1 r2 sw) 2 = zO 8 [.ref 3, .int (nI te.1)] := rfl
theorem W_12 : (wld h te tO dr pa ro fi od cs ci ga r1 r2 sw) 12 = zO 5 [.ref 13, .ref 14, .ref 15, .int (nI pa.2.2.2.1), .int (nI pa.2.2.2.2)] := rfl
theorem W_16 : (wld h te tO dr pa ro fi od cs ci ga r1 r2 sw) 16 = zO 6 [.ref 17, .int (nI ro.1)] := rfl
theorem W_17 : (wld h te tO dr pa ro fi od cs ci ga r1 r2 sw) 17 = zJ 14 ro.2 := rfl
theorem W_18 : (wld h te tO dr pa ro fi od cs ci ga r1 r2 sw) 18 = zO 2 [.ref 19, .ref 20, .ref 21] := rfl
theorem W_41 : (wld h te tO dr pa ro fi od cs ci ga r1 r2 sw) 41 = zO 0 [.ref 42, .ref 43] := rfl
theorem W_42 : (wld h te tO dr pa ro fi od cs ci ga r1 r2 sw) 42 = zI 0 7 ci.1 := rfl
theorem W_43 : (wld h te tO dr pa ro fi od cs ci ga r1 r2 sw) 43 = zI 0 7 ci.2 := rfl
theorem W_44 : (wld h te tO dr pa ro fi od cs ci ga r1 r2 sw) 44 = zO 3 [.ref 45, .int ga.2] := rfl
theorem W_45 : (wld h te tO dr pa ro fi od cs ci ga r1 r2 sw) 45 = zI 0 61 ga.1 := rfl
theorem W_46 : (wld h te tO dr pa ro fi od cs ci ga r1 r2 sw) 46 = zO 7 [.ref 47, .ref 48, .ref 49, .int (nI r1.2.2.2.1), .int (nI r1.2.2.2.2.1), .int (nI r1.2.2.2.2.2)] := rfl
theorem W_50 : (wld h te tO dr pa ro fi od cs ci ga r1 r2 sw) 50 = zO 7 [.ref 51, .ref 52, .ref 53, .int (nI r2.2.2.2.1), .int (nI r2.2.2.2.2.1), .int (nI r2.2.2.2.2.2)] := rfl
theorem W_s42 {f : Nat → Int32} : z_up (wld h te tO dr pa ro fi od cs ci ga r1 r2 sw) 42 (zI 0 7 f) = (wld h te tO dr pa ro fi od cs (f, ci.2) ga r1 r2 sw) := by
  funext j
  by_cases c0 : j = 42
  · subst c0; rfl
  simp only [wld, textS, toldS, pastS, rowS, fitsS, ruleS, cirS, gamS, textSet, toldSet, pastSet, rowSet, fitsSet, ruleSet, z_up, Nat.reduceAdd, c0, if_false]
theorem W_s43 {f : Nat → Int32} : z_up (wld h te tO dr pa ro fi od cs ci ga r1 r2 sw) 43 (zI 0 7 f) = (wld h te tO dr pa ro fi od cs (ci.1, f) ga r1 r2 sw) := by
  funext j
  by_cases c0 : j = 43
  · subst c0; rfl
  simp only [wld, textS, toldS, pastS, rowS, fitsS, ruleS, cirS, gamS, textSet, toldSet, pastSet, rowSet, fitsSet, ruleSet, z_up, Nat.reduceAdd, c0, if_false]
theorem W_s44 {x : Int32} : z_up (wld h te tO dr pa ro fi od cs ci ga r1 r2 sw) 44 (zO 3 [.ref 45, .int x]) = (wld h te tO dr pa ro fi od cs ci (ga.1, x) r1 r2 sw) := by
  funext j
  by_cases c0 : j = 44
  · subst c0; rfl
  simp only [wld, textS, toldS, pastS, rowS, fitsS, ruleS, cirS, gamS, textSet, toldSet, pastSet, rowSet, fitsSet, ruleSet, z_up, Nat.reduceAdd, c0, if_false]
theorem W_s45 {f : Nat → Int32} : z_up (wld h te tO dr pa ro fi od cs ci ga r1 r2 sw) 45 (zI 0 61 f) = (wld h te tO dr pa ro fi od cs ci (f, ga.2) r1 r2 sw) := by
  funext j
  by_cases c0 : j = 45
  · subst c0; rfl
  simp only [wld, textS, toldS, pastS, rowS, fitsS, ruleS, cirS, gamS, textSet, toldSet, pastSet, rowSet, fitsSet, ruleSet, z_up, Nat.reduceAdd, c0, if_false]
end WORLD

