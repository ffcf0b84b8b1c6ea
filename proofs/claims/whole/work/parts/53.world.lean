/-! the whole object: its parts at their names (1: itself; 2 text; 4 told; 8 dream; 12 past; 16 row; 18 fits; 22 orders; 34 costs; 41 circles; 44 games; 46, 50 the two rules) -/
structure cTold where
  n : Nat
  rm : Nat → Nat
  mt : Nat → Nat
  nt : Nat → Nat
  fm : Bool
  vr : Int32
structure cText where
  len : Nat
  c : Nat → Nat
structure cPast where
  F : Nat → Int64
  S : Nat → Int64
  K : Nat → Int64
  ko : Nat
  k : Nat
structure cRow where
  k : Nat
  f : Nat → Int64
structure cFits where
  nd : Nat → Nat
  br : Nat → Nat
  rc : Nat → Bool
structure cOrd where
  k : Nat
  len : Nat
  m : Nat
  A : Nat → Nat → Nat
  B : Nat → Nat → Int64
  C : Nat → Nat → Nat
  op : Nat → Int32
  sn : Int32
  tl : Bool
  n : Nat
  la : Nat
structure cCst where
  K : Nat
  cl : Nat
  co : Nat → Int32
  wo : Nat → Int32
  th : Nat → Int32
  ma : Nat → Nat
  wi : Nat → Nat
  wg : Nat → Nat
  ly : Bool
structure cCir where
  tu : Nat → Int32
  be : Nat → Int32
structure cGam where
  wn : Nat → Int32
  sd : Int32
structure cRule where
  cd : Nat → Int32
  st : Nat → Int32
  sg : Nat → Nat
  sz : Nat
  sp : Nat
  p : Nat
structure WS where
  te : cText
  tO : cTold
  dr : cTold
  pa : cPast
  ro : cRow
  fi : cFits
  od : cOrd
  cs : cCst
  ci : cCir
  ga : cGam
  r1 : cRule
  r2 : cRule
  sw : Bool
def toldS (h : Nat → zE) (b : Nat) (s : cTold) : Nat → zE := toldSet h b s.n s.rm s.mt s.nt s.fm s.vr
def textS (h : Nat → zE) (b : Nat) (s : cText) : Nat → zE := textSet h b s.len s.c
def pastS (h : Nat → zE) (b : Nat) (s : cPast) : Nat → zE := pastSet h b s.F s.S s.K s.ko s.k
def rowS (h : Nat → zE) (b : Nat) (s : cRow) : Nat → zE := rowSet h b s.k s.f
def fitsS (h : Nat → zE) (b : Nat) (s : cFits) : Nat → zE := fitsSet h b s.nd s.br s.rc
def ordS (h : Nat → zE) (b : Nat) (s : cOrd) : Nat → zE := ordSet h b s.k s.len s.m s.A s.B s.C s.op s.sn s.tl s.n s.la
def ruleS (h : Nat → zE) (b : Nat) (s : cRule) : Nat → zE := ruleSet h b s.cd s.st s.sg s.sz s.sp s.p
def cstS (h : Nat → zE) (b : Nat) (s : cCst) : Nat → zE := fun j =>
  if j = b then zO 1 [.ref s.K, .ref (b + 2), .ref (b + 3), .ref (b + 4), .ref (b + 5), .ref (b + 6), .int (b01 s.ly)]
  else if j = s.K then zI 0 s.cl s.co
  else if j = b + 2 then zI 0 896 s.wo
  else if j = b + 3 then zI 0 7 s.th
  else if j = b + 4 then zI 0 7 (fun i => nI (s.ma i))
  else if j = b + 5 then zI 0 7 (fun i => nI (s.wi i))
  else if j = b + 6 then zI 0 7 (fun i => nI (s.wg i))
  else h j
def cirS (h : Nat → zE) (b : Nat) (s : cCir) : Nat → zE := fun j =>
  if j = b then zO 0 [.ref (b + 1), .ref (b + 2)] else if j = b + 1 then zI 0 7 s.tu else if j = b + 2 then zI 0 7 s.be else h j
def gamS (h : Nat → zE) (b : Nat) (s : cGam) : Nat → zE := fun j =>
  if j = b then zO 3 [.ref (b + 1), .int s.sd] else if j = b + 1 then zI 0 61 s.wn else h j
def wld (h : Nat → zE) (s : WS) : Nat → zE :=
  textS (toldS (toldS (pastS (rowS (fitsS (ruleS (ruleS (cirS (gamS (z_up (ordS (cstS h 34 s.cs) 22 s.od) 1
    (zO 10 [.ref 2, .ref 4, .ref 8, .ref 12, .ref 16, .ref 18, .ref 22, .ref 34, .ref 41, .ref 44, .ref (if s.sw then 50 else 46), .ref (if s.sw then 46 else 50)]))
    44 s.ga) 41 s.ci) 46 s.r1) 50 s.r2) 18 s.fi) 16 s.ro) 12 s.pa) 8 s.dr) 4 s.tO) 2 s.te
def oldT (s : cTold) : Prop := s.n ≤ 7 ∧ (∀ i, s.rm i ≤ 9) ∧ (∀ i, s.mt i < 128) ∧ (∀ i, s.nt i < 128)
/-- the names of ORDERS' rows and of COSTS' row -/
def namesOK (s : WS) : Prop := s.od.k + 7 < 1000 ∧ s.cs.K < 1000 ∧ (s.od.k = 23 ∨ 54 ≤ s.od.k) ∧ (s.cs.K = 35 ∨ 54 ≤ s.cs.K) ∧ (s.cs.K < s.od.k ∨ s.od.k + 7 < s.cs.K)
def wOK (s : WS) : Prop := namesOK s ∧ oldT s.tO ∧ oldT s.dr ∧ (s.te.len ≤ 80 ∧ ∀ i, s.te.c i < 256) ∧ (s.pa.k ≤ 15 ∧ s.pa.ko < 8) ∧ s.ro.k ≤ 14 ∧ ((∀ i, s.fi.nd i < 128) ∧ (∀ i, s.fi.br i < 128)) ∧ (s.r1.sz ≤ 40 ∧ s.r1.sp ≤ 40 ∧ s.r1.p ≤ s.r1.sp ∧ ∀ i, s.r1.sg i < 256) ∧ (s.r2.sz ≤ 40 ∧ s.r2.sp ≤ 40 ∧ s.r2.p ≤ s.r2.sp ∧ ∀ i, s.r2.sg i < 256)
section WORLD
variable {h : Nat → zE} {s : WS}
theorem W_1 : wld h s 1 = zO 10 [.ref 2, .ref 4, .ref 8, .ref 12, .ref 16, .ref 18, .ref 22, .ref 34, .ref 41, .ref 44, .ref (if s.sw then 50 else 46), .ref (if s.sw then 46 else 50)] := rfl
theorem W_told (hs : wOK s) : toldAt (wld h s) 4 s.tO.n s.tO.rm s.tO.mt s.tO.nt s.tO.fm s.tO.vr := ⟨by decide, rfl, rfl, rfl, rfl, hs.2.1.1, hs.2.1.2.1, hs.2.1.2.2.1, hs.2.1.2.2.2⟩
theorem W_dr (hs : wOK s) : toldAt (wld h s) 8 s.dr.n s.dr.rm s.dr.mt s.dr.nt s.dr.fm s.dr.vr := ⟨by decide, rfl, rfl, rfl, rfl, hs.2.2.1.1, hs.2.2.1.2.1, hs.2.2.1.2.2.1, hs.2.2.1.2.2.2⟩
theorem W_text (hs : wOK s) : textAt (wld h s) 2 s.te.len s.te.c := ⟨by decide, hs.2.2.2.1.1, hs.2.2.2.1.2, rfl, rfl⟩
theorem W_past (hs : wOK s) : pastAt (wld h s) 12 s.pa.F s.pa.S s.pa.K s.pa.ko s.pa.k := ⟨by decide, hs.2.2.2.2.1.1, hs.2.2.2.2.1.2, rfl, rfl, rfl, rfl⟩
theorem W_row (hs : wOK s) : rowAt (wld h s) 16 s.ro.k s.ro.f := ⟨by decide, hs.2.2.2.2.2.1, rfl, rfl⟩
theorem W_fits (hs : wOK s) : fitsAt (wld h s) 18 s.fi.nd s.fi.br s.fi.rc := ⟨by decide, rfl, rfl, rfl, rfl, hs.2.2.2.2.2.2.1.1, hs.2.2.2.2.2.2.1.2⟩
theorem W_r1 (hs : wOK s) : ruleAt (wld h s) 46 s.r1.cd s.r1.st s.r1.sg s.r1.sz s.r1.sp s.r1.p := ⟨by decide, rfl, rfl, rfl, rfl, hs.2.2.2.2.2.2.2.1⟩
theorem W_r2 (hs : wOK s) : ruleAt (wld h s) 50 s.r2.cd s.r2.st s.r2.sg s.r2.sz s.r2.sp s.r2.p := ⟨by decide, rfl, rfl, rfl, rfl, hs.2.2.2.2.2.2.2.2⟩
theorem W_ok (hs : wOK s) : ordOK 22 s.od.k := by
  obtain ⟨⟨a1, a2, a3, a4, a5⟩, -⟩ := hs
  exact ⟨by decide, a1, by omega⟩
/-! a change of one part -/
theorem W_sTold {n : Nat} {rm mt nt : Nat → Nat} {fm : Bool} {vr : Int32} : toldSet (wld h s) 4 n rm mt nt fm vr = wld h { s with tO := ⟨n, rm, mt, nt, fm, vr⟩ } := by
  funext j
  by_cases c0 : j = 4
  · subst c0; rfl
  by_cases c1 : j = 5
  · subst c1; rfl
  by_cases c2 : j = 6
  · subst c2; rfl
  by_cases c3 : j = 7
  · subst c3; rfl
  simp only [wld, toldS, textS, toldSet, textSet, Nat.reduceAdd, c0, c1, c2, c3, if_false]
theorem W_sDr {n : Nat} {rm mt nt : Nat → Nat} {fm : Bool} {vr : Int32} : toldSet (wld h s) 8 n rm mt nt fm vr = wld h { s with dr := ⟨n, rm, mt, nt, fm, vr⟩ } := by
  funext j
  by_cases c0 : j = 8
  · subst c0; rfl
  by_cases c1 : j = 9
  · subst c1; rfl
  by_cases c2 : j = 10
  · subst c2; rfl
  by_cases c3 : j = 11
  · subst c3; rfl
  simp only [wld, toldS, textS, toldSet, textSet, Nat.reduceAdd, c0, c1, c2, c3, if_false]
theorem W_sText {len : Nat} {c : Nat → Nat} : textSet (wld h s) 2 len c = wld h { s with te := ⟨len, c⟩ } := by
  funext j
  by_cases c0 : j = 2
  · subst c0; rfl
  by_cases c1 : j = 3
  · subst c1; rfl
  simp only [wld, textS, textSet, Nat.reduceAdd, c0, c1, if_false]
theorem W_sPast {F S K : Nat → Int64} {ko k : Nat} : pastSet (wld h s) 12 F S K ko k = wld h { s with pa := ⟨F, S, K, ko, k⟩ } := by
  funext j
  by_cases c0 : j = 12
  · subst c0; rfl
  by_cases c1 : j = 13
  · subst c1; rfl
  by_cases c2 : j = 14
  · subst c2; rfl
  by_cases c3 : j = 15
  · subst c3; rfl
  simp only [wld, toldS, textS, pastS, toldSet, textSet, pastSet, Nat.reduceAdd, c0, c1, c2, c3, if_false]
theorem W_sRow {k : Nat} {f : Nat → Int64} : rowSet (wld h s) 16 k f = wld h { s with ro := ⟨k, f⟩ } := by
  funext j
  by_cases c0 : j = 16
  · subst c0; rfl
  by_cases c1 : j = 17
  · subst c1; rfl
  simp only [wld, toldS, textS, pastS, rowS, toldSet, textSet, pastSet, rowSet, Nat.reduceAdd, c0, c1, if_false]
theorem W_sFits {nd br : Nat → Nat} {rc : Nat → Bool} : fitsSet (wld h s) 18 nd br rc = wld h { s with fi := ⟨nd, br, rc⟩ } := by
  funext j
  by_cases c0 : j = 18
  · subst c0; rfl
  by_cases c1 : j = 19
  · subst c1; rfl
  by_cases c2 : j = 20
  · subst c2; rfl
  by_cases c3 : j = 21
  · subst c3; rfl
  simp only [wld, toldS, textS, pastS, rowS, fitsS, toldSet, textSet, pastSet, rowSet, fitsSet, Nat.reduceAdd, c0, c1, c2, c3, if_false]
theorem W_sR1 {cd st : Nat → Int32} {sg : Nat → Nat} {sz sp p : Nat} : ruleSet (wld h s) 46 cd st sg sz sp p = wld h { s with r1 := ⟨cd, st, sg, sz, sp, p⟩ } := by
  funext j
  by_cases c0 : j = 46
  · subst c0; rfl
  by_cases c1 : j = 47
  · subst c1; rfl
  by_cases c2 : j = 48
  · subst c2; rfl
  by_cases c3 : j = 49
  · subst c3; rfl
  simp only [wld, toldS, textS, pastS, rowS, fitsS, ruleS, toldSet, textSet, pastSet, rowSet, fitsSet, ruleSet, Nat.reduceAdd, c0, c1, c2, c3, if_false]
theorem W_sR2 {cd st : Nat → Int32} {sg : Nat → Nat} {sz sp p : Nat} : ruleSet (wld h s) 50 cd st sg sz sp p = wld h { s with r2 := ⟨cd, st, sg, sz, sp, p⟩ } := by
  funext j
  by_cases c0 : j = 50
  · subst c0; rfl
  by_cases c1 : j = 51
  · subst c1; rfl
  by_cases c2 : j = 52
  · subst c2; rfl
  by_cases c3 : j = 53
  · subst c3; rfl
  simp only [wld, toldS, textS, pastS, rowS, fitsS, ruleS, toldSet, textSet, pastSet, rowSet, fitsSet, ruleSet, Nat.reduceAdd, c0, c1, c2, c3, if_false]
theorem W_sSw {b : Bool} : z_up (wld h s) 1 (zO 10 [.ref 2, .ref 4, .ref 8, .ref 12, .ref 16, .ref 18, .ref 22, .ref 34, .ref 41, .ref 44, .ref (if b then 50 else 46), .ref (if b then 46 else 50)]) = wld h { s with sw := b } := by
  funext j
  by_cases c0 : j = 1
  · subst c0; rfl
  rw [z_up_n _ _ c0]
  simp only [wld, toldS, textS, pastS, rowS, fitsS, ruleS, cirS, gamS, toldSet, textSet, pastSet, rowSet, fitsSet, ruleSet, z_up, c0, if_false]
/-! circles and games -/
theorem W_41 : wld h s 41 = zO 0 [.ref 42, .ref 43] := rfl
theorem W_42 : wld h s 42 = zI 0 7 s.ci.tu := rfl
theorem W_43 : wld h s 43 = zI 0 7 s.ci.be := rfl
theorem W_44 : wld h s 44 = zO 3 [.ref 45, .int s.ga.sd] := rfl
theorem W_45 : wld h s 45 = zI 0 61 s.ga.wn := rfl
theorem W_s42 {f : Nat → Int32} : z_up (wld h s) 42 (zI 0 7 f) = wld h { s with ci := ⟨f, s.ci.be⟩ } := by
  funext j
  by_cases c0 : j = 42
  · subst c0; rfl
  rw [z_up_n _ _ c0]
  simp only [wld, toldS, textS, pastS, rowS, fitsS, ruleS, cirS, toldSet, textSet, pastSet, rowSet, fitsSet, ruleSet, Nat.reduceAdd, c0, if_false]
theorem W_s43 {f : Nat → Int32} : z_up (wld h s) 43 (zI 0 7 f) = wld h { s with ci := ⟨s.ci.tu, f⟩ } := by
  funext j
  by_cases c0 : j = 43
  · subst c0; rfl
  rw [z_up_n _ _ c0]
  simp only [wld, toldS, textS, pastS, rowS, fitsS, ruleS, cirS, toldSet, textSet, pastSet, rowSet, fitsSet, ruleSet, Nat.reduceAdd, c0, if_false]
theorem W_s44 {x : Int32} : z_up (wld h s) 44 (zO 3 [.ref 45, .int x]) = wld h { s with ga := ⟨s.ga.wn, x⟩ } := by
  funext j
  by_cases c0 : j = 44
  · subst c0; rfl
  rw [z_up_n _ _ c0]
  simp only [wld, toldS, textS, pastS, rowS, fitsS, ruleS, cirS, gamS, toldSet, textSet, pastSet, rowSet, fitsSet, ruleSet, Nat.reduceAdd, c0, if_false]
theorem W_s45 {f : Nat → Int32} : z_up (wld h s) 45 (zI 0 61 f) = wld h { s with ga := ⟨f, s.ga.sd⟩ } := by
  funext j
  by_cases c0 : j = 45
  · subst c0; rfl
  rw [z_up_n _ _ c0]
  simp only [wld, toldS, textS, pastS, rowS, fitsS, ruleS, cirS, gamS, toldSet, textSet, pastSet, rowSet, fitsSet, ruleSet, Nat.reduceAdd, c0, if_false]
end WORLD

