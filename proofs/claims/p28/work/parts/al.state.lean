section
variable {ow ow' : Nat → Nat} {h h' : List mCel}
/-- cells of an owner stay as they are, and the owner's -/
def FrN (n : Nat) (ow ow' : Nat → Nat) (h h' : List mCel) : Prop := ∀ a, a < 8 + h.length → ow a = n → ow' a = n ∧ mCell h' a = mCell h a
theorem fr_cell {n a : Nat} {c : mCel} (F : FrN n ow ow' h h') (hc : mCell h a = some c) (ho : ow a = n) : ow' a = n ∧ mCell h' a = some c := by
  have h8 := cell_8 hc
  obtain ⟨f1, f2⟩ := F a (by omega) ho
  exact ⟨f1, f2.trans hc⟩
def c18 : mCel := .inr (8, [.ref 12, .ref 17, .ref 19, .ref 24])
def c28 : mCel := .inr (7, [.ref 12, .ref 17, .ref 32, .ref 29])
/-- what never changes: arcs, the searcher, the shortener -/
def KSta (ow : Nat → Nat) (h : List mCel) : Prop := (∃ fX fY, aH 9 10 11 fX fY h) ∧ mCell h 18 = some c18 ∧ mCell h 28 = some c28 ∧ ow 9 = 0 ∧ ow 10 = 0 ∧ ow 11 = 0 ∧ ow 18 = 0 ∧ ow 28 = 0
theorem sta_keep (K : KSta ow h) (F : FrN 0 ow ow' h h') : KSta ow' h' := by
  obtain ⟨⟨fX, fY, a1, a2, a3, a4⟩, k1, k2, o1, o2, o3, o4, o5⟩ := K
  have b1 := fr_cell F a1 o1
  have b2 := fr_cell F a2 o2
  have b3 := fr_cell F a3 o3
  have b4 := fr_cell F k1 o4
  have b5 := fr_cell F k2 o5
  exact ⟨⟨fX, fY, b1.2, b2.2, b3.2, a4⟩, b4.2, b5.2, b1.1, b2.1, b3.1, b4.1, b5.1⟩
/-- a route of an owner -/
def KRt (n rt e q : Nat) (T : List (Nat × Nat)) (ow : Nat → Nat) (h : List mCel) : Prop := ∃ pa ma, RT rt pa ma e q T h ∧ ow rt = n ∧ ow pa = n ∧ ow ma = n
theorem rt_fr {n rt pa ma e q : Nat} {T : List (Nat × Nat)} (R : RT rt pa ma e q T h) (h1 : ow rt = n) (h2 : ow pa = n) (h3 : ow ma = n) (F : FrN n ow ow' h h') : RT rt pa ma e q T h' ∧ ow' rt = n ∧ ow' pa = n ∧ ow' ma = n := by
  obtain ⟨r1, fp, fm, ⟨t1, t2, t3, t4⟩, r2, r3⟩ := R
  have b1 := fr_cell F t1 h1
  have b2 := fr_cell F t2 h2
  have b3 := fr_cell F t3 h3
  exact ⟨⟨r1, fp, fm, ⟨b1.2, b2.2, b3.2, t4⟩, r2, r3⟩, b1.1, b2.1, b3.1⟩
theorem krt_keep {n rt e q : Nat} {T : List (Nat × Nat)} (K : KRt n rt e q T ow h) (F : FrN n ow ow' h h') : KRt n rt e q T ow' h' := by
  obtain ⟨pa, ma, R, h1, h2, h3⟩ := K
  exact ⟨pa, ma, rt_fr R h1 h2 h3 F⟩
/-- the drive that is recorded: its rows never grow -/
def KRec (q : Nat) (T : List (Nat × Nat)) (ow : Nat → Nat) (h : List mCel) : Prop := RT 36 37 38 0 q T h ∧ ow 36 = 3 ∧ ow 37 = 3 ∧ ow 38 = 3
theorem rec_keep {q : Nat} {T : List (Nat × Nat)} (K : KRec q T ow h) (F : FrN 3 ow ow' h h') : KRec q T ow' h' := rt_fr K.1 K.2.1 K.2.2.1 K.2.2.2 F
/-- speeds -/
def KPac (n st ar fa sl : Nat) (ow : Nat → Nat) (h : List mCel) : Prop := ∃ sq f, paH 33 sq n st ar fa sl f h ∧ ow 33 = 4 ∧ ow sq = 4
theorem pac_keep {n st ar fa sl : Nat} (K : KPac n st ar fa sl ow h) (F : FrN 4 ow ow' h h') : KPac n st ar fa sl ow' h' := by
  obtain ⟨sq, f, ⟨p1, p2⟩, o1, o2⟩ := K
  have b1 := fr_cell F p1 o1
  have b2 := fr_cell F p2 o2
  exact ⟨sq, f, ⟨b1.2, b2.2⟩, b1.1, b2.1⟩
/-- a polygon of an owner -/
def KPl (n po c : Nat) (ow : Nat → Nat) (h : List mCel) : Prop := ∃ px py fx fy, plH po px py c fx fy h ∧ ow po = n ∧ ow px = n ∧ ow py = n ∧ px ≠ py
theorem kpl_keep {n po c : Nat} (K : KPl n po c ow h) (F : FrN n ow ow' h h') : KPl n po c ow' h' := by
  obtain ⟨px, py, fx, fy, ⟨p1, p2, p3, p4⟩, o1, o2, o3, ne⟩ := K
  have b1 := fr_cell F p1 o1
  have b2 := fr_cell F p2 o2
  have b3 := fr_cell F p3 o3
  exact ⟨px, py, fx, fy, ⟨b1.2, b2.2, b3.2, p4⟩, b1.1, b2.1, b3.1, ne⟩
def KFld (np fr be : Nat) (fpg : Nat → Option Nat) (cov fcl fop : Nat → Int32) (ow : Nat → Nat) (h : List mCel) : Prop := fdH np fr be fpg cov fcl fop h ∧ ow 12 = 6 ∧ ow 13 = 6 ∧ ow 14 = 6 ∧ ow 15 = 6 ∧ ow 16 = 6
theorem fld_keep {np fr be : Nat} {fpg : Nat → Option Nat} {cov fcl fop : Nat → Int32} (K : KFld np fr be fpg cov fcl fop ow h) (F : FrN 6 ow ow' h h') : KFld np fr be fpg cov fcl fop ow' h' := by
  obtain ⟨⟨p1, p2, p3, p4, p5⟩, o1, o2, o3, o4, o5⟩ := K
  have b1 := fr_cell F p1 o1
  have b2 := fr_cell F p2 o2
  have b3 := fr_cell F p3 o3
  have b4 := fr_cell F p4 o4
  have b5 := fr_cell F p5 o5
  exact ⟨⟨b1.2, b2.2, b3.2, b4.2, b5.2⟩, b1.1, b2.1, b3.1, b4.1, b5.1⟩
/-- one cell of an owner -/
def KOne (n a : Nat) (c : mCel) (ow : Nat → Nat) (h : List mCel) : Prop := mCell h a = some c ∧ ow a = n
theorem one_keep {n a : Nat} {c : mCel} (K : KOne n a c ow h) (F : FrN n ow ow' h h') : KOne n a c ow' h' := (fr_cell F K.1 K.2).symm
def c17 (cu mg : Nat) : mCel := .inr (4, [.ref 12, .int (Int32.ofNat cu), .int (Int32.ofNat mg)])
def adQ (r : Nat) : Nat := if r = 4 then 19 else 20 + r
def KQue (ow : Nat → Nat) (h : List mCel) : Prop := (∃ N, qH adQ N h ∧ qOk N) ∧ ow 19 = 8 ∧ ow 20 = 8 ∧ ow 21 = 8 ∧ ow 22 = 8 ∧ ow 23 = 8
theorem que_keep (K : KQue ow h) (F : FrN 8 ow ow' h h') : KQue ow' h' := by
  obtain ⟨⟨N, ⟨q1, q2, q3⟩, q4⟩, o0, o1, o2, o3, o4⟩ := K
  have c0 : mCell h 20 = some (qRowC N 0) := q1 0 (by decide)
  have c1 : mCell h 21 = some (qRowC N 1) := q1 1 (by decide)
  have c2 : mCell h 22 = some (qRowC N 2) := q1 2 (by decide)
  have c3 : mCell h 23 = some (qRowC N 3) := q1 3 (by decide)
  have b := fr_cell F q2 o0
  have b0 := fr_cell F c0 o1
  have b1 := fr_cell F c1 o2
  have b2 := fr_cell F c2 o3
  have b3 := fr_cell F c3 o4
  refine ⟨⟨N, ⟨fun r hr => ?_, b.2, q3⟩, q4⟩, b.1, b0.1, b1.1, b2.1, b3.1⟩
  obtain rfl | rfl | rfl | rfl : r = 0 ∨ r = 1 ∨ r = 2 ∨ r = 3 := by omega
  · exact b0.2
  · exact b1.2
  · exact b2.2
  · exact b3.2
/-- what the law itself counts -/
def KLaw (fg fz fe : Nat → Int32) (ow : Nat → Nat) (h : List mCel) : Prop := KOne 13 42 (.inl (0, 4, .inl fg)) ow h ∧ KOne 13 43 (.inl (0, 9, .inl fz)) ow h ∧ KOne 13 44 (.inl (0, 24, .inl fe)) ow h
theorem law_keep {fg fz fe : Nat → Int32} (K : KLaw fg fz fe ow h) (F : FrN 13 ow ow' h h') : KLaw fg fz fe ow' h' := ⟨one_keep K.1 F, one_keep K.2.1 F, one_keep K.2.2 F⟩
def wOkS (s : wS) : Prop := wIn s ∧ s.1 ≤ 536870912 ∧ (s.2.1 = 0 → s.1 = 536870912)
def c8 (pn isr po : Nat) : mCel := .inr (10, [.ref 12, .ref 17, .ref 18, .ref 27, .ref 28, .ref 33, .ref 35, .int (Int32.ofNat pn), .ref 36, .int (Int32.ofNat isr), .ref po])
def sumE (es : Nat → Nat) : Nat → Nat
  | 0 => 0
  | n + 1 => sumE es n + 256 * 2 ^ es n
def sumL (es : Nat → Nat) : Nat → Nat
  | 0 => 0
  | n + 1 => sumL es n + (3 + 2 * es n)
/-- how much of the room is used -/
def Bud (et er nsq lg np : Nat) (es : Nat → Nat) (pn : Nat) (h : List mCel) : Prop :=
  hz h ≤ 15303 + 256 * 2 ^ et + 256 * 2 ^ er + sumE es pn + 2 * nsq + 15 * np ∧ h.length ≤ 40 + 2 * et + 2 * er + sumL es pn + lg + 3 * np ∧ 2 ^ lg ≤ nsq ∧ (64 ≤ nsq ∧ nsq ≤ 226136) ∧ et ≤ 5 ∧ er ≤ 11 ∧ (∀ i, es i ≤ 11)
/-- the object and all that it holds -/
def SH (oc np fr be cu mg st ar fa sl isr rq : Nat) (rT : List (Nat × Nat)) (gone : Nat → Bool) (pl : List (Nat × List (Nat × Nat))) (s : wS) (cov fcl fop fg fz fe : Nat → Int32) (h : List mCel) : Prop :=
  ∃ (ow : Nat → Nat) (et er nsq lg po : Nat) (fpg fpl : Nat → Option Nat) (es : Nat → Nat),
    KSta ow h ∧ (∃ q T, KRt 1 24 et q T ow h) ∧ (∃ q T, KRt 2 29 er q T ow h) ∧ KRec rq rT ow h ∧ KPac nsq st ar fa sl ow h ∧ KPl 5 po oc ow h ∧ KFld np fr be fpg cov fcl fop ow h ∧ KOne 7 17 (c17 cu mg) ow h ∧ KQue ow h ∧
    (KOne 9 27 (wC 9 s) ow h ∧ wOkS s) ∧ (∃ s2, KOne 10 32 (wC 9 s2) ow h ∧ wIn s2 ∧ s2.1 ≤ 536870912) ∧ KOne 11 8 (c8 pl.length isr po) ow h ∧ KOne 12 35 (rfC 6 12 fpl) ow h ∧ KLaw fg fz fe ow h ∧
    (∀ i p, i < 8 → fpg i = some p → ∃ c, KPl (20 + i) p c ow h) ∧ (∀ i, i < 12 → match pl[i]? with | none => fpl i = none | some x => ∃ rt, fpl i = some rt ∧ KRt (40 + i) rt (es i) x.1 x.2 ow h) ∧
    (fdC fr be cov fcl fop ∧ fr ≤ 2 ∧ be ≤ 2) ∧ (cu ≤ 100 ∧ mg ≤ 5) ∧ spOk st ar fa sl ∧ (isr < 2 ∧ np ≤ 8 ∧ pl.length ≤ 12 ∧ oc ≤ 6) ∧
    (∀ i, i < np → (fpg i = none ↔ gone i = true)) ∧ (∀ i, np ≤ i → fpg i = none) ∧ (∀ x ∈ pl, PI x.1 x.2) ∧ (rq < 2048 ∧ (∀ x ∈ rT, x.1 < 6 ∧ x.2 < 2048) ∧ Sho.Val (drE enN) rq rT ∧ rT.length ≤ 60) ∧
    Bud et er nsq lg np es pl.length h
end
