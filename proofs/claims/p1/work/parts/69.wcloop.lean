section
variable {L : Nat} {xs : Nat → Int32} {k : Nat}
theorem wc_inc {m p q w a b c : Nat} {X Y xa ya nX nY lX lY : Int32} {ha Ca nH nC lH lC : Nat} {s : wS} {h : List mCel} {l22 l23 : Option Value} (hw : w < 6) (hlH : lH < 8) :
    mW (mRo L xs) mTab 92 205 [some (.ref m), some (.int (Int32.ofNat (p))), some (.int (Int32.ofNat (q))), some (.int (bestV s)), some (.int (X)), some (.int (Y)), some (.int (Int32.ofNat (w))), some (.int (xa)), some (.int (ya)), some (.int (Int32.ofNat (ha))), some (.int (Int32.ofNat (Ca))), some (.int (Int32.ofNat (a))), some (.int (nX)), some (.int (nY)), some (.int (Int32.ofNat (nH))), some (.int (Int32.ofNat (nC))), some (.int (Int32.ofNat (b))), some (.int (lX)), some (.int (lY)), some (.int (Int32.ofNat (lH))), some (.int (Int32.ofNat (lC))), some (.int (Int32.ofNat (c))), l22, l23] [] h k = mW (mRo L xs) mTab 92 124 [some (.ref m), some (.int (Int32.ofNat (p))), some (.int (Int32.ofNat (q))), some (.int (bestV s)), some (.int (X)), some (.int (Y)), some (.int (Int32.ofNat (w))), some (.int (xa)), some (.int (ya)), some (.int (Int32.ofNat (ha))), some (.int (Int32.ofNat (Ca))), some (.int (Int32.ofNat (a))), some (.int (nX)), some (.int (nY)), some (.int (Int32.ofNat (nH))), some (.int (Int32.ofNat (nC))), some (.int (Int32.ofNat (b))), some (.int (lX + qFx (Int32.ofNat lH) (Int32.ofNat (kN w 2)))), some (.int (lY + qFy (Int32.ofNat lH) (Int32.ofNat (kN w 2)))), some (.int (Int32.ofNat (hd1 lH (kN w 2)))), some (.int (Int32.ofNat (lC + sc1 lH (kN w 2)))), some (.int (Int32.ofNat (c + 1))), l22, some (.int (Int32.ofNat (kN w 2)))] [] h k := by
  have hk : kN w 2 < 3 := by
    unfold kN
    repeat' split
    all_goals omega
  obtain ⟨q1, q2⟩ := hb_eq hlH hk
  rw [e92_205, e92_207, show (2 : Int32) = Int32.ofNat 2 from rfl, e92_208 (by simp), d_kindOf hw (by decide)]
  simp only [mAft, Option.toList_some, List.cons_append, List.nil_append]
  rw [e92_211, e92_213, e92_215, e92_217, e92_219 (by simp [Value.category]), d_farX]
  simp only [mAft, Option.toList_some, List.cons_append, List.nil_append]
  rw [e92_222, e92_223, e92_225, e92_227, e92_229, e92_231 (by simp [Value.category]), d_farY]
  simp only [mAft, Option.toList_some, List.cons_append, List.nil_append]
  rw [e92_234, e92_235, e92_237, e92_239, e92_241, e92_243 (by simp [Value.category]), d_steps, q2]
  simp only [mAft, Option.toList_some, List.cons_append, List.nil_append]
  rw [e92_246, ← oi_add, e92_247, e92_249, e92_251, e92_253 (by simp [Value.category]), d_hb, q1]
  simp only [mAft, Option.toList_some, List.cons_append, List.nil_append]
  rw [e92_256, e92_258, oi_succ, e92_261]
theorem vX_succ (x : Int32) (g k n : Nat) : x + vX g k n + qFx (Int32.ofNat (hdN g k n)) (Int32.ofNat k) = x + vX g k (n + 1) := by
  rw [Int32.add_assoc]; unfold vX; rw [vS]
theorem vY_succ (x : Int32) (g k n : Nat) : x + vY g k n + qFy (Int32.ofNat (hdN g k n)) (Int32.ofNat k) = x + vY g k (n + 1) := by
  rw [Int32.add_assoc]; unfold vY; rw [vS]
theorem wc_loop {m p q w a b : Nat} {X Y xa ya nX nY xb yb : Int32} {ha Ca nH nC hb Cb : Nat} {fs0 : List Value} (hw : w < 6) (hq : q < 2048) (hhb : hb < 8) (hCb : Cb ≤ 100000) (d : Nat) :
    ∀ (i : Nat) (s : wS) (h : List mCel) (l22 l23 : Option Value), i + d = 8 → wGood s → wMH m fs0 s h →
    ∃ h' l17 l18 l19 l20 l21 l22' l23', mW (mRo L xs) mTab 92 124 [some (.ref m), some (.int (Int32.ofNat (p))), some (.int (Int32.ofNat (q))), some (.int (bestV s)), some (.int (X)), some (.int (Y)), some (.int (Int32.ofNat (w))), some (.int (xa)), some (.int (ya)), some (.int (Int32.ofNat (ha))), some (.int (Int32.ofNat (Ca))), some (.int (Int32.ofNat (a))), some (.int (nX)), some (.int (nY)), some (.int (Int32.ofNat (nH))), some (.int (Int32.ofNat (nC))), some (.int (Int32.ofNat (b))), some (.int (xb + vX hb (kN w 2) (i))), some (.int (yb + vY hb (kN w 2) (i))), some (.int (Int32.ofNat (hdN hb (kN w 2) (i)))), some (.int (Int32.ofNat (Cb + vC hb (kN w 2) (i)))), some (.int (Int32.ofNat (i))), l22, l23] [] h k = mW (mRo L xs) mTab 92 264 [some (.ref m), some (.int (Int32.ofNat (p))), some (.int (Int32.ofNat (q))), some (.int (bestV (cF (q / 256) X Y w a b xb yb hb Cb (kN w 2) d i s))), some (.int (X)), some (.int (Y)), some (.int (Int32.ofNat (w))), some (.int (xa)), some (.int (ya)), some (.int (Int32.ofNat (ha))), some (.int (Int32.ofNat (Ca))), some (.int (Int32.ofNat (a))), some (.int (nX)), some (.int (nY)), some (.int (Int32.ofNat (nH))), some (.int (Int32.ofNat (nC))), some (.int (Int32.ofNat (b))), l17, l18, l19, l20, l21, l22', l23'] [] h' k ∧ mKeep (fun x => x = m) h h' ∧ wMH m fs0 (cF (q / 256) X Y w a b xb yb hb Cb (kN w 2) d i s) h' := by
  induction d with
  | zero =>
    intro i s h l22 l23 hi hs H
    obtain rfl : i = 8 := by omega
    refine ⟨h, some (.int (xb + vX hb (kN w 2) 8)), some (.int (yb + vY hb (kN w 2) 8)), some (.int (Int32.ofNat (hdN hb (kN w 2) 8))), some (.int (Int32.ofNat (Cb + vC hb (kN w 2) 8))), some (.int (Int32.ofNat 8)), l22, l23, ?_, keep_refl, H⟩
    rw [e92_124, e92_126, e92_128, if_pos (by decide)]
    rfl
  | succ d IH =>
    intro i s h l22 l23 hi hs H
    have hH := hdN_lt (k := kN w 2) hhb i
    have hC := vC_le hb (kN w 2) i
    obtain ⟨h1, i1, A1, A2, A3⟩ := wc_test (L := L) (xs := xs) (k := k) (p := p) (a := a) (b := b) (xa := xa) (ya := ya) (nX := nX) (nY := nY) (ha := ha) (Ca := Ca) (nH := nH) (nC := nC) (xa0 := 0) (w := w) (X := X) (Y := Y) (lX := xb + vX hb (kN w 2) i) (lY := yb + vY hb (kN w 2) i) (lC := Cb + vC hb (kN w 2) i) (l22 := l22) (l23 := l23) hs (show i < 8 by omega) hq hH (by omega) H
    have B := wc_inc (L := L) (xs := xs) (k := k) (m := m) (p := p) (q := q) (a := a) (b := b) (c := i) (X := X) (Y := Y) (xa := xa) (ya := ya) (nX := nX) (nY := nY) (lX := xb + vX hb (kN w 2) i) (lY := yb + vY hb (kN w 2) i) (ha := ha) (Ca := Ca) (nH := nH) (nC := nC) (lC := Cb + vC hb (kN w 2) i) (s := if xb + vX hb (kN w 2) i = X ∧ yb + vY hb (kN w 2) i = Y ∧ hdN hb (kN w 2) i = q / 256 then wOff s w a b i (Cb + vC hb (kN w 2) i) else s) (h := h1) (l22 := i1) (l23 := l23) hw hH
    rw [vX_succ, vY_succ, show hd1 (hdN hb (kN w 2) i) (kN w 2) = hdN hb (kN w 2) (i + 1) from rfl, show Cb + vC hb (kN w 2) i + sc1 (hdN hb (kN w 2) i) (kN w 2) = Cb + vC hb (kN w 2) (i + 1) by rw [vC]; omega] at B
    have hs' : wGood (if xb + vX hb (kN w 2) i = X ∧ yb + vY hb (kN w 2) i = Y ∧ hdN hb (kN w 2) i = q / 256 then wOff s w a b i (Cb + vC hb (kN w 2) i) else s) := by
      split
      · exact good_off hs hw
      · exact hs
    obtain ⟨h2, a17, a18, a19, a20, a21, a22, a23, C1, C2, C3⟩ := IH (i + 1) _ h1 i1 (some (.int (Int32.ofNat (kN w 2)))) (by omega) hs' A3
    refine ⟨h2, a17, a18, a19, a20, a21, a22, a23, ?_, keep_trans A2 C2, C3⟩
    rw [A1, B, C1]
    rfl
end
