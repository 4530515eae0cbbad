section
variable {L : Nat} {xs : Nat → Int32} {k : Nat}
theorem kN_lt (w part : Nat) : kN w part < 3 := by
  unfold kN
  repeat' split
  all_goals omega
theorem good_bF {q : Nat} {X Y : Int32} {w a : Nat} {x y : Int32} {h C : Nat} (hw : w < 6) : ∀ (d i : Nat) (s : wS), wGood s → wGood (bF q X Y w a x y h C d i s)
  | 0, _, s, hs => hs
  | d + 1, i, s, hs => good_bF hw d (i + 1) _ (good_cF hw 8 0 s hs)
theorem good_aF {q : Nat} {X Y : Int32} {w g : Nat} (hw : w < 6) : ∀ (d i : Nat) (s : wS), wGood s → wGood (aF q X Y w g d i s)
  | 0, _, s, hs => hs
  | d + 1, i, s, hs => good_aF hw d (i + 1) _ (good_bF hw _ 0 s hs)
theorem wb_loop {m p q w a nb : Nat} {X Y xa ya : Int32} {ha Ca : Nat} {fs0 : List Value} (hw : w < 6) (hq : q < 2048) (hha : ha < 8) (hCa : Ca ≤ 1000) (hnb : nb = if w < 4 then 16 else 8) (d : Nat) :
    ∀ (i : Nat) (s : wS) (h : List mCel) (l17 l18 l19 l20 l21 l22 l23 : Option Value), i + d = nb → wGood s → wMH m fs0 s h →
    ∃ h' m17 m18 m19 m20 m21 m22 m23, mW (mRo L xs) mTab 92 87 [some (.ref m), some (.int (Int32.ofNat (p))), some (.int (Int32.ofNat (q))), some (.int (bestV s)), some (.int (X)), some (.int (Y)), some (.int (Int32.ofNat (w))), some (.int (xa)), some (.int (ya)), some (.int (Int32.ofNat (ha))), some (.int (Int32.ofNat (Ca))), some (.int (Int32.ofNat (a))), some (.int (xa + vX ha (kN w 1) (i))), some (.int (ya + vY ha (kN w 1) (i))), some (.int (Int32.ofNat (hdN ha (kN w 1) (i)))), some (.int (Int32.ofNat (Ca + vC ha (kN w 1) (i)))), some (.int (Int32.ofNat (i))), l17, l18, l19, l20, l21, l22, l23] [] h k = mW (mRo L xs) mTab 92 323 [some (.ref m), some (.int (Int32.ofNat (p))), some (.int (Int32.ofNat (q))), some (.int (bestV (bF (q / 256) X Y w a xa ya ha Ca d i s))), some (.int (X)), some (.int (Y)), some (.int (Int32.ofNat (w))), some (.int (xa)), some (.int (ya)), some (.int (Int32.ofNat (ha))), some (.int (Int32.ofNat (Ca))), some (.int (Int32.ofNat (a))), some (.int (xa + vX ha (kN w 1) (nb))), some (.int (ya + vY ha (kN w 1) (nb))), some (.int (Int32.ofNat (hdN ha (kN w 1) (nb)))), some (.int (Int32.ofNat (Ca + vC ha (kN w 1) (nb)))), some (.int (Int32.ofNat (nb))), m17, m18, m19, m20, m21, m22, m23] [] h' k ∧ mKeep (fun x => x = m) h h' ∧ wMH m fs0 (bF (q / 256) X Y w a xa ya ha Ca d i s) h' := by
  have hb4 : (4 : Int32) ≤ Int32.ofNat w ↔ ¬ w < 4 := by
    rw [show (4 : Int32) = Int32.ofNat 4 from rfl, oi_le (by decide) (by omega)]; omega
  have hnb16 : nb ≤ 16 := by rw [hnb]; split <;> omega
  have hd : ∀ (i : Nat) (s : wS) (h : List mCel) (l17 l18 l19 l20 l21 l22 l23 : Option Value), mW (mRo L xs) mTab 92 87 [some (.ref m), some (.int (Int32.ofNat (p))), some (.int (Int32.ofNat (q))), some (.int (bestV s)), some (.int (X)), some (.int (Y)), some (.int (Int32.ofNat (w))), some (.int (xa)), some (.int (ya)), some (.int (Int32.ofNat (ha))), some (.int (Int32.ofNat (Ca))), some (.int (Int32.ofNat (a))), some (.int (xa + vX ha (kN w 1) (i))), some (.int (ya + vY ha (kN w 1) (i))), some (.int (Int32.ofNat (hdN ha (kN w 1) (i)))), some (.int (Int32.ofNat (Ca + vC ha (kN w 1) (i)))), some (.int (Int32.ofNat (i))), l17, l18, l19, l20, l21, l22, l23] [] h k = if Int32.ofNat nb ≤ Int32.ofNat i then mW (mRo L xs) mTab 92 323 [some (.ref m), some (.int (Int32.ofNat (p))), some (.int (Int32.ofNat (q))), some (.int (bestV s)), some (.int (X)), some (.int (Y)), some (.int (Int32.ofNat (w))), some (.int (xa)), some (.int (ya)), some (.int (Int32.ofNat (ha))), some (.int (Int32.ofNat (Ca))), some (.int (Int32.ofNat (a))), some (.int (xa + vX ha (kN w 1) (i))), some (.int (ya + vY ha (kN w 1) (i))), some (.int (Int32.ofNat (hdN ha (kN w 1) (i)))), some (.int (Int32.ofNat (Ca + vC ha (kN w 1) (i)))), some (.int (Int32.ofNat (i))), l17, l18, l19, l20, l21, l22, l23] [] h k else mW (mRo L xs) mTab 92 105 [some (.ref m), some (.int (Int32.ofNat (p))), some (.int (Int32.ofNat (q))), some (.int (bestV s)), some (.int (X)), some (.int (Y)), some (.int (Int32.ofNat (w))), some (.int (xa)), some (.int (ya)), some (.int (Int32.ofNat (ha))), some (.int (Int32.ofNat (Ca))), some (.int (Int32.ofNat (a))), some (.int (xa + vX ha (kN w 1) (i))), some (.int (ya + vY ha (kN w 1) (i))), some (.int (Int32.ofNat (hdN ha (kN w 1) (i)))), some (.int (Int32.ofNat (Ca + vC ha (kN w 1) (i)))), some (.int (Int32.ofNat (i))), l17, l18, l19, l20, l21, l22, l23] [] h k := by
    intro i s h l17 l18 l19 l20 l21 l22 l23
    rw [e92_87, e92_89, e92_91, e92_92]
    by_cases z : w < 4
    · rw [if_neg (fun y => hb4.1 y z), e92_95, e92_97, e92_102, hnb, if_pos z]; rfl
    · rw [if_pos (hb4.2 z), e92_100, e92_102, hnb, if_neg z]; rfl
  induction d with
  | zero =>
    intro i s h l17 l18 l19 l20 l21 l22 l23 hi hs H
    obtain rfl : i = nb := by omega
    refine ⟨h, l17, l18, l19, l20, l21, l22, l23, ?_, keep_refl, H⟩
    rw [hd, if_pos (Int32.le_refl _)]
    rfl
  | succ d IH =>
    intro i s h l17 l18 l19 l20 l21 l22 l23 hi hs H
    have n1 : ¬ (Int32.ofNat nb ≤ Int32.ofNat i) := by rw [oi_le (by omega) (by omega)]; omega
    have hH := hdN_lt (k := kN w 1) hha i
    have hC := vC_le ha (kN w 1) i
    have z := wc_loop (L := L) (xs := xs) (k := k) (m := m) (p := p) (q := q) (w := w) (a := a) (b := i) (X := X) (Y := Y) (xa := xa) (ya := ya) (nX := xa + vX ha (kN w 1) i) (nY := ya + vY ha (kN w 1) i) (xb := xa + vX ha (kN w 1) i) (yb := ya + vY ha (kN w 1) i) (ha := ha) (Ca := Ca) (nH := hdN ha (kN w 1) i) (nC := Ca + vC ha (kN w 1) i) (hb := hdN ha (kN w 1) i) (Cb := Ca + vC ha (kN w 1) i) (fs0 := fs0) hw hq hH (by omega) 8 0 s h l22 l23 rfl hs H
    obtain ⟨h1, a17, a18, a19, a20, a21, a22, a23, A1, A2, A3⟩ := z
    rw [show vX (hdN ha (kN w 1) i) (kN w 2) 0 = 0 from rfl, show vY (hdN ha (kN w 1) i) (kN w 2) 0 = 0 from rfl, show hdN (hdN ha (kN w 1) i) (kN w 2) 0 = hdN ha (kN w 1) i from rfl, show vC (hdN ha (kN w 1) i) (kN w 2) 0 = 0 from rfl, Int32.add_zero, Int32.add_zero, Nat.add_zero, show Int32.ofNat 0 = 0 from rfl] at A1
    obtain ⟨q1, q2⟩ := hb_eq hH (kN_lt w 1)
    have hs1 := good_cF (g2 := q / 256) (X := X) (Y := Y) (a := a) (b := i) (x := xa + vX ha (kN w 1) i) (y := ya + vY ha (kN w 1) i) (h := hdN ha (kN w 1) i) (C := Ca + vC ha (kN w 1) i) (kk := kN w 2) hw 8 0 s hs
    obtain ⟨h2, zm17, zm18, zm19, zm20, zm21, zm22, zm23, B1, B2, B3⟩ := IH (i + 1) _ h1 a17 a18 a19 a20 (some (.int (Int32.ofNat (kN w 1)))) a22 a23 (by omega) hs1 A3
    refine ⟨h2, zm17, zm18, zm19, zm20, zm21, zm22, zm23, ?_, keep_trans A2 B2, B3⟩
    rw [hd, if_neg n1, e92_105, e92_107, e92_109, e92_111, e92_113, e92_115, e92_117, e92_119, e92_121, e92_122, A1]
    rw [e92_264, e92_266, show (1 : Int32) = Int32.ofNat 1 from rfl, e92_267 (by simp), d_kindOf hw (by decide)]
    simp only [mAft, Option.toList_some, List.cons_append, List.nil_append]
    rw [e92_270, e92_272, e92_274, e92_276, e92_278 (by simp [Value.category]), d_farX]
    simp only [mAft, Option.toList_some, List.cons_append, List.nil_append]
    rw [e92_281, vX_succ, e92_282, e92_284, e92_286, e92_288, e92_290 (by simp [Value.category]), d_farY]
    simp only [mAft, Option.toList_some, List.cons_append, List.nil_append]
    rw [e92_293, vY_succ, e92_294, e92_296, e92_298, e92_300, e92_302 (by simp [Value.category]), d_steps, q2]
    simp only [mAft, Option.toList_some, List.cons_append, List.nil_append]
    rw [e92_305, ← oi_add, e92_306, e92_308, e92_310, e92_312 (by simp [Value.category]), d_hb, q1]
    simp only [mAft, Option.toList_some, List.cons_append, List.nil_append]
    rw [e92_315, e92_317, oi_succ, e92_320, show Ca + vC ha (kN w 1) i + sc1 (hdN ha (kN w 1) i) (kN w 1) = Ca + vC ha (kN w 1) (i + 1) by rw [vC]; omega]
    exact B1
theorem wa_loop {m p q w g : Nat} {X Y : Int32} {fs0 : List Value} (hw : w < 6) (hq : q < 2048) (hg : g < 8) (d : Nat) :
    ∀ (i : Nat) (s : wS) (h : List mCel) (l12 l13 l14 l15 l16 l17 l18 l19 l20 l21 l22 l23 : Option Value), i + d = 8 → wGood s → wMH m fs0 s h →
    ∃ h' m12 m13 m14 m15 m16 m17 m18 m19 m20 m21 m22 m23, mW (mRo L xs) mTab 92 61 [some (.ref m), some (.int (Int32.ofNat (p))), some (.int (Int32.ofNat (q))), some (.int (bestV s)), some (.int (X)), some (.int (Y)), some (.int (Int32.ofNat (w))), some (.int (0 + vX g (kN w 0) (i))), some (.int (0 + vY g (kN w 0) (i))), some (.int (Int32.ofNat (hdN g (kN w 0) (i)))), some (.int (Int32.ofNat (0 + vC g (kN w 0) (i)))), some (.int (Int32.ofNat (i))), l12, l13, l14, l15, l16, l17, l18, l19, l20, l21, l22, l23] [] h k = mW (mRo L xs) mTab 92 382 [some (.ref m), some (.int (Int32.ofNat (p))), some (.int (Int32.ofNat (q))), some (.int (bestV (aF (q / 256) X Y w g d i s))), some (.int (X)), some (.int (Y)), some (.int (Int32.ofNat (w))), some (.int (0 + vX g (kN w 0) (8))), some (.int (0 + vY g (kN w 0) (8))), some (.int (Int32.ofNat (hdN g (kN w 0) (8)))), some (.int (Int32.ofNat (0 + vC g (kN w 0) (8)))), some (.int (Int32.ofNat (8))), m12, m13, m14, m15, m16, m17, m18, m19, m20, m21, m22, m23] [] h' k ∧ mKeep (fun x => x = m) h h' ∧ wMH m fs0 (aF (q / 256) X Y w g d i s) h' := by
  induction d with
  | zero =>
    intro i s h l12 l13 l14 l15 l16 l17 l18 l19 l20 l21 l22 l23 hi hs H
    obtain rfl : i = 8 := by omega
    refine ⟨h, l12, l13, l14, l15, l16, l17, l18, l19, l20, l21, l22, l23, ?_, keep_refl, H⟩
    rw [e92_61, e92_63, e92_65, if_pos (by decide)]
    rfl
  | succ d IH =>
    intro i s h l12 l13 l14 l15 l16 l17 l18 l19 l20 l21 l22 l23 hi hs H
    have n8 : ¬ ((8 : Int32) ≤ Int32.ofNat i) := by
      rw [show (8 : Int32) = Int32.ofNat 8 from rfl, oi_le (by decide) (by omega)]; omega
    have hH := hdN_lt (k := kN w 0) hg i
    have hC := vC_le g (kN w 0) i
    have z := wb_loop (L := L) (xs := xs) (k := k) (m := m) (p := p) (q := q) (w := w) (a := i) (nb := if w < 4 then 16 else 8) (X := X) (Y := Y) (xa := 0 + vX g (kN w 0) i) (ya := 0 + vY g (kN w 0) i) (ha := hdN g (kN w 0) i) (Ca := 0 + vC g (kN w 0) i) (fs0 := fs0) hw hq hH (by omega) rfl (if w < 4 then 16 else 8) 0 s h l17 l18 l19 l20 l21 l22 l23 (by omega) hs H
    obtain ⟨h1, a17, a18, a19, a20, a21, a22, a23, A1, A2, A3⟩ := z
    rw [show vX (hdN g (kN w 0) i) (kN w 1) 0 = 0 from rfl, show vY (hdN g (kN w 0) i) (kN w 1) 0 = 0 from rfl, show hdN (hdN g (kN w 0) i) (kN w 1) 0 = hdN g (kN w 0) i from rfl, show vC (hdN g (kN w 0) i) (kN w 1) 0 = 0 from rfl, Int32.add_zero, Int32.add_zero, Nat.add_zero, show Int32.ofNat 0 = 0 from rfl] at A1
    obtain ⟨q1, q2⟩ := hb_eq hH (kN_lt w 0)
    have hs1 := good_bF (q := q / 256) (X := X) (Y := Y) (a := i) (x := 0 + vX g (kN w 0) i) (y := 0 + vY g (kN w 0) i) (h := hdN g (kN w 0) i) (C := 0 + vC g (kN w 0) i) hw (if w < 4 then 16 else 8) 0 s hs
    generalize hn : (if w < 4 then 16 else 8) = nb at *
    obtain ⟨h2, zm12, zm13, zm14, zm15, zm16, zm17, zm18, zm19, zm20, zm21, zm22, zm23, B1, B2, B3⟩ := IH (i + 1) _ h1 (some (.int (0 + vX g (kN w 0) i + vX (hdN g (kN w 0) i) (kN w 1) nb))) (some (.int (0 + vY g (kN w 0) i + vY (hdN g (kN w 0) i) (kN w 1) nb))) (some (.int (Int32.ofNat (hdN (hdN g (kN w 0) i) (kN w 1) nb)))) (some (.int (Int32.ofNat (0 + vC g (kN w 0) i + vC (hdN g (kN w 0) i) (kN w 1) nb)))) (some (.int (Int32.ofNat (kN w 0)))) a17 a18 a19 a20 a21 a22 a23 (by omega) hs1 A3
    refine ⟨h2, zm12, zm13, zm14, zm15, zm16, zm17, zm18, zm19, zm20, zm21, zm22, zm23, ?_, keep_trans A2 B2, ?_⟩
    · rw [e92_61, e92_63, e92_65, if_neg n8, e92_68, e92_70, e92_72, e92_74, e92_76, e92_78, e92_80, e92_82, e92_84, e92_85, A1]
      rw [e92_323, e92_325, show (0 : Int32) = Int32.ofNat 0 from rfl, e92_326 (by simp), d_kindOf hw (by decide), show Int32.ofNat 0 = 0 from rfl]
      simp only [mAft, Option.toList_some, List.cons_append, List.nil_append]
      rw [e92_329, e92_331, e92_333, e92_335, e92_337 (by simp [Value.category]), d_farX]
      simp only [mAft, Option.toList_some, List.cons_append, List.nil_append]
      rw [e92_340, vX_succ, e92_341, e92_343, e92_345, e92_347, e92_349 (by simp [Value.category]), d_farY]
      simp only [mAft, Option.toList_some, List.cons_append, List.nil_append]
      rw [e92_352, vY_succ, e92_353, e92_355, e92_357, e92_359, e92_361 (by simp [Value.category]), d_steps, q2]
      simp only [mAft, Option.toList_some, List.cons_append, List.nil_append]
      rw [e92_364, ← oi_add, e92_365, e92_367, e92_369, e92_371 (by simp [Value.category]), d_hb, q1]
      simp only [mAft, Option.toList_some, List.cons_append, List.nil_append]
      rw [e92_374, e92_376, oi_succ, e92_379, show 0 + vC g (kN w 0) i + sc1 (hdN g (kN w 0) i) (kN w 0) = 0 + vC g (kN w 0) (i + 1) by rw [vC]; omega]
      rw [show aF (q / 256) X Y w g (d + 1) i s = aF (q / 256) X Y w g d (i + 1) (bF (q / 256) X Y w i (0 + vX g (kN w 0) i) (0 + vY g (kN w 0) i) (hdN g (kN w 0) i) (0 + vC g (kN w 0) i) nb 0 s) by rw [← hn]; rfl]
      exact B1
    · rw [show aF (q / 256) X Y w g (d + 1) i s = aF (q / 256) X Y w g d (i + 1) (bF (q / 256) X Y w i (0 + vX g (kN w 0) i) (0 + vY g (kN w 0) i) (hdN g (kN w 0) i) (0 + vC g (kN w 0) i) nb 0 s) by rw [← hn]; rfl]
      exact B3
theorem ww_loop {m p q : Nat} {X Y : Int32} {fs0 : List Value} (hp : p < 2048) (hq : q < 2048) (d : Nat) :
    ∀ (i : Nat) (s : wS) (h : List mCel) (l7 l8 l9 l10 l11 l12 l13 l14 l15 l16 l17 l18 l19 l20 l21 l22 l23 : Option Value), i + d = 6 → wGood s → wMH m fs0 s h →
    ∃ h', mW (mRo L xs) mTab 92 35 [some (.ref m), some (.int (Int32.ofNat (p))), some (.int (Int32.ofNat (q))), some (.int (bestV s)), some (.int (X)), some (.int (Y)), some (.int (Int32.ofNat (i))), l7, l8, l9, l10, l11, l12, l13, l14, l15, l16, l17, l18, l19, l20, l21, l22, l23] [] h k = some (.inl (some (.int (bestV (wF (q / 256) X Y (p / 256) d i s)))), h', k) ∧ mKeep (fun x => x = m) h h' ∧ wMH m fs0 (wF (q / 256) X Y (p / 256) d i s) h' := by
  induction d with
  | zero =>
    intro i s h l7 l8 l9 l10 l11 l12 l13 l14 l15 l16 l17 l18 l19 l20 l21 l22 l23 hi hs H
    obtain rfl : i = 6 := by omega
    refine ⟨h, ?_, keep_refl, H⟩
    rw [e92_35, e92_37, e92_39, if_pos (by decide), e92_388, e92_389]
    rfl
  | succ d IH =>
    intro i s h l7 l8 l9 l10 l11 l12 l13 l14 l15 l16 l17 l18 l19 l20 l21 l22 l23 hi hs H
    have n6 : ¬ ((6 : Int32) ≤ Int32.ofNat i) := by
      rw [show (6 : Int32) = Int32.ofNat 6 from rfl, oi_le (by decide) (by omega)]; omega
    have hd : Int32.ofNat p / 256 = Int32.ofNat (p / 256) := oi_div (by omega) (by decide)
    have z := wa_loop (L := L) (xs := xs) (k := k) (m := m) (p := p) (q := q) (w := i) (g := p / 256) (X := X) (Y := Y) (fs0 := fs0) (show i < 6 by omega) hq (by omega) 8 0 s h l12 l13 l14 l15 l16 l17 l18 l19 l20 l21 l22 l23 rfl hs H
    obtain ⟨h1, a12, a13, a14, a15, a16, a17, a18, a19, a20, a21, a22, a23, A1, A2, A3⟩ := z
    rw [show vX (p / 256) (kN i 0) 0 = 0 from rfl, show vY (p / 256) (kN i 0) 0 = 0 from rfl, show hdN (p / 256) (kN i 0) 0 = p / 256 from rfl, show vC (p / 256) (kN i 0) 0 = 0 from rfl, Int32.add_zero, Nat.add_zero, show Int32.ofNat 0 = 0 from rfl] at A1
    obtain ⟨h2, B1, B2, B3⟩ := IH (i + 1) _ h1 (some (.int (0 + vX (p / 256) (kN i 0) 8))) (some (.int (0 + vY (p / 256) (kN i 0) 8))) (some (.int (Int32.ofNat (hdN (p / 256) (kN i 0) 8)))) (some (.int (Int32.ofNat (0 + vC (p / 256) (kN i 0) 8)))) (some (.int (Int32.ofNat 8))) a12 a13 a14 a15 a16 a17 a18 a19 a20 a21 a22 a23 (by omega) (good_aF (q := q / 256) (X := X) (Y := Y) (g := p / 256) (show i < 6 by omega) 8 0 s hs) A3
    refine ⟨h2, ?_, keep_trans A2 B2, B3⟩
    rw [e92_35, e92_37, e92_39, if_neg n6, e92_42, e92_43, e92_45, e92_46, e92_48, e92_49, e92_52 (by decide), hd, e92_53, e92_55, e92_56, e92_58, e92_59, A1, e92_382, oi_succ, e92_385, B1]
    rfl
theorem d_findsWord {m p q : Nat} {fs0 : List Value} {h : List mCel} (hp : p < 2048) (hq : q < 2048) (H : wMH m fs0 (536870912, 0, 0, 0, 0) h) :
    ∃ h', mW (mRo L xs) mTab 92 0 [some (.ref m), some (.int (Int32.ofNat p)), some (.int (Int32.ofNat q)), none, none, none, none, none, none, none, none, none, none, none, none, none, none, none, none, none, none, none, none, none] [] h k = some (.inl (some (.int (bestV (wF (q / 256) (Int32.ofNat (q % 16) - Int32.ofNat (p % 16)) (Int32.ofNat (q / 16 % 16) - Int32.ofNat (p / 16 % 16)) (p / 256) 6 0 (536870912, 0, 0, 0, 0))))), h', k) ∧ mKeep (fun x => x = m) h h' ∧
      wMH m fs0 (wF (q / 256) (Int32.ofNat (q % 16) - Int32.ofNat (p % 16)) (Int32.ofNat (q / 16 % 16) - Int32.ofNat (p / 16 % 16)) (p / 256) 6 0 (536870912, 0, 0, 0, 0)) h' := by
  obtain ⟨p1, p2, p3⟩ := oi_16 hp
  obtain ⟨q1, q2, q3⟩ := oi_16 hq
  have h0 : wGood (536870912, 0, 0, 0, 0) := ⟨fun _ => rfl, Nat.le_refl _, by decide⟩
  obtain ⟨h1, A1, A2, A3⟩ := ww_loop (L := L) (xs := xs) (k := k) (m := m) (p := p) (q := q) (X := Int32.ofNat (q % 16) - Int32.ofNat (p % 16)) (Y := Int32.ofNat (q / 16 % 16) - Int32.ofNat (p / 16 % 16)) (fs0 := fs0) hp hq 6 0 (536870912, 0, 0, 0, 0) h none none none none none none none none none none none none none none none none none rfl h0 H
  refine ⟨h1, ?_, A2, A3⟩
  rw [e92_0, e92_1, e92_2, e92_3, e92_5 (by decide), toRem, e92_6, e92_7, e92_9 (by decide), toRem, q1, p1, e92_10, e92_11]
  rw [e92_13, e92_14, e92_17 (by decide), toRem, e92_18, e92_20 (by decide), q2, e92_21, e92_22, e92_25 (by decide), toRem, e92_26, e92_28 (by decide), p2, e92_29, e92_30, e92_32, e92_33]
  exact A1
end
