section
variable {L : Nat} {xs : Nat → Int32} {k : Nat} {ad : Nat → Nat} {w F P op cl cu : Nat} {fw fF : List Value} {mg : Int32} {fo fc : Nat → Int32}
theorem enc_eq {v : Nat} (hv : v ≤ 4096) : (qDec 1 v = -1) = (v = 0) := by
  apply propext
  constructor
  · intro y
    by_cases e : 0 < v
    · rw [dec_put e] at y
      have := oi_nneg (i := v - 1) (by omega)
      rw [y] at this; exact absurd (by decide) this
    · omega
  · rintro rfl; exact enc_zero
/-- where moves lead, and what they cost, in plain numbers -/
def geoE (fo : Nat → Int32) (e : Nat → Nat → Nat) : Prop := ∀ p m, p < 2048 → m < 6 → pDr fo (Int32.ofNat p) (Int32.ofNat m) = qDec 1 (e p m) ∧ e p m ≤ 2048
def geoW (fc : Nat → Int32) (mg : Int32) (wt : Nat → Nat → Nat → Nat) : Prop := ∀ p m q, p < 2048 → m < 6 → q < 2048 → pOf fc mg (Int32.ofNat p) (Int32.ofNat m) (Int32.ofNat q) = Int32.ofNat (wt p m q) ∧ wt p m q ≤ 49
def fEntry (e : Nat → Nat → Nat) (wt : Nat → Nat → Nat → Nat) (cu p g m : Nat) : List (Nat × Nat) :=
  if e p m = 0 then [] else [(e p m - 1 + (if m < 3 then 0 else 2048), wt p m (e p m - 1) + (if (if m < 3 then 0 else 1) = g then 0 else cu))]
theorem oi_lt3 {m : Nat} (hm : m < 2 ^ 31) : (Int32.ofNat m < 3) = (m < 3) := oi_lt hm (by decide)
theorem along_loop {e : Nat → Nat → Nat} {wt : Nat → Nat → Nat → Nat} {tk : Nat → Bool} {c p g mv : Nat} {l3 : Option Value} (HE : geoE fo e) (HW : geoW fc mg wt) (hcu : cu ≤ 100) (hp : p < 2048) (hg : g < 2) (hmv : mv ≤ 6) (d : Nat) :
    ∀ (i : Nat) (N : Nat → Nat → Nat) (h : List mCel) (l7 l8 l9 : Option Value), i + d = mv → qH ad N h → wH ad w F P op cl fw fF (Int32.ofNat cu) mg fo fc h → SI N tk c →
    ∃ h', mW (mRo L xs) mTab 152 29 [some (.ref w), some (.int (Int32.ofNat p)), some (.int (Int32.ofNat g)), l3, some (.int (Int32.ofNat c)), some (.int (Int32.ofNat mv)), some (.int (Int32.ofNat i)), l7, l8, l9] [] h k = some (.inl none, h', k) ∧ mKeep (qAd ad) h h' ∧ qH ad (nLows c ((List.range' i d).flatMap (fEntry e wt cu p g)) N) h' ∧ SI (nLows c ((List.range' i d).flatMap (fEntry e wt cu p g)) N) tk c := by
  induction d with
  | zero =>
    intro i N h l7 l8 l9 hi Q W S
    obtain rfl : i = mv := by omega
    rw [e152_29, e152_31, e152_33, if_pos (Int32.le_refl _), e152_118]
    exact ⟨h, rfl, keep_refl, Q, S⟩
  | succ d IH =>
    intro i N h l7 l8 l9 hi Q W S
    obtain ⟨⟨a1, a2, a3, a4⟩, ⟨b1, b2, b3⟩, cP, cO, cC, nn⟩ := id W
    have hlt : ¬ (Int32.ofNat mv ≤ Int32.ofNat i) := by rw [oi_le (by omega) (by omega)]; omega
    obtain ⟨E1, E2⟩ := HE p i hp (by omega)
    rw [e152_29, e152_31, e152_33, if_neg hlt, e152_36, e152_37, kF_eq a1 a2, e152_40, e152_41, e152_43 (kR_eq b1) (by simp [Value.category]), c_driven b1 b3 cO, E1]
    simp only [mAft, Option.toList_some, List.cons_append, List.nil_append]
    rw [e152_46, e152_48, e152_50, e152_51]
    simp only [enc_eq (show e p i ≤ 4096 by omega)]
    rw [List.range'_succ, List.flatMap_cons]
    have hfe : fEntry e wt cu p g i = if e p i = 0 then [] else [(e p i - 1 + (if i < 3 then 0 else 2048), wt p i (e p i - 1) + (if (if i < 3 then 0 else 1) = g then 0 else cu))] := rfl
    by_cases z : e p i = 0
    · rw [if_pos z, hfe, if_pos z, e152_112, e152_115, oi_succ, List.nil_append]
      exact IH (i + 1) N h _ _ _ (by omega) Q W S
    · rw [if_neg z, hfe, if_neg z]
      have hq : e p i - 1 < 2048 := by omega
      obtain ⟨W1, W2⟩ := HW p i (e p i - 1) hp (by omega) hq
      rw [e152_54, e152_56 (by simp [Value.category]), c_isBack]
      simp only [mAft, Option.toList_some, List.cons_append, List.nil_append]
      have hgb : (if Int32.ofNat i < 3 then (0 : Int32) else 1) = Int32.ofNat (if i < 3 then 0 else 1) := by
        simp only [oi_lt3 (show i < 2 ^ 31 by omega)]; split <;> rfl
      rw [hgb, e152_59, e152_61, e152_63, e152_64]
      have hcmp : (Int32.ofNat (if i < 3 then 0 else 1) = Int32.ofNat g) = ((if i < 3 then 0 else 1) = g) := by
        obtain rfl | rfl : g = 0 ∨ g = 1 := by omega
        all_goals (by_cases y : i < 3 <;> simp [y])
      simp only [hcmp]
      have T : ∀ (l9 : Option Value), (if ¬ ((if i < 3 then 0 else 1) = g) then mW (mRo L xs) mTab 152 71 [some (.ref w), some (.int (Int32.ofNat p)), some (.int (Int32.ofNat g)), l3, some (.int (Int32.ofNat c)), some (.int (Int32.ofNat mv)), some (.int (Int32.ofNat i)), some (.int (qDec 1 (e p i))), some (.int (Int32.ofNat (if i < 3 then 0 else 1))), l9] [] h k
          else mW (mRo L xs) mTab 152 67 [some (.ref w), some (.int (Int32.ofNat p)), some (.int (Int32.ofNat g)), l3, some (.int (Int32.ofNat c)), some (.int (Int32.ofNat mv)), some (.int (Int32.ofNat i)), some (.int (qDec 1 (e p i))), some (.int (Int32.ofNat (if i < 3 then 0 else 1))), l9] [] h k) =
          mW (mRo L xs) mTab 152 80 [some (.ref w), some (.int (Int32.ofNat p)), some (.int (Int32.ofNat g)), l3, some (.int (Int32.ofNat c)), some (.int (Int32.ofNat mv)), some (.int (Int32.ofNat i)), some (.int (qDec 1 (e p i))), some (.int (Int32.ofNat (if i < 3 then 0 else 1))), some (.int (Int32.ofNat (if (if i < 3 then 0 else 1) = g then 0 else cu)))] [] h k := by
        intro l9
        by_cases y : (if i < 3 then 0 else 1) = g
        · rw [if_neg (not_not_intro y), if_pos y, e152_67, e152_68, e152_78]; rfl
        · rw [if_pos y, if_neg y, e152_71, e152_72, kF_eq a1 a3, e152_75 (kR_eq cP) (by simp), c_cuspCost cP rfl]
          simp only [mAft, Option.toList_some, List.cons_append, List.nil_append]
          rw [e152_78]
      rw [T]
      have hst : (if Int32.ofNat (if i < 3 then 0 else 1) = 0 then qDec 1 (e p i) else qDec 1 (e p i) + 2048) = Int32.ofNat (e p i - 1 + (if i < 3 then 0 else 2048)) := by
        rw [dec_put (by omega)]
        by_cases y : i < 3
        · simp only [y, if_true]; rw [if_pos (by decide), Nat.add_zero]
        · simp only [y, if_false]; rw [if_neg (by decide), oi_add]; rfl
      have hsum : Int32.ofNat c + Int32.ofNat (wt p i (e p i - 1)) + Int32.ofNat (if (if i < 3 then 0 else 1) = g then 0 else cu) = Int32.ofNat (c + (wt p i (e p i - 1) + (if (if i < 3 then 0 else 1) = g then 0 else cu))) := by
        rw [oi_add, oi_add, Int32.add_assoc]
      rw [e152_80, e152_81, kF_eq a1 a4, e152_84, e152_86, e152_88 (by simp [Value.category]), c_stateOf, hst]
      simp only [mAft, Option.toList_some, List.cons_append, List.nil_append]
      have C1 := c_ofMove (L := L) (xs := xs) (k := k) (p := Int32.ofNat p) (m := Int32.ofNat i) (q := Int32.ofNat (e p i - 1)) cP rfl rfl b1 b2 cC
      rw [W1] at C1
      rw [e152_91, e152_93, e152_94, kF_eq a1 a3, e152_97, e152_98, e152_100, dec_put (by omega : 0 < e p i), e152_102 (kR_eq cP) (by simp [Value.category]), C1]
      simp only [mAft, Option.toList_some, List.cons_append, List.nil_append]
      have hs8 : e p i - 1 + (if i < 3 then 0 else 2048) < 4096 := by split <;> omega
      have hw9 : wt p i (e p i - 1) + (if (if i < 3 then 0 else 1) = g then 0 else cu) ≤ 149 := by
        have y9 : (if (if i < 3 then 0 else 1) = g then 0 else cu) ≤ cu := by
          by_cases y : (if i < 3 then 0 else 1) = g
          · rw [if_pos y]; omega
          · rw [if_neg y]; omega
        omega
      obtain ⟨h1, A1, A2, A3, A4⟩ := c_lowS (L := L) (xs := xs) (k := k) Q S hs8 hw9
      rw [e152_105, e152_106, e152_108, hsum, e152_109 (q_R Q) (by simp), A1]
      simp only [mAft, Option.toList_none, List.nil_append]
      rw [e152_112, e152_115, oi_succ]
      obtain ⟨h2, B1, B2, B3, B4⟩ := IH (i + 1) _ h1 (some (.int (Int32.ofNat (e p i - 1)))) (some (.int (Int32.ofNat (if i < 3 then 0 else 1)))) (some (.int (Int32.ofNat (if (if i < 3 then 0 else 1) = g then 0 else cu)))) (by omega) A3 (w_keep W A2) A4
      exact ⟨h2, B1, keep_trans A2 B2, B3, B4⟩
end
section
variable {L : Nat} {xs : Nat → Int32} {k : Nat} {ad : Nat → Nat} {w F P op cl cu : Nat} {fw fF : List Value} {mg : Int32} {fo fc : Nat → Int32}
theorem st_of {p g : Nat} (hg : g < 2) : (if Int32.ofNat g = 0 then Int32.ofNat p else Int32.ofNat p + 2048) = Int32.ofNat (p + 2048 * g) := by
  obtain rfl | rfl : g = 0 ∨ g = 1 := by omega
  · rw [if_pos (by decide)]; rfl
  · rw [if_neg (by decide), oi_add]; rfl
theorem c_along {e : Nat → Nat → Nat} {wt : Nat → Nat → Nat → Nat} {tk : Nat → Bool} {p g rv : Nat} {N : Nat → Nat → Nat} {h : List mCel} (HE : geoE fo e) (HW : geoW fc mg wt) (hcu : cu ≤ 100) (hp : p < 2048) (hg : g < 2) (hrv : rv < 2)
    (Q : qH ad N h) (W : wH ad w F P op cl fw fF (Int32.ofNat cu) mg fo fc h) (S : SI N tk (N 0 (p + 2048 * g))) :
    ∃ h', mW (mRo L xs) mTab 152 0 [some (.ref w), some (.int (Int32.ofNat p)), some (.int (Int32.ofNat g)), some (.int (Int32.ofNat rv)), none, none, none, none, none, none] [] h k = some (.inl none, h', k) ∧ mKeep (qAd ad) h h' ∧
      qH ad (nLows (N 0 (p + 2048 * g)) ((List.range (3 + 3 * rv)).flatMap (fEntry e wt cu p g)) N) h' ∧ SI (nLows (N 0 (p + 2048 * g)) ((List.range (3 + 3 * rv)).flatMap (fEntry e wt cu p g)) N) tk (N 0 (p + 2048 * g)) := by
  obtain ⟨⟨a1, a2, a3, a4⟩, ⟨b1, b2, b3⟩, cP, cO, cC, nn⟩ := id W
  obtain ⟨h', A1, A2, A3, A4⟩ := along_loop (L := L) (xs := xs) (k := k) (l3 := some (.int (Int32.ofNat rv))) HE HW hcu hp hg (show 3 + 3 * rv ≤ 6 by omega) (3 + 3 * rv) 0 N h none none none (by omega) Q W S
  rw [← List.range_eq_range'] at A3 A4
  refine ⟨h', ?_, A2, A3, A4⟩
  rw [e152_0, e152_1, kF_eq a1 a4, e152_4, e152_5, e152_6 (by simp [Value.category]), c_stateOf, st_of hg]
  simp only [mAft, Option.toList_some, List.cons_append, List.nil_append]
  rw [e152_9 (q_R Q) (by simp), c_qCost Q (by omega)]
  simp only [mAft, Option.toList_some, List.cons_append, List.nil_append]
  rw [e152_12, e152_14, e152_15]
  obtain rfl | rfl : rv = 0 ∨ rv = 1 := by omega
  · rw [if_pos (by decide), e152_23, e152_24, e152_26, e152_27]
    exact A1
  · rw [if_neg (by decide), e152_18, e152_20, e152_24, e152_26, e152_27]
    exact A1
/-- what is reached against the moves: the pose a move begins at, in the gear behind it, and in the other one -/
def bEntry (e : Nat → Nat → Nat) (wt : Nat → Nat → Nat → Nat) (cu rv q g m : Nat) : List (Nat × Nat) :=
  if e q (if m < 3 then m + 3 else m - 3) = 0 then [] else (e q (if m < 3 then m + 3 else m - 3) - 1 + 2048 * g, wt (e q (if m < 3 then m + 3 else m - 3) - 1) m q) ::
    (if rv = 0 then [] else [(e q (if m < 3 then m + 3 else m - 3) - 1 + 2048 * (1 - g), wt (e q (if m < 3 then m + 3 else m - 3) - 1) m q + cu)])
theorem against_loop {e : Nat → Nat → Nat} {wt : Nat → Nat → Nat → Nat} {tk : Nat → Bool} {c p g rv : Nat} (HE : geoE fo e) (HW : geoW fc mg wt) (hcu : cu ≤ 100) (hp : p < 2048) (hg : g < 2) (hrv : rv < 2) (d : Nat) :
    ∀ (i : Nat) (N : Nat → Nat → Nat) (h : List mCel) (l7 l8 : Option Value), i + d = 3 * g + 3 → qH ad N h → wH ad w F P op cl fw fF (Int32.ofNat cu) mg fo fc h → SI N tk c →
    ∃ h', mW (mRo L xs) mTab 151 29 [some (.ref w), some (.int (Int32.ofNat p)), some (.int (Int32.ofNat g)), some (.int (Int32.ofNat rv)), some (.int (Int32.ofNat c)), some (.int (Int32.ofNat (3 * g))), some (.int (Int32.ofNat i)), l7, l8] [] h k = some (.inl none, h', k) ∧ mKeep (qAd ad) h h' ∧ qH ad (nLows c ((List.range' i d).flatMap (bEntry e wt cu rv p g)) N) h' ∧ SI (nLows c ((List.range' i d).flatMap (bEntry e wt cu rv p g)) N) tk c := by
  have h3g : Int32.ofNat (3 * g) + 3 = Int32.ofNat (3 * g + 3) := (oi_add _ _).symm
  induction d with
  | zero =>
    intro i N h l7 l8 hi Q W S
    obtain rfl : i = 3 * g + 3 := by omega
    rw [e151_29, e151_31, e151_33, e151_34, h3g, e151_35, if_pos (Int32.le_refl _), e151_132]
    exact ⟨h, rfl, keep_refl, Q, S⟩
  | succ d IH =>
    intro i N h l7 l8 hi Q W S
    obtain ⟨⟨a1, a2, a3, a4⟩, ⟨b1, b2, b3⟩, cP, cO, cC, nn⟩ := id W
    have hlt : ¬ (Int32.ofNat (3 * g + 3) ≤ Int32.ofNat i) := by rw [oi_le (by omega) (by omega)]; omega
    have ho : (if i < 3 then i + 3 else i - 3) < 6 := by split <;> omega
    have hoi : (if Int32.ofNat i < 3 then Int32.ofNat i + 3 else Int32.ofNat i - 3) = Int32.ofNat (if i < 3 then i + 3 else i - 3) := by
      simp only [oi_lt3 (show i < 2 ^ 31 by omega)]
      by_cases y : i < 3
      · rw [if_pos y, if_pos y, oi_add]; rfl
      · rw [if_neg y, if_neg y]
        obtain ⟨j, rfl⟩ : ∃ j, i = j + 3 := ⟨i - 3, by omega⟩
        rw [Nat.add_sub_cancel, oi_add, Int32.sub_eq_add_neg, Int32.add_assoc, show Int32.ofNat 3 + -3 = 0 from rfl, Int32.add_zero]
    generalize hop : (if i < 3 then i + 3 else i - 3) = o at *
    obtain ⟨E1, E2⟩ := HE p o hp ho
    rw [e151_29, e151_31, e151_33, e151_34, h3g, e151_35, if_neg hlt, e151_38, e151_39, kF_eq a1 a2, e151_42, e151_43, e151_45 (by simp [Value.category]), c_oppositeOf, hoi]
    simp only [mAft, Option.toList_some, List.cons_append, List.nil_append]
    rw [e151_48 (kR_eq b1) (by simp [Value.category]), c_driven b1 b3 cO, E1]
    simp only [mAft, Option.toList_some, List.cons_append, List.nil_append]
    rw [e151_51, e151_53, e151_55, e151_56]
    simp only [enc_eq (show e p o ≤ 4096 by omega)]
    rw [List.range'_succ, List.flatMap_cons]
    have hfe : bEntry e wt cu rv p g i = if e p o = 0 then [] else (e p o - 1 + 2048 * g, wt (e p o - 1) i p) :: (if rv = 0 then [] else [(e p o - 1 + 2048 * (1 - g), wt (e p o - 1) i p + cu)]) := by
      unfold bEntry; rw [hop]
    by_cases z : e p o = 0
    · rw [if_pos z, hfe, if_pos z, e151_126, e151_129, oi_succ, List.nil_append]
      exact IH (i + 1) N h _ _ (by omega) Q W S
    · rw [if_neg z, hfe, if_neg z]
      have hq : e p o - 1 < 2048 := by omega
      obtain ⟨W1, W2⟩ := HW (e p o - 1) i p hq (by omega) hp
      have C1 := c_ofMove (L := L) (xs := xs) (k := k) (p := Int32.ofNat (e p o - 1)) (m := Int32.ofNat i) (q := Int32.ofNat p) cP rfl rfl b1 b2 cC
      rw [W1] at C1
      rw [dec_put (by omega : 0 < e p o)]
      generalize hu : e p o - 1 = u at *
      rw [e151_59, e151_61, e151_62, kF_eq a1 a3, e151_65, e151_67, e151_69, e151_70 (kR_eq cP) (by simp [Value.category]), C1]
      simp only [mAft, Option.toList_some, List.cons_append, List.nil_append]
      rw [e151_73, ← oi_add, e151_74, e151_76, e151_77, kF_eq a1 a4, e151_80, e151_82, e151_83 (by simp [Value.category]), c_stateOf, st_of hg]
      simp only [mAft, Option.toList_some, List.cons_append, List.nil_append]
      obtain ⟨h1, A1, A2, A3, A4⟩ := c_lowS (L := L) (xs := xs) (k := k) Q S (s := u + 2048 * g) (w := wt u i p) (by omega) (by omega)
      rw [e151_86, e151_88 (q_R Q) (by simp), A1]
      simp only [mAft, Option.toList_none, List.nil_append]
      rw [e151_91, e151_92]
      have W' := w_keep W A2
      obtain ⟨⟨a1', a2', a3', a4'⟩, ⟨b1', b2', b3'⟩, cP', cO', cC', nn'⟩ := id W'
      obtain rfl | rfl : rv = 0 ∨ rv = 1 := by omega
      · rw [if_pos (by decide), e151_126, e151_129, oi_succ]
        obtain ⟨h2, B1, B2, B3, B4⟩ := IH (i + 1) _ h1 (some (.int (Int32.ofNat u))) (some (.int (Int32.ofNat (c + wt u i p)))) (by omega) A3 W' A4
        exact ⟨h2, B1, keep_trans A2 B2, B3, B4⟩
      · have T : mW (mRo L xs) mTab 151 101 [some (.ref w), some (.int (Int32.ofNat p)), some (.int (Int32.ofNat g)), some (.int (Int32.ofNat 1)), some (.int (Int32.ofNat c)), some (.int (Int32.ofNat (3 * g))), some (.int (Int32.ofNat i)), some (.int (Int32.ofNat u)), some (.int (Int32.ofNat (c + wt u i p)))] [.int (Int32.ofNat u), .ref (ad 4)] h1 k =
            mW (mRo L xs) mTab 151 110 [some (.ref w), some (.int (Int32.ofNat p)), some (.int (Int32.ofNat g)), some (.int (Int32.ofNat 1)), some (.int (Int32.ofNat c)), some (.int (Int32.ofNat (3 * g))), some (.int (Int32.ofNat i)), some (.int (Int32.ofNat u)), some (.int (Int32.ofNat (c + wt u i p)))] [.int (Int32.ofNat (1 - g)), .int (Int32.ofNat u), .ref (ad 4)] h1 k := by
          rw [e151_101, e151_102]
          obtain rfl | rfl : g = 0 ∨ g = 1 := by omega
          · rw [if_neg (by decide), e151_105, e151_106]; rfl
          · rw [if_pos (by decide), e151_109]; rfl
        obtain ⟨h2, B1, B2, B3, B4⟩ := c_lowS (L := L) (xs := xs) (k := k) A3 A4 (s := u + 2048 * (1 - g)) (w := wt u i p + cu) (by omega) (by omega)
        obtain ⟨h3, C1, C2, C3, C4⟩ := IH (i + 1) _ h2 (some (.int (Int32.ofNat u))) (some (.int (Int32.ofNat (c + wt u i p)))) (by omega) B3 (w_keep W' B2) B4
        refine ⟨h3, ?_, keep_trans (keep_trans A2 B2) C2, C3, C4⟩
        rw [if_neg (by decide), e151_95, e151_96, kF_eq a1' a4', e151_99, T, e151_110 (by simp [Value.category]), c_stateOf, st_of (by omega)]
        simp only [mAft, Option.toList_some, List.cons_append, List.nil_append]
        rw [e151_113, e151_115, e151_116, kF_eq a1' a3', e151_119 (kR_eq cP') (by simp [Value.category]), c_cuspCost cP' rfl]
        simp only [mAft, Option.toList_some, List.cons_append, List.nil_append]
        rw [e151_122, ← oi_add, Nat.add_assoc, e151_123 (q_R A3) (by simp), B1]
        simp only [mAft, Option.toList_none, List.nil_append]
        rw [e151_126, e151_129, oi_succ]
        exact C1
theorem c_against {e : Nat → Nat → Nat} {wt : Nat → Nat → Nat → Nat} {tk : Nat → Bool} {p g rv : Nat} {N : Nat → Nat → Nat} {h : List mCel} (HE : geoE fo e) (HW : geoW fc mg wt) (hcu : cu ≤ 100) (hp : p < 2048) (hg : g < 2) (hrv : rv < 2)
    (Q : qH ad N h) (W : wH ad w F P op cl fw fF (Int32.ofNat cu) mg fo fc h) (S : SI N tk (N 0 (p + 2048 * g))) :
    ∃ h', mW (mRo L xs) mTab 151 0 [some (.ref w), some (.int (Int32.ofNat p)), some (.int (Int32.ofNat g)), some (.int (Int32.ofNat rv)), none, none, none, none, none] [] h k = some (.inl none, h', k) ∧ mKeep (qAd ad) h h' ∧
      qH ad (nLows (N 0 (p + 2048 * g)) ((List.range' (3 * g) 3).flatMap (bEntry e wt cu rv p g)) N) h' ∧ SI (nLows (N 0 (p + 2048 * g)) ((List.range' (3 * g) 3).flatMap (bEntry e wt cu rv p g)) N) tk (N 0 (p + 2048 * g)) := by
  obtain ⟨⟨a1, a2, a3, a4⟩, ⟨b1, b2, b3⟩, cP, cO, cC, nn⟩ := id W
  obtain ⟨h', A1, A2, A3, A4⟩ := against_loop (L := L) (xs := xs) (k := k) HE HW hcu hp hg hrv 3 (3 * g) N h none none (by omega) Q W S
  refine ⟨h', ?_, A2, A3, A4⟩
  rw [e151_0, e151_1, kF_eq a1 a4, e151_4, e151_5, e151_6 (by simp [Value.category]), c_stateOf, st_of hg]
  simp only [mAft, Option.toList_some, List.cons_append, List.nil_append]
  rw [e151_9 (q_R Q) (by simp), c_qCost Q (by omega)]
  simp only [mAft, Option.toList_some, List.cons_append, List.nil_append]
  rw [e151_12, e151_14, e151_15]
  obtain rfl | rfl : g = 0 ∨ g = 1 := by omega
  · rw [if_pos (by decide), e151_22, e151_23, e151_25, e151_27]
    exact A1
  · rw [if_neg (by decide), e151_18, e151_19, e151_23, e151_25, e151_27]
    exact A1
end
