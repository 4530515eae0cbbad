section
variable {L : Nat} {xs : Nat → Int32} {k : Nat} {h : List mCel} {np fr be : Nat} {fpg : Nat → Option Nat} {cov fcl fop : Nat → Int32}
def rfC (t n : Nat) (f : Nat → Option Nat) : mCel := .inl (t, n, .inr (.inr (.inr (.inr f))))
theorem kAA_r {a t n : Nat} {f : Nat → Option Nat} {j : Int32} {q : Value → Option mOut} (hc : mCell h a = some (rfC t n f)) (ht : t = 5 ∨ t = 6) (hj : 0 ≤ j.toInt ∧ j.toInt < n) : kAA h a j q = (match f j.toNatClampNeg with | some b => q (.ref b) | none => q .null) := by
  unfold kAA; rw [hc]; exact if_pos ⟨ht, hj⟩
theorem kAS_r {a b t n c : Nat} {f : Nat → Option Nat} {fs : List Value} {j : Int32} {q : Nat → Nat → (Nat → Option Nat) → Option mOut} (hc : mCell h a = some (rfC t n f)) (hb : mCell h b = some (.inr (c, fs))) (ht : (t = 5 ∧ c = 3) ∨ (t = 6 ∧ c = 6)) (hj : 0 ≤ j.toInt ∧ j.toInt < n) : kAS h a b j q = q t n f := by
  unfold kAS; rw [hc, hb]; exact if_pos ⟨ht, hj⟩
theorem kAN_r {a t n : Nat} {f : Nat → Option Nat} {j : Int32} {q : Nat → Nat → (Nat → Option Nat) → Option mOut} (hc : mCell h a = some (rfC t n f)) (ht : t = 5 ∨ t = 6) (hj : 0 ≤ j.toInt ∧ j.toInt < n) : kAN h a j q = q t n f := by
  unfold kAN; rw [hc]; exact if_pos ⟨ht, hj⟩
theorem kAL_r {ro : Nat → Nat × (Nat → Int32)} {a t n : Nat} {f : Nat → Option Nat} {q : Int32 → Option mOut} (hc : mCell h a = some (rfC t n f)) (ht : t = 5 ∨ t = 6) : kAL ro h a q = q (Int32.ofNat n) := by
  unfold kAL; rw [if_neg (by have := (cell_8 hc).1; omega), hc]; exact if_pos (Or.inr ht)
def c12 (np fr be : Nat) : mCel := .inr (1, [.ref 13, .int (Int32.ofNat np), .ref 14, .ref 15, .ref 16, .int (Int32.ofNat fr), .int (Int32.ofNat be)])
/-- the field -/
def fdH (np fr be : Nat) (fpg : Nat → Option Nat) (cov fcl fop : Nat → Int32) (h : List mCel) : Prop :=
  mCell h 12 = some (c12 np fr be) ∧ mCell h 13 = some (rfC 5 8 fpg) ∧ mCell h 14 = some (.inl (0, 256, .inl cov)) ∧ mCell h 15 = some (.inl (0, 256, .inl fcl)) ∧ mCell h 16 = some (.inl (1, 2048, .inl fop))
/-- clearances and poses as the cells that are blocked tell -/
def fdC (fr be : Nat) (cov fcl fop : Nat → Int32) : Prop := (∃ g, fcl = pClears cov g) ∧ ∀ j, j < 2048 → fop j = pJudge cov (Int32.ofNat fr) (Int32.ofNat be) (Int32.ofNat j)
theorem fd_12 (H : fdH np fr be fpg cov fcl fop h) (np' fr' be' : Nat) : fdH np' fr' be' fpg cov fcl fop (h.set (12 - 8) (c12 np' fr' be')) :=
  ⟨cell_set H.1, (cell_setne (by decide) (by decide)).trans H.2.1, (cell_setne (by decide) (by decide)).trans H.2.2.1, (cell_setne (by decide) (by decide)).trans H.2.2.2.1, (cell_setne (by decide) (by decide)).trans H.2.2.2.2⟩
theorem fd_13 (H : fdH np fr be fpg cov fcl fop h) (f' : Nat → Option Nat) : fdH np fr be f' cov fcl fop (h.set (13 - 8) (rfC 5 8 f')) :=
  ⟨(cell_setne (by decide) (by decide)).trans H.1, cell_set H.2.1, (cell_setne (by decide) (by decide)).trans H.2.2.1, (cell_setne (by decide) (by decide)).trans H.2.2.2.1, (cell_setne (by decide) (by decide)).trans H.2.2.2.2⟩
theorem fd_14 (H : fdH np fr be fpg cov fcl fop h) (f' : Nat → Int32) : fdH np fr be fpg f' fcl fop (h.set (14 - 8) (.inl (0, 256, .inl f'))) :=
  ⟨(cell_setne (by decide) (by decide)).trans H.1, (cell_setne (by decide) (by decide)).trans H.2.1, cell_set H.2.2.1, (cell_setne (by decide) (by decide)).trans H.2.2.2.1, (cell_setne (by decide) (by decide)).trans H.2.2.2.2⟩
theorem fd_15 (H : fdH np fr be fpg cov fcl fop h) (f' : Nat → Int32) : fdH np fr be fpg cov f' fop (h.set (15 - 8) (.inl (0, 256, .inl f'))) :=
  ⟨(cell_setne (by decide) (by decide)).trans H.1, (cell_setne (by decide) (by decide)).trans H.2.1, (cell_setne (by decide) (by decide)).trans H.2.2.1, cell_set H.2.2.2.1, (cell_setne (by decide) (by decide)).trans H.2.2.2.2⟩
theorem fd_16 (H : fdH np fr be fpg cov fcl fop h) (f' : Nat → Int32) : fdH np fr be fpg cov fcl f' (h.set (16 - 8) (.inl (1, 2048, .inl f'))) :=
  ⟨(cell_setne (by decide) (by decide)).trans H.1, (cell_setne (by decide) (by decide)).trans H.2.1, (cell_setne (by decide) (by decide)).trans H.2.2.1, (cell_setne (by decide) (by decide)).trans H.2.2.2.1, cell_set H.2.2.2.2⟩
/-- the cells of the field -/
def fdP (a : Nat) : Prop := 12 ≤ a ∧ a ≤ 16
theorem c_judgeM (H : fdH np fr be fpg cov fcl fop h) (hv : fr ≤ 2 ∧ be ≤ 2) : mW (mRo L xs) mTab 17 0 [some (.ref 12), none] [] h k = some (.inl none, h.set (16 - 8) (.inl (1, 2048, .inl (fillG fop 0 2048 (fun j => pJudge cov (Int32.ofNat fr) (Int32.ofNat be) (Int32.ofNat j))))), k) := by
  have h1 : 0 ≤ (Int32.ofNat fr).toInt ∧ (Int32.ofNat fr).toInt ≤ 1000 := by rw [oi_int (by omega)]; omega
  have h2 : 0 ≤ (Int32.ofNat be).toInt ∧ (Int32.ofNat be).toInt ≤ 1000 := by rw [oi_int (by omega)]; omega
  rw [e17_0, e17_1, show (0 : Int32) = Int32.ofNat 0 from rfl]
  exact judge_loop (fs := [.ref 13, .int (Int32.ofNat np), .ref 14, .ref 15, .ref 16, .int (Int32.ofNat fr), .int (Int32.ofNat be)]) rfl rfl rfl rfl h1 h2 2048 0 fop h (by omega) H.1 H.2.2.1 H.2.2.2.2
theorem judge_is (j : Nat) (hj : j < 2048) (v : Nat → Int32) : fillG fop 0 2048 v j = v j := by unfold fillG; rw [if_pos ⟨Nat.zero_le _, hj⟩]
theorem c_survey (H : fdH np fr be fpg cov fcl fop h) (hv : fr ≤ 2 ∧ be ≤ 2) : ∃ h' fcl' fop', mW (mRo L xs) mTab 23 0 [some (.ref 12)] [] h k = some (.inl none, h', k) ∧ fdH np fr be fpg cov fcl' fop' h' ∧ fdC fr be cov fcl' fop' ∧ mKeep fdP h h' := by
  have m1 := c_measure (L := L) (xs := xs) (k := k) (fs := [.ref 13, .int (Int32.ofNat np), .ref 14, .ref 15, .ref 16, .int (Int32.ofNat fr), .int (Int32.ofNat be)]) H.1 rfl rfl (by decide) H.2.2.1 H.2.2.2.1
  have H1 := fd_15 H (pClears cov fcl)
  have j1 := c_judgeM (L := L) (xs := xs) (k := k) H1 hv
  have K1 : mKeep fdP h (h.set (15 - 8) (.inl (0, 256, .inl (pClears cov fcl)))) := keep_set H.2.2.2.1 rfl ⟨by decide, by decide⟩
  have K2 : mKeep fdP (h.set (15 - 8) (.inl (0, 256, .inl (pClears cov fcl)))) ((h.set (15 - 8) (.inl (0, 256, .inl (pClears cov fcl)))).set (16 - 8) (.inl (1, 2048, .inl (fillG fop 0 2048 (fun j => pJudge cov (Int32.ofNat fr) (Int32.ofNat be) (Int32.ofNat j)))))) := keep_set H1.2.2.2.2 rfl ⟨by decide, by decide⟩
  refine ⟨_, _, _, ?_, fd_16 H1 (fillG fop 0 2048 (fun j => pJudge cov (Int32.ofNat fr) (Int32.ofNat be) (Int32.ofNat j))), ⟨⟨fcl, rfl⟩, fun j hj => judge_is j hj _⟩, keep_trans K1 K2⟩
  rw [e23_0, e23_1 (kR_eq H.1) (by simp [Value.category]), m1]
  simp only [mAft, Option.toList_none, List.nil_append]
  rw [e23_4, e23_5 (kR_eq H1.1) (by simp [Value.category]), j1]
  simp only [mAft, Option.toList_none, List.nil_append]
  rw [e23_8]
theorem pl_keep {po px py c : Nat} {fx fy : Nat → Int32} {h' : List mCel} {P : Nat → Prop} (H : plH po px py c fx fy h) (K : mKeep P h h') (h1 : ¬ P po) (h2 : ¬ P px) (h3 : ¬ P py) : plH po px py c fx fy h' :=
  ⟨(K.2.2 _ h1).trans H.1, (K.2.2 _ h2).trans H.2.1, (K.2.2 _ h3).trans H.2.2.1, H.2.2.2⟩
theorem pl_14 {po px py c : Nat} {fx fy : Nat → Int32} (H : fdH np fr be fpg cov fcl fop h) (P : plH po px py c fx fy h) : ¬ fdP po ∧ ¬ fdP px ∧ ¬ fdP py := by
  have n : ∀ a cc, mCell h a = some cc → cc ≠ c12 np fr be → cc ≠ rfC 5 8 fpg → cc ≠ .inl (0, 256, .inl cov) → cc ≠ .inl (0, 256, .inl fcl) → cc ≠ .inl (1, 2048, .inl fop) → ¬ fdP a := by
    intro a cc ha e1 e2 e3 e4 e5 hp
    unfold fdP at hp
    rcases (show a = 12 ∨ a = 13 ∨ a = 14 ∨ a = 15 ∨ a = 16 by omega) with z | z | z | z | z <;> rw [z] at ha
    · exact e1 (Option.some.inj (ha.symm.trans H.1))
    · exact e2 (Option.some.inj (ha.symm.trans H.2.1))
    · exact e3 (Option.some.inj (ha.symm.trans H.2.2.1))
    · exact e4 (Option.some.inj (ha.symm.trans H.2.2.2.1))
    · exact e5 (Option.some.inj (ha.symm.trans H.2.2.2.2))
  refine ⟨n _ _ P.1 ?_ ?_ ?_ ?_ ?_, n _ _ P.2.1 ?_ ?_ ?_ ?_ ?_, n _ _ P.2.2.1 ?_ ?_ ?_ ?_ ?_⟩ <;> intro z <;> simp [c12, rfC] at z
theorem cover_loop {po px py c : Nat} {fx fy : Nat → Int32} (by' : Int32) (n14 : ¬ po = 14 ∧ ¬ px = 14 ∧ ¬ py = 14) : ∀ (d i b : Nat) (cov : Nat → Int32) (h : List mCel), i + d = 256 → b ≤ i → fdH np fr be fpg cov fcl fop h → plH po px py c fx fy h →
    ∃ h' cov' b', mW (mRo L xs) mTab 10 5 [some (.ref 12), some (.ref po), some (.int by'), some (.int (Int32.ofNat b)), some (.int (Int32.ofNat i))] [] h k = some (.inl (some (.int (Int32.ofNat b'))), h', k) ∧ b' ≤ 256 ∧ fdH np fr be fpg cov' fcl fop h' ∧ mKeep (fun a => a = 14) h h' := by
  intro d
  induction d with
  | zero =>
    intro i b cov h hi hb H P
    obtain rfl : i = 256 := by omega
    refine ⟨h, cov, b, ?_, hb, H, keep_refl⟩
    rw [e10_5, e10_7, e10_8, kF_eq H.1 (v := .ref 14) rfl, e10_11, kAL_int H.2.2.1, e10_12, if_pos (Int32.le_refl _), e10_67, e10_68]
  | succ d IH =>
    intro i b cov h hi hb H P
    have hin : 0 ≤ (Int32.ofNat i).toInt ∧ (Int32.ofNat i).toInt < (256 : Nat) := by rw [oi_int (by omega)]; omega
    obtain ⟨v, hv, B⟩ := c_blocks (L := L) (xs := xs) (k := k) P (pX (Int32.ofNat i)) (pY (Int32.ofNat i))
    rw [e10_5, e10_7, e10_8, kF_eq H.1 (v := .ref 14) rfl, e10_11, kAL_int H.2.2.1, e10_12, if_neg (by rw [oi_le (by omega) (by omega)]; omega), e10_15, e10_16, e10_18 (by simp [Value.category]), c_xOf]
    simp only [mAft, Option.toList_some, List.cons_append, List.nil_append]
    rw [e10_21, e10_23 (by simp [Value.category]), c_yOf]
    simp only [mAft, Option.toList_some, List.cons_append, List.nil_append]
    rw [e10_26 (kR_eq P.1) (by simp [Value.category]), B]
    simp only [mAft, Option.toList_some, List.cons_append, List.nil_append]
    rw [e10_29]
    by_cases z : v = 0
    · rw [if_pos z, e10_61, oi_succ, e10_64]
      exact IH (i + 1) b cov h (by omega) (by omega) H P
    · have H1 := fd_14 H (upd cov i (cov i + by'))
      have K1 : mKeep (fun a => a = 14) h (h.set (14 - 8) (.inl (0, 256, .inl (upd cov i (cov i + by'))))) := keep_set H.2.2.1 rfl rfl
      have P1 := pl_keep P K1 n14.1 n14.2.1 n14.2.2
      rw [if_neg z, e10_32, e10_33, kF_eq H.1 (v := .ref 14) rfl, e10_36, e10_38, e10_39, kIA_int H.2.2.1 hin, e10_40, e10_41, e10_42, kIS_int H.2.2.1 hin, oi_nat (by omega), e10_43, e10_44, e10_45, kF_eq H1.1 (v := .ref 14) rfl, e10_48, e10_50, kIA_int H1.2.2.1 hin, e10_51]
      generalize upd cov i (cov i + by') (Int32.ofNat i).toNatClampNeg = u
      by_cases y : u = 0
      · rw [if_neg (not_not_intro y), e10_54, e10_55, e10_59, oi_succ, e10_60, e10_61, oi_succ, e10_64]
        obtain ⟨h', cov', b', r1, r2, r3, r4⟩ := IH (i + 1) (b + 1) _ _ (by omega) (by omega) H1 P1
        exact ⟨h', cov', b', r1, r2, r3, keep_trans K1 r4⟩
      · rw [if_pos y, e10_58, e10_59, Int32.add_zero, e10_60, e10_61, oi_succ, e10_64]
        obtain ⟨h', cov', b', r1, r2, r3, r4⟩ := IH (i + 1) b _ _ (by omega) (by omega) H1 P1
        exact ⟨h', cov', b', r1, r2, r3, keep_trans K1 r4⟩
theorem c_cover {po px py c : Nat} {fx fy : Nat → Int32} (by' : Int32) (H : fdH np fr be fpg cov fcl fop h) (P : plH po px py c fx fy h) :
    ∃ h' cov' b', mW (mRo L xs) mTab 10 0 [some (.ref 12), some (.ref po), some (.int by'), none, none] [] h k = some (.inl (some (.int (Int32.ofNat b'))), h', k) ∧ b' ≤ 256 ∧ fdH np fr be fpg cov' fcl fop h' ∧ mKeep (fun a => a = 14) h h' := by
  obtain ⟨n1, n2, n3⟩ := pl_14 H P
  have f14 : fdP 14 := ⟨by decide, by decide⟩
  obtain ⟨h', cov', b', r1, r2⟩ := cover_loop (po := po) (px := px) (py := py) (L := L) (xs := xs) (k := k) by' ⟨fun z => n1 (by rw [z]; exact f14), fun z => n2 (by rw [z]; exact f14), fun z => n3 (by rw [z]; exact f14)⟩ 256 0 0 cov h rfl (Nat.le_refl _) H P
  refine ⟨h', cov', b', ?_, r2⟩
  rw [e10_0, e10_1, e10_2, e10_3]
  exact r1
theorem c_addPoly {po px py c : Nat} {fx fy : Nat → Int32} (hv : fr ≤ 2 ∧ be ≤ 2) (hn : np < 8) (H : fdH np fr be fpg cov fcl fop h) (P : plH po px py c fx fy h) :
    ∃ h' cov' fcl' fop', mW (mRo L xs) mTab 7 0 [some (.ref 12), some (.ref po), none] [] h k = some (.inl (some (.int (Int32.ofNat np))), h', k) ∧ fdH (np + 1) fr be (va_up fpg np (some po)) cov' fcl' fop' h' ∧ fdC fr be cov' fcl' fop' ∧ mKeep fdP h h' := by
  obtain ⟨n1, n2, n3⟩ := pl_14 H P
  have hin : 0 ≤ (Int32.ofNat np).toInt ∧ (Int32.ofNat np).toInt < (8 : Nat) := by rw [oi_int (by omega)]; omega
  have H1 := fd_13 H (va_up fpg np (some po))
  have H2 := fd_12 H1 (np + 1) fr be
  have K1 : mKeep fdP h (h.set (13 - 8) (rfC 5 8 (va_up fpg np (some po)))) := keep_set H.2.1 rfl ⟨by decide, by decide⟩
  have K2 := keep_trans K1 (keep_set (P := fdP) (d := c12 (np + 1) fr be) H1.1 rfl ⟨by decide, by decide⟩)
  have P2 := pl_keep P K2 n1 n2 n3
  obtain ⟨h3, cov3, b3, r1, r2, r3, r4⟩ := c_cover (L := L) (xs := xs) (k := k) 1 H2 P2
  obtain ⟨h4, fcl4, fop4, s1, s2, s3, s4⟩ := c_survey (L := L) (xs := xs) (k := k) r3 hv
  refine ⟨h4, cov3, fcl4, fop4, ?_, s2, s3, keep_trans (keep_trans K2 (keep_mono r4 (fun x z => by rw [z]; exact ⟨by decide, by decide⟩))) s4⟩
  rw [e7_0, e7_1, kF_eq H.1 (v := .int (Int32.ofNat np)) rfl, e7_4, e7_5, e7_6, if_neg (oi_nneg (by omega)), e7_9, e7_10, e7_11, kF_eq H.1 (v := .ref 13) rfl, e7_14, kAL_r H.2.1 (Or.inl rfl), e7_15, if_pos (by rw [oi_lt (by omega) (by omega)]; exact hn), e7_20, e7_21, kF_eq H.1 (v := .ref 13) rfl, e7_24, e7_25, e7_26, kAS_r H.2.1 P.1 (Or.inl ⟨rfl, rfl⟩) hin, oi_nat (by omega)]
  rw [show (Sum.inl (5, 8, Sum.inr (Sum.inr (Sum.inr (Sum.inr (va_up fpg np (some po)))))) : mCel) = rfC 5 8 (va_up fpg np (some po)) from rfl, e7_27, e7_28r, e7_29, kF_eq H1.1 (v := .int (Int32.ofNat np)) rfl, e7_32, e7_33, oi_succ, e7_34, kP_eq H1.1 (by simp)]
  show mW (mRo L xs) mTab 7 37 [some (.ref 12), some (.ref po), some (.int (Int32.ofNat np))] [] ((h.set (13 - 8) (rfC 5 8 (va_up fpg np (some po)))).set (12 - 8) (c12 (np + 1) fr be)) k = _
  rw [e7_37, e7_38, e7_39, e7_40 (kR_eq H2.1) (by simp [Value.category]), r1]
  simp only [mAft, Option.toList_some, List.cons_append, List.nil_append]
  rw [e7_43, e7_44, e7_45 (kR_eq r3.1) (by simp [Value.category]), s1]
  simp only [mAft, Option.toList_none, List.nil_append]
  rw [e7_48, e7_49]
theorem n21_36 {ro : Nat → Nat × (Nat → Int32)} {l0 l1 l2 l3 : Option Value} {st : List Value} {h : List mCel} {x : Nat} {a : Nat} {j : Int32} : mW ro mTab 21 36 [l0, l1, l2, l3] (.null :: .int j :: .ref a :: st) h x = kAN h a j fun t n f => mW ro mTab 21 37 [l0, l1, l2, l3] st (h.set (a - 8) (.inl (t, n, .inr (.inr (.inr (.inr (va_up f j.toNatClampNeg none))))))) x := g_aastoreN rfl rfl
theorem c_removePoly {po px py c i : Nat} {fx fy : Nat → Int32} (hv : fr ≤ 2 ∧ be ≤ 2) (hi : i < 8) (hp : fpg i = some po) (H : fdH np fr be fpg cov fcl fop h) (P : plH po px py c fx fy h) :
    ∃ h' cov' fcl' fop' b, mW (mRo L xs) mTab 21 0 [some (.ref 12), some (.int (Int32.ofNat i)), none, none] [] h k = some (.inl (some (.int (Int32.ofNat b))), h', k) ∧ b ≤ 256 ∧ fdH np fr be (va_up fpg i none) cov' fcl' fop' h' ∧ fdC fr be cov' fcl' fop' ∧ mKeep fdP h h' := by
  obtain ⟨n1, n2, n3⟩ := pl_14 H P
  have hin : 0 ≤ (Int32.ofNat i).toInt ∧ (Int32.ofNat i).toInt < (8 : Nat) := by rw [oi_int (by omega)]; omega
  have H1 := fd_13 H (va_up fpg i none)
  have K1 : mKeep fdP h (h.set (13 - 8) (rfC 5 8 (va_up fpg i none))) := keep_set H.2.1 rfl ⟨by decide, by decide⟩
  have P1 := pl_keep P K1 n1 n2 n3
  obtain ⟨h3, cov3, b3, r1, r2, r3, r4⟩ := c_cover (L := L) (xs := xs) (k := k) (-1) H1 P1
  obtain ⟨h4, fcl4, fop4, s1, s2, s3, s4⟩ := c_survey (L := L) (xs := xs) (k := k) r3 hv
  refine ⟨h4, cov3, fcl4, fop4, b3, ?_, r2, s2, s3, keep_trans (keep_trans K1 (keep_mono r4 (fun x z => by rw [z]; exact ⟨by decide, by decide⟩))) s4⟩
  have rd : ∀ q : Value → Option mOut, kAA h 13 (Int32.ofNat i) q = q (.ref po) := fun q => by
    rw [kAA_r H.2.1 (Or.inl rfl) hin, oi_nat (by omega), hp]
  rw [e21_0, e21_1, if_neg (oi_nneg (by omega)), e21_4, e21_5, e21_6, kF_eq H.1 (v := .ref 13) rfl, e21_9, kAL_r H.2.1 (Or.inl rfl), e21_10, if_neg (by rw [oi_le (by omega) (by omega)]; omega), e21_13, e21_14, kF_eq H.1 (v := .ref 13) rfl, e21_17, e21_18, rd, e21_19, e21_23, e21_24, e21_25r, e21_30, e21_31, kF_eq H.1 (v := .ref 13) rfl, e21_34, e21_35, n21_36, kAN_r H.2.1 (Or.inl rfl) hin, oi_nat (by omega)]
  rw [show (Sum.inl (5, 8, Sum.inr (Sum.inr (Sum.inr (Sum.inr (va_up fpg i none))))) : mCel) = rfC 5 8 (va_up fpg i none) from rfl, e21_37, e21_38, e21_39, e21_40 (kR_eq H1.1) (by simp [Value.category]), r1]
  simp only [mAft, Option.toList_some, List.cons_append, List.nil_append]
  rw [e21_43, e21_44, e21_45 (kR_eq r3.1) (by simp [Value.category]), s1]
  simp only [mAft, Option.toList_none, List.nil_append]
  rw [e21_48, e21_49]
theorem c_setVehicle {fr' be' : Nat} (hv : fr' ≤ 2 ∧ be' ≤ 2) (H : fdH np fr be fpg cov fcl fop h) (C : fdC fr be cov fcl fop) :
    ∃ h' fop', mW (mRo L xs) mTab 22 0 [some (.ref 12), some (.int (Int32.ofNat fr')), some (.int (Int32.ofNat be'))] [] h k = some (.inl none, h', k) ∧ fdH np fr' be' fpg cov fcl fop' h' ∧ fdC fr' be' cov fcl fop' ∧ mKeep fdP h h' := by
  have H1 := fd_12 H np fr' be
  have H2 := fd_12 H1 np fr' be'
  have j1 := c_judgeM (L := L) (xs := xs) (k := k) H2 hv
  have K1 : mKeep fdP h (h.set (12 - 8) (c12 np fr' be)) := keep_set H.1 rfl ⟨by decide, by decide⟩
  have K2 : mKeep fdP (h.set (12 - 8) (c12 np fr' be)) ((h.set (12 - 8) (c12 np fr' be)).set (12 - 8) (c12 np fr' be')) := keep_set H1.1 rfl ⟨by decide, by decide⟩
  have K3 : mKeep fdP ((h.set (12 - 8) (c12 np fr' be)).set (12 - 8) (c12 np fr' be')) (((h.set (12 - 8) (c12 np fr' be)).set (12 - 8) (c12 np fr' be')).set (16 - 8) (.inl (1, 2048, .inl (fillG fop 0 2048 (fun j => pJudge cov (Int32.ofNat fr') (Int32.ofNat be') (Int32.ofNat j)))))) := keep_set H2.2.2.2.2 rfl ⟨by decide, by decide⟩
  refine ⟨_, _, ?_, fd_16 H2 (fillG fop 0 2048 (fun j => pJudge cov (Int32.ofNat fr') (Int32.ofNat be') (Int32.ofNat j))), ⟨C.1, fun j hj => judge_is j hj _⟩, keep_trans (keep_trans K1 K2) K3⟩
  rw [e22_0, e22_1, e22_2, kP_eq H.1 (by simp)]
  show mW (mRo L xs) mTab 22 5 [some (.ref 12), some (.int (Int32.ofNat fr')), some (.int (Int32.ofNat be'))] [] (h.set (12 - 8) (c12 np fr' be)) k = _
  rw [e22_5, e22_6, e22_7, kP_eq H1.1 (by simp)]
  show mW (mRo L xs) mTab 22 10 [some (.ref 12), some (.int (Int32.ofNat fr')), some (.int (Int32.ofNat be'))] [] ((h.set (12 - 8) (c12 np fr' be)).set (12 - 8) (c12 np fr' be')) k = _
  rw [e22_10, e22_11 (kR_eq H2.1) (by simp [Value.category]), j1]
  simp only [mAft, Option.toList_none, List.nil_append]
  rw [e22_14]
theorem c_isGone {i : Nat} (hi : i < 8) (H : fdH np fr be fpg cov fcl fop h) : mW (mRo L xs) mTab 15 0 [some (.ref 12), some (.int (Int32.ofNat i))] [] h k = some (.inl (some (.int (if fpg i = none then 1 else 0))), h, k) := by
  have hin : 0 ≤ (Int32.ofNat i).toInt ∧ (Int32.ofNat i).toInt < (8 : Nat) := by rw [oi_int (by omega)]; omega
  rw [e15_0, e15_1, if_neg (oi_nneg (by omega)), e15_4, e15_5, e15_6, kF_eq H.1 (v := .ref 13) rfl, e15_9, kAL_r H.2.1 (Or.inl rfl), e15_10, if_neg (by rw [oi_le (by omega) (by omega)]; omega), e15_13, e15_14, kF_eq H.1 (v := .ref 13) rfl, e15_17, e15_18, kAA_r H.2.1 (Or.inl rfl) hin, oi_nat (by omega)]
  cases hf : fpg i with
  | none => dsimp only; rw [e15_19, e15_22, e15_23, e15_27 (Or.inr rfl), if_pos rfl]
  | some b => dsimp only; rw [e15_19r, e15_26, e15_27 (Or.inl rfl), if_neg (by simp)]
end
