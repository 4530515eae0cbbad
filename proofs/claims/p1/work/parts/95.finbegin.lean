section
variable {xs : Nat → Int32} {k : Nat} {h h1 h2 : List mCel} {fX fY fc fo fcl fcan : Nat → Int32}
-- speeds
theorem sp_and {a b c d : Int32} : mW (mRo 8 xs) mTab 132 1 [some (.ref 42), some (.int a), some (.int b), some (.int c), some (.int d)] [.ref 42] h k = mW (mRo 8 xs) mTab 132 51 [some (.ref 42), some (.int a), some (.int b), some (.int c), some (.int d)] [.int (pB ((1 ≤ a ∧ a ≤ 10000) ∧ (1 ≤ b ∧ b ≤ 10000) ∧ (1 ≤ c ∧ c ≤ 1000) ∧ (1 ≤ d ∧ d ≤ 1000))), .ref 42] h k := by
  rw [e132_1, e132_2, e132_3, e132_6 (by simp [Value.category]), d_in]
  simp only [mAft, Option.toList_some, List.cons_append, List.nil_append]
  rw [e132_9]
  by_cases p1 : 1 ≤ a ∧ a ≤ 10000
  · rw [pB_pos p1, if_neg (by decide), e132_12, e132_13, e132_14, e132_17 (by simp [Value.category]), d_in]
    simp only [mAft, Option.toList_some, List.cons_append, List.nil_append]
    rw [e132_20]
    by_cases p2 : 1 ≤ b ∧ b ≤ 10000
    · rw [pB_pos p2, if_neg (by decide), e132_23, e132_24, e132_25, e132_28 (by simp [Value.category]), d_in]
      simp only [mAft, Option.toList_some, List.cons_append, List.nil_append]
      rw [e132_31]
      by_cases p3 : 1 ≤ c ∧ c ≤ 1000
      · rw [pB_pos p3, if_neg (by decide), e132_34, e132_36, e132_37, e132_40 (by simp [Value.category]), d_in]
        simp only [mAft, Option.toList_some, List.cons_append, List.nil_append]
        rw [e132_43]
        by_cases p4 : 1 ≤ d ∧ d ≤ 1000
        · rw [pB_pos p4, if_neg (by decide), e132_46, e132_47, pB_pos ⟨p1, p2, p3, p4⟩]
        · rw [pB_neg p4, if_pos rfl, e132_50, pB_neg (fun z => p4 z.2.2.2)]
      · rw [pB_neg p3, if_pos rfl, e132_50, pB_neg (fun z => p3 z.2.2.1)]
    · rw [pB_neg p2, if_pos rfl, e132_50, pB_neg (fun z => p2 z.2.1)]
  · rw [pB_neg p1, if_pos rfl, e132_50, pB_neg (fun z => p1 z.1)]
theorem c_spd {a b c d : Int32} : ∃ h1, mW (mRo 8 xs) mTab 66 0 [some (.ref 8), some (.int a), some (.int b), some (.int c), some (.int d)] [] (hL fX fY fc fo fcl fcan) 0 = (if (1 ≤ a ∧ a ≤ 10000) ∧ (1 ≤ b ∧ b ≤ 10000) ∧ (1 ≤ c ∧ c ≤ 1000) ∧ (1 ≤ d ∧ d ≤ 1000) then some (.inl none, h1, 0) else some (.inr 0, hL fX fY fc fo fcl fcan, 1)) ∧ mKeep Pd (hL fX fY fc fo fcl fcan) h1 := by
  have e1 := cell_set (d := .inr (2, [.int a, .int 25, .int 2, .int 3, .ref 34])) (x33 (fX := fX) (fY := fY) (fc := fc) (fo := fo) (fcl := fcl) (fcan := fcan))
  refine ⟨(hL fX fY fc fo fcl fcan).set (33 - 8) (.inr (2, [.int a, .int b, .int c, .int d, .ref 34])), ?_, keep_set x33 rfl (by unfold Pd; decide)⟩
  rw [e66_0, e66_1, e66_2, e66_5 (by simp), c_isOutside]
  simp only [mAft, Option.toList_some, List.cons_append, List.nil_append]
  rw [e66_8]
  by_cases p1 : 1 ≤ a ∧ a ≤ 10000
  · rw [pB_neg (fun z => out_in.1 z p1), if_neg (not_not_intro rfl), e66_11, e66_12, e66_13, e66_16 (by simp), c_isOutside]
    simp only [mAft, Option.toList_some, List.cons_append, List.nil_append]
    rw [e66_19]
    by_cases p2 : 1 ≤ b ∧ b ≤ 10000
    · rw [pB_neg (fun z => out_in.1 z p2), if_pos rfl, e66_33, e66_34, e66_35, e66_38 (by simp), c_isOutside]
      simp only [mAft, Option.toList_some, List.cons_append, List.nil_append]
      rw [e66_41]
      by_cases p3 : 1 ≤ c ∧ c ≤ 1000
      · rw [pB_neg (fun z => out_in.1 z p3), if_neg (not_not_intro rfl), e66_44, e66_46, e66_47, e66_50 (by simp), c_isOutside]
        simp only [mAft, Option.toList_some, List.cons_append, List.nil_append]
        rw [e66_53]
        by_cases p4 : 1 ≤ d ∧ d ≤ 1000
        · rw [pB_neg (fun z => out_in.1 z p4), if_pos rfl, if_pos ⟨p1, p2, p3, p4⟩, e66_67, e66_68, kF_eq x8 (v := .ref 33) rfl, e66_71, e66_72, e66_73, e66_74, e66_76 (kR_eq x33) (by simp)]
          rw [e173_0, e173_1, e173_2, kP_eq x33 (by decide), e173_5, e173_6, e173_7, kP_eq (cell_set x33) (by simp), List.set_set, e173_10, e173_11, e173_12, kP_eq (cell_set x33) (by simp), List.set_set, e173_15, e173_16, e173_18, kP_eq (cell_set x33) (by simp), List.set_set, e173_21]
          simp only [mAft, Option.toList_none, List.nil_append]
          rw [e66_79]
          rfl
        · rw [pB_pos (out_in.2 p4), if_neg (by decide), if_neg (fun z => p4 z.2.2.2), e66_56 (by simp)]
      · rw [pB_pos (out_in.2 p3), if_pos (by decide), if_neg (fun z => p3 z.2.2.1), e66_56 (by simp)]
    · rw [pB_pos (out_in.2 p2), if_neg (by decide), if_neg (fun z => p2 z.2.1), e66_22 (by simp)]
  · rw [pB_pos (out_in.2 p1), if_pos (by decide), if_neg (fun z => p1 z.1), e66_22 (by simp)]
theorem dx_22 {a b c d : Int32} (hc : ¬ ((1 ≤ a ∧ a ≤ 10000) ∧ (1 ≤ b ∧ b ≤ 10000) ∧ (1 ≤ c ∧ c ≤ 1000) ∧ (1 ≤ d ∧ d ≤ 1000))) (M : mCell h 42 = some (.inr (11, mFS 42))) : mW (mRo 8 xs) mTab 132 0 [some (.ref 42), some (.int a), some (.int b), some (.int c), some (.int d)] [] h k = some (.inl none, h.set (42 - 8) (.inr (11, (mFS 42).set 45 (.int 1))), k) := by
  rw [e132_0, sp_and, e132_51, e132_52, e132_53 (kR_eq M) (by simp), g_false M rfl hc]
  simp only [mAft, Option.toList_some, List.cons_append, List.nil_append]
  rw [e132_56, if_pos rfl, e132_80]
theorem dn_22 {a b c d : Int32} (hc : (1 ≤ a ∧ a ≤ 10000) ∧ (1 ≤ b ∧ b ≤ 10000) ∧ (1 ≤ c ∧ c ≤ 1000) ∧ (1 ≤ d ∧ d ≤ 1000)) (M : mCell h 42 = some (.inr (11, mFS 42))) : ∃ fs, mW (mRo 8 xs) mTab 132 0 [some (.ref 42), some (.int a), some (.int b), some (.int c), some (.int d)] [] h k = some (.inl none, h.set (42 - 8) (.inr (11, fs)), k) ∧ fs.length = 46 ∧ fs[45]? = some (.int 0) := by
  have M1 := cell_set (d := .inr (11, (mFS 42).set 45 (.int 0))) M
  refine ⟨(((((mFS 42).set 45 (.int 0)).set 12 (.int a)).set 13 (.int b)).set 14 (.int c)).set 15 (.int d), ?_, rfl, rfl⟩
  rw [e132_0, sp_and, e132_51, e132_52, e132_53 (kR_eq M) (by simp), g_true M rfl hc]
  simp only [mAft, Option.toList_some, List.cons_append, List.nil_append]
  rw [e132_56, if_neg (by decide), e132_59, e132_60, e132_61, kP_eq M1 (by decide), List.set_set, e132_64, e132_65, e132_66, kP_eq (cell_set M) (by simp [mFS]), List.set_set, e132_69, e132_70, e132_71, kP_eq (cell_set M) (by simp [mFS]), List.set_set, e132_74, e132_75, e132_77, kP_eq (cell_set M) (by simp [mFS]), List.set_set, e132_80]
theorem fin_22 : lawEnd xs 1762 (hL fX fY fc fo fcl fcan) := by
  obtain ⟨h1, C1, C2⟩ := c_spd (xs := xs) (a := xs 1) (b := xs 2) (c := xs 3) (d := xs 4) (fX := fX) (fY := fY) (fc := fc) (fo := fo) (fcl := fcl) (fcan := fcan)
  by_cases z : (1 ≤ xs 1 ∧ xs 1 ≤ 10000) ∧ (1 ≤ xs 2 ∧ xs 2 ≤ 10000) ∧ (1 ≤ xs 3 ∧ xs 3 ≤ 1000) ∧ (1 ≤ xs 4 ∧ xs 4 ≤ 1000)
  · rw [if_pos z] at C1
    have M : mCell h1 42 = some (.inr (11, mFS 42)) := (C2.2.2 42 (by unfold Pd; decide)).trans x42
    obtain ⟨fs, D1, D2, D3⟩ := dn_22 (xs := xs) (k := 0) z M
    have K : mKeep Pm h1 (h1.set (42 - 8) (.inr (11, fs))) := keep_set M (by show fs.length = _; rw [D2]; rfl) ⟨by decide, by decide⟩
    obtain ⟨l7, E⟩ := lc_22 (hn_251 (kR_eq x8) C1) M D1 (cell_set M) D3
    exact end_of E (K.1.trans C2.1) (K.2.1.trans C2.2.1) (by decide)
  · rw [if_neg z] at C1
    obtain ⟨l7, E⟩ := lc_22 (hx_251_0 (kR_eq x8) C1) x42 (dx_22 z x42) (cell_set x42) rfl
    exact end_of E x_keep.1 x_keep.2.1 (by decide)
-- begin
theorem fin_14 (hf : ∀ j, j < 2048 → fo j = p1Fo j) : lawEnd xs 1274 (hL fX fY fc fo fcl fcan) := by
  rcases pose_cases (xs 1) (xs 2) (xs 3) with ⟨z, p, hp, e, hn, e1, e2, e3, e4⟩ | ⟨z, hn⟩
  · have O := c_isOpen (L := 8) (xs := xs) (k := 0) (p := Int32.ofNat p) (x12 (fX := fX) (fY := fY) (fc := fc) (fo := fo) (fcl := fcl) (fcan := fcan)) rfl x16
    have o := op_eq hf hp
    have M := x42 (fX := fX) (fY := fY) (fc := fc) (fo := fo) (fcl := fcl) (fcan := fcan)
    have FR := fun (k : Nat) => free_at (xs := xs) (k := k) hp (fs := mFS 42) rfl rfl rfl M x49
    have FR2 := fun (k : Nat) (h : List mCel) (M : mCell h 42 = some (.inr (11, mFS 42))) (B : mCell h 49 = some (.inl (1, 256, .inl fun _ => 0))) => free_at (xs := xs) (k := k) hp (fs := mFS 42) rfl rfl rfl M B
    by_cases y : opN p = true
    · -- free
      have S1 : ∀ q : Nat → (Nat → Int32) → Option mOut, ∀ h : List mCel, mCell h 37 = some (zI 64) → kIS h 37 0 q = q 64 (fun _ => 0) := by
        intro q h hc; unfold kIS; rw [hc]; rfl
      have c36 := cell_set (d := .inr (6, [.ref 37, .ref 38, .int 0])) (x36 (fX := fX) (fY := fY) (fc := fc) (fo := fo) (fcl := fcl) (fcan := fcan))
      have c37 := (cell_setne (d := .inr (6, [.ref 37, .ref 38, .int 0])) (show 36 ≠ 37 by decide) (by decide)).trans (x37 (fX := fX) (fY := fY) (fc := fc) (fo := fo) (fcl := fcl) (fcan := fcan))
      have c8 := (cell_setne (d := .inr (6, [.ref 37, .ref 38, .int 0])) (show 36 ≠ 8 by decide) (by decide)).trans (x8 (fX := fX) (fY := fY) (fc := fc) (fo := fo) (fcl := fcl) (fcan := fcan))
      have K1 : mKeep Pd _ _ := keep_set (d := .inr (6, [.ref 37, .ref 38, .int 0])) (x36 (fX := fX) (fY := fY) (fc := fc) (fo := fo) (fcl := fcl) (fcan := fcan)) rfl (show Pd 36 by unfold Pd; decide)
      have K2 : mKeep Pd _ _ := keep_set (d := .inl (0, 64, .inl (upd (fun _ => 0) (Int32.toNatClampNeg 0) (Int32.ofNat p)))) c37 rfl (show Pd 37 by unfold Pd; decide)
      have d8 := (cell_setne (d := .inl (0, 64, .inl (upd (fun _ => 0) (Int32.toNatClampNeg 0) (Int32.ofNat p)))) (show 37 ≠ 8 by decide) (by decide)).trans c8
      have K3 : mKeep Pd _ _ := keep_set (d := .inr (10, [.ref 12, .ref 17, .ref 18, .ref 27, .ref 28, .ref 33, .ref 35, .int 0, .ref 36, .int 1, .ref 39])) d8 rfl (show Pd 8 by unfold Pd; decide)
      have KK := keep_trans (keep_trans K1 K2) K3
      have C : mW (mRo 8 xs) mTab 38 0 [some (.ref 8), some (.int (xs 1)), some (.int (xs 2)), some (.int (xs 3)), none] [] (hL fX fY fc fo fcl fcan) 0 = some (.inl none, ((((hL fX fY fc fo fcl fcan).set (36 - 8) (.inr (6, [.ref 37, .ref 38, .int 0]))).set (37 - 8) (.inl (0, 64, .inl (upd (fun _ => 0) (Int32.toNatClampNeg 0) (Int32.ofNat p))))).set (8 - 8) (.inr (10, [.ref 12, .ref 17, .ref 18, .ref 27, .ref 28, .ref 33, .ref 35, .int 0, .ref 36, .int 1, .ref 39]))), 0) := by
        rw [e38_0, e38_1, e38_2, e38_3 (by simp), c_reqPose, if_neg hn, e]
        simp only [mAft, Option.toList_some, List.cons_append, List.nil_append]
        rw [e38_6, e38_8, e38_9, kF_eq x8 (v := .ref 12) rfl, e38_12, e38_14 (kR_eq x12) (by simp), O]
        simp only [mAft, Option.toList_some, List.cons_append, List.nil_append]
        rw [if_pos (o.2 y), e38_17, if_pos (by decide), e38_30, e38_31, kF_eq x8 (v := .ref 36) rfl, e38_34, e38_36 (kR_eq x36) (by simp)]
        rw [e213_0, e213_1, e213_2, kP_eq x36 (by decide), show ([Value.ref 37, Value.ref 38, Value.int 0].set 2 (Value.int 0)) = [Value.ref 37, Value.ref 38, Value.int 0] from rfl, e213_5, e213_6, kF_eq c36 (v := .ref 37) rfl, e213_9, kAL_int c37, e213_10, if_neg (by decide), e213_13, e213_14, kF_eq c36 (v := .ref 37) rfl, e213_17, e213_18, e213_19, S1 _ _ c37, e213_20]
        simp only [mAft, Option.toList_none, List.nil_append]
        rw [e38_39, e38_40, e38_41 (Or.inr rfl), kP_eq d8 (by decide), e38_44]
        rfl
      have M1 := (KK.2.2 42 (by unfold Pd; decide)).trans M
      have B1 := (KK.2.2 49 (by unfold Pd; decide)).trans x49
      generalize ((((hL fX fY fc fo fcl fcan).set (36 - 8) (.inr (6, [.ref 37, .ref 38, .int 0]))).set (37 - 8) (.inl (0, 64, .inl (upd (fun _ => 0) (Int32.toNatClampNeg 0) (Int32.ofNat p))))).set (8 - 8) (.inr (10, [.ref 12, .ref 17, .ref 18, .ref 27, .ref 28, .ref 33, .ref 35, .int 0, .ref 36, .int 1, .ref 39]))) = g1 at C KK M1 B1
      have M2 := cell_set (d := .inr (11, (mFS 42).set 45 (.int 0))) M1
      have G := d_goes (L := 8) (xs := xs) (k := 0) (P1 := ((0 ≤ xs 1 ∧ xs 1 ≤ 15) ∧ 0 ≤ xs 2 ∧ xs 2 ≤ 15) ∧ 0 ≤ xs 3 ∧ xs 3 ≤ 7) (P2 := True) (P3 := True) M1 rfl
      rw [pB_pos z, pB_pos (show (((0 ≤ xs 1 ∧ xs 1 ≤ 15) ∧ 0 ≤ xs 2 ∧ xs 2 ≤ 15) ∧ 0 ≤ xs 3 ∧ xs 3 ≤ 7) ∧ True ∧ True from ⟨z, trivial, trivial⟩), show pB True = 1 from rfl, show qT (((0 ≤ xs 1 ∧ xs 1 ≤ 15) ∧ 0 ≤ xs 2 ∧ xs 2 ≤ 15) ∧ 0 ≤ xs 3 ∧ xs 3 ≤ 7) True True = 0 by unfold qT; rw [if_pos z]; rfl] at G
      have D : ∃ fs, mW (mRo 8 xs) mTab 72 0 [some (.ref 42), some (.int (xs 1)), some (.int (xs 2)), some (.int (xs 3)), none] [] g1 0 = some (.inl none, g1.set (42 - 8) (.inr (11, fs)), 0) ∧ fs.length = 46 ∧ fs[45]? = some (.int 0) := by
        refine ⟨(((((mFS 42).set 45 (.int 0)).set 36 (.int 1)).set 37 (.int (256 * xs 3 + 16 * xs 2 + xs 1))).set 38 (.int (256 * xs 3 + 16 * xs 2 + xs 1))).set 39 (.int 0), ?_, rfl, rfl⟩
        rw [e72_0, e72_1, e72_2, e72_3 (by simp), d_isPose, pB_pos z]
        simp only [mAft, Option.toList_some, List.cons_append, List.nil_append]
        have FF : mW (mRo 8 xs) mTab 107 0 [some (.ref 42), some (.int (xs 1)), some (.int (xs 2)), some (.int (xs 3)), none, none, none, none] [] g1 0 = some (.inl (some (.int (if opN p = true then 1 else 0))), g1, 0) := by
          rw [e1, e2, e3]; exact FR2 0 g1 M1 B1
        rw [e72_6, e72_8, e72_9, e72_11, e72_13, if_neg (by decide), e72_16, e72_17, e72_18, e72_19, e72_20 (kR_eq M1) (by simp [Value.category]), FF, if_pos y]
        simp only [mAft, Option.toList_some, List.cons_append, List.nil_append]
        rw [e72_23, if_neg (by decide), e72_26, e72_27, e72_31, e72_32 (kR_eq M1) (by simp), G]
        simp only [mAft, Option.toList_some, List.cons_append, List.nil_append]
        rw [e72_35, if_neg (by decide), e72_38, e72_39, e72_40 (Or.inr rfl), kP_eq M2 (by decide), List.set_set, e72_43, e72_44, e72_45, e72_46, e72_47 (by simp [Value.category]), d_poseAt]
        simp only [mAft, Option.toList_some, List.cons_append, List.nil_append]
        rw [e72_50, kP_eq (cell_set M1) (by simp [mFS]), List.set_set, e72_53, e72_54, e72_55, kF_eq (cell_set M1) (v := .int (256 * xs 3 + 16 * xs 2 + xs 1)) rfl, e72_58, kP_eq (cell_set M1) (by simp [mFS]), List.set_set, e72_61, e72_62, e72_63, kP_eq (cell_set M1) (by simp [mFS]), List.set_set, e72_66]
      obtain ⟨fs, D1, D2, D3⟩ := D
      have K4 : mKeep Pm g1 (g1.set (42 - 8) (.inr (11, fs))) := keep_set M1 (by show fs.length = _; rw [D2]; rfl) ⟨by decide, by decide⟩
      obtain ⟨l7, E⟩ := lc_14 (hn_230 (kR_eq x8) C) M1 D1 (cell_set M1) D3
      exact end_of E (K4.1.trans KK.1) (K4.2.1.trans KK.2.1) (by decide)
    · have C : mW (mRo 8 xs) mTab 38 0 [some (.ref 8), some (.int (xs 1)), some (.int (xs 2)), some (.int (xs 3)), none] [] (hL fX fY fc fo fcl fcan) 0 = some (.inr 1, hL fX fY fc fo fcl fcan, 1) := by
        rw [e38_0, e38_1, e38_2, e38_3 (by simp), c_reqPose, if_neg hn, e]
        simp only [mAft, Option.toList_some, List.cons_append, List.nil_append]
        rw [e38_6, e38_8, e38_9, kF_eq x8 (v := .ref 12) rfl, e38_12, e38_14 (kR_eq x12) (by simp), O]
        simp only [mAft, Option.toList_some, List.cons_append, List.nil_append]
        rw [if_neg (fun q => y (o.1 q)), e38_17, if_neg (not_not_intro rfl), e38_20 (by simp)]
      have G := d_goes (L := 8) (xs := xs) (k := 1) (P1 := ((0 ≤ xs 1 ∧ xs 1 ≤ 15) ∧ 0 ≤ xs 2 ∧ xs 2 ≤ 15) ∧ 0 ≤ xs 3 ∧ xs 3 ≤ 7) (P2 := False) (P3 := True) M rfl
      rw [pB_pos z, pB_neg (fun w : (((0 ≤ xs 1 ∧ xs 1 ≤ 15) ∧ 0 ≤ xs 2 ∧ xs 2 ≤ 15) ∧ 0 ≤ xs 3 ∧ xs 3 ≤ 7) ∧ False ∧ True => w.2.1), show pB True = 1 from rfl, show pB False = 0 from rfl, show qT (((0 ≤ xs 1 ∧ xs 1 ≤ 15) ∧ 0 ≤ xs 2 ∧ xs 2 ≤ 15) ∧ 0 ≤ xs 3 ∧ xs 3 ≤ 7) False True = 2 by unfold qT; rw [if_pos z]; rfl] at G
      have FF : mW (mRo 8 xs) mTab 107 0 [some (.ref 42), some (.int (xs 1)), some (.int (xs 2)), some (.int (xs 3)), none, none, none, none] [] (hL fX fY fc fo fcl fcan) 1 = some (.inl (some (.int (if opN p = true then 1 else 0))), (hL fX fY fc fo fcl fcan), 1) := by
        rw [e1, e2, e3]; exact FR 1
      have D : mW (mRo 8 xs) mTab 72 0 [some (.ref 42), some (.int (xs 1)), some (.int (xs 2)), some (.int (xs 3)), none] [] (hL fX fY fc fo fcl fcan) 1 = some (.inl none, (hL fX fY fc fo fcl fcan).set (42 - 8) (.inr (11, (mFS 42).set 45 (.int 2))), 1) := by
        rw [e72_0, e72_1, e72_2, e72_3 (by simp), d_isPose, pB_pos z]
        simp only [mAft, Option.toList_some, List.cons_append, List.nil_append]
        rw [e72_6, e72_8, e72_9, e72_11, e72_13, if_neg (by decide), e72_16, e72_17, e72_18, e72_19, e72_20 (kR_eq M) (by simp [Value.category]), FF, if_neg y]
        simp only [mAft, Option.toList_some, List.cons_append, List.nil_append]
        rw [e72_23, if_pos rfl, e72_30, e72_31, e72_32 (kR_eq M) (by simp), G]
        simp only [mAft, Option.toList_some, List.cons_append, List.nil_append]
        rw [e72_35, if_pos rfl, e72_66]
      obtain ⟨l7, E⟩ := lc_14 (hx_230_1 (kR_eq x8) C) M D (cell_set M) rfl
      exact end_of E x_keep.1 x_keep.2.1 (by decide)
  · have M := x42 (fX := fX) (fY := fY) (fc := fc) (fo := fo) (fcl := fcl) (fcan := fcan)
    have C : mW (mRo 8 xs) mTab 38 0 [some (.ref 8), some (.int (xs 1)), some (.int (xs 2)), some (.int (xs 3)), none] [] (hL fX fY fc fo fcl fcan) 0 = some (.inr 2, hL fX fY fc fo fcl fcan, 1) := by
      rw [e38_0, e38_1, e38_2, e38_3 (by simp), c_reqPose, if_pos hn]; rfl
    have G := d_goes (L := 8) (xs := xs) (k := 1) (P1 := ((0 ≤ xs 1 ∧ xs 1 ≤ 15) ∧ 0 ≤ xs 2 ∧ xs 2 ≤ 15) ∧ 0 ≤ xs 3 ∧ xs 3 ≤ 7) (P2 := False) (P3 := True) M rfl
    rw [pB_neg z, pB_neg (fun w : (((0 ≤ xs 1 ∧ xs 1 ≤ 15) ∧ 0 ≤ xs 2 ∧ xs 2 ≤ 15) ∧ 0 ≤ xs 3 ∧ xs 3 ≤ 7) ∧ False ∧ True => w.2.1), show pB True = 1 from rfl, show pB False = 0 from rfl, show qT (((0 ≤ xs 1 ∧ xs 1 ≤ 15) ∧ 0 ≤ xs 2 ∧ xs 2 ≤ 15) ∧ 0 ≤ xs 3 ∧ xs 3 ≤ 7) False True = 1 by unfold qT; rw [if_neg z]] at G
    have D : mW (mRo 8 xs) mTab 72 0 [some (.ref 42), some (.int (xs 1)), some (.int (xs 2)), some (.int (xs 3)), none] [] (hL fX fY fc fo fcl fcan) 1 = some (.inl none, (hL fX fY fc fo fcl fcan).set (42 - 8) (.inr (11, (mFS 42).set 45 (.int 1))), 1) := by
      rw [e72_0, e72_1, e72_2, e72_3 (by simp), d_isPose, pB_neg z]
      simp only [mAft, Option.toList_some, List.cons_append, List.nil_append]
      rw [e72_6, e72_8, e72_9, e72_11, e72_13, if_pos rfl, e72_30, e72_31, e72_32 (kR_eq M) (by simp), G]
      simp only [mAft, Option.toList_some, List.cons_append, List.nil_append]
      rw [e72_35, if_pos rfl, e72_66]
    obtain ⟨l7, E⟩ := lc_14 (hx_230_2 (kR_eq x8) C) M D (cell_set M) rfl
    exact end_of E x_keep.1 x_keep.2.1 (by decide)
end
