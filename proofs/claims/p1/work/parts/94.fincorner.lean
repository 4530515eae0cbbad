section
variable {xs : Nat → Int32} {k : Nat} {h h1 h2 : List mCel} {fX fY fc fo fcl fcan : Nat → Int32}
-- corner
theorem cx_0 {x y : Int32} (hc : ¬ ((0 ≤ x ∧ x ≤ 16) ∧ (0 ≤ y ∧ y ≤ 16))) : mW (mRo 8 xs) mTab 42 0 [some (.ref 8), some (.int x), some (.int y)] [] (hL fX fY fc fo fcl fcan) 0 = some (.inr 0, hL fX fY fc fo fcl fcan, 1) := by
  rw [e42_0, e42_1, e42_2, e42_4 (by simp), c_isOutside]
  simp only [mAft, Option.toList_some, List.cons_append, List.nil_append]
  rw [e42_7]
  by_cases a : 0 ≤ x ∧ x ≤ 16
  · rw [pB_neg (fun z => out_in.1 z a), if_neg (not_not_intro rfl), e42_10, e42_11, e42_12, e42_14 (by simp), c_isOutside, pB_pos (out_in.2 (fun z => hc ⟨a, z⟩))]
    simp only [mAft, Option.toList_some, List.cons_append, List.nil_append]
    rw [e42_17, if_neg (by decide), e42_20 (by simp)]
  · rw [pB_pos (out_in.2 a), if_pos (by decide), e42_20 (by simp)]
theorem cn_0 {x y : Int32} (hc : (0 ≤ x ∧ x ≤ 16) ∧ (0 ≤ y ∧ y ≤ 16)) : ∃ h1, mW (mRo 8 xs) mTab 42 0 [some (.ref 8), some (.int x), some (.int y)] [] (hL fX fY fc fo fcl fcan) 0 = some (.inl (some (.int 1)), h1, 0) ∧ mKeep Pd (hL fX fY fc fo fcl fcan) h1 := by
  have K1 : mKeep Pd (hL fX fY fc fo fcl fcan) ((hL fX fY fc fo fcl fcan).set (40 - 8) (.inl (0, 6, .inl (upd (fun _ => 0) (Int32.toNatClampNeg 0) x)))) := keep_set x40 rfl (by unfold Pd; decide)
  have c39 := (cell_setne (d := .inl (0, 6, .inl (upd (fun _ => 0) (Int32.toNatClampNeg 0) x))) (show 40 ≠ 39 by decide) (by decide)).trans (x39 (fX := fX) (fY := fY) (fc := fc) (fo := fo) (fcl := fcl) (fcan := fcan))
  have c41 := (cell_setne (d := .inl (0, 6, .inl (upd (fun _ => 0) (Int32.toNatClampNeg 0) x))) (show 40 ≠ 41 by decide) (by decide)).trans (x41 (fX := fX) (fY := fY) (fc := fc) (fo := fo) (fcl := fcl) (fcan := fcan))
  have K2 : mKeep Pd _ _ := keep_set (d := .inl (0, 6, .inl (upd (fun _ => 0) (Int32.toNatClampNeg 0) y))) c41 rfl (show Pd 41 by unfold Pd; decide)
  have d39 := (cell_setne (d := .inl (0, 6, .inl (upd (fun _ => 0) (Int32.toNatClampNeg 0) y))) (show 41 ≠ 39 by decide) (by decide)).trans c39
  have K3 : mKeep Pd _ _ := keep_set (d := .inr (3, [.ref 40, .ref 41, .int 1])) d39 rfl (show Pd 39 by unfold Pd; decide)
  have e39 := cell_set (d := .inr (3, [.ref 40, .ref 41, .int 1])) d39
  have KK := keep_trans (keep_trans K1 K2) K3
  have X8 := (KK.2.2 8)
  have S1 : ∀ q : Nat → (Nat → Int32) → Option mOut, kIS (hL fX fY fc fo fcl fcan) 40 0 q = q 6 (fun _ => 0) := by
    intro q; unfold kIS; rw [x40]; rfl
  have S2 : ∀ q : Nat → (Nat → Int32) → Option mOut, kIS ((hL fX fY fc fo fcl fcan).set (40 - 8) (.inl (0, 6, .inl (upd (fun _ => 0) (Int32.toNatClampNeg 0) x)))) 41 0 q = q 6 (fun _ => 0) := by
    intro q; unfold kIS; rw [c41]; rfl
  have A1 : ∀ q : Int32 → Option mOut, kAL (mRo 8 xs) (hL fX fY fc fo fcl fcan) 40 q = q 6 := fun q => kAL_int x40
  have A2 : ∀ q : Int32 → Option mOut, kAL (mRo 8 xs) (hL fX fY fc fo fcl fcan) 41 q = q 6 := fun q => kAL_int x41
  refine ⟨_, ?_, KK⟩
  rw [e42_0, e42_1, e42_2, e42_4 (by simp), c_isOutside, pB_neg (fun z => out_in.1 z hc.1)]
  simp only [mAft, Option.toList_some, List.cons_append, List.nil_append]
  rw [e42_7, if_neg (not_not_intro rfl), e42_10, e42_11, e42_12, e42_14 (by simp), c_isOutside, pB_neg (fun z => out_in.1 z hc.2)]
  simp only [mAft, Option.toList_some, List.cons_append, List.nil_append]
  rw [e42_17, if_pos rfl, e42_30, e42_31, kF_eq x8 (v := .ref 39) rfl, e42_34 (kR_eq x39) (by simp), c_xcount]
  simp only [mAft, Option.toList_some, List.cons_append, List.nil_append]
  rw [e42_37, e42_39, if_pos (by decide), e42_52, e42_53, kF_eq x8 (v := .ref 39) rfl, e42_56, e42_57, e42_58 (kR_eq x39) (by simp)]
  rw [e175_0, e175_1, kF_eq x39 (v := .int 0) rfl, e175_4, if_neg (by decide), e175_7, e175_8, kF_eq x39 (v := .int 0) rfl, e175_11, e175_12, kF_eq x39 (v := .ref 40) rfl, e175_15, A1, e175_16, if_neg (by decide), e175_19, e175_20, kF_eq x39 (v := .int 0) rfl, e175_23, e175_24, kF_eq x39 (v := .ref 41) rfl, e175_27, A2, e175_28, if_neg (by decide)]
  rw [e175_31, e175_32, kF_eq x39 (v := .ref 40) rfl, e175_35, e175_36, kF_eq x39 (v := .int 0) rfl, e175_39, e175_40, S1, e175_41, e175_42, kF_eq c39 (v := .ref 41) rfl, e175_45, e175_46, kF_eq c39 (v := .int 0) rfl, e175_49, e175_50, S2]
  rw [e175_51, e175_52r, e175_53, kF_eq d39 (v := .int 0) rfl, e175_56, e175_57, e175_58, kP_eq d39 (by decide), e175_61]
  simp only [mAft, Option.toList_none, List.nil_append]
  have x8' : mCell ((((hL fX fY fc fo fcl fcan).set (40 - 8) (.inl (0, 6, .inl (upd (fun _ => 0) (Int32.toNatClampNeg 0) x)))).set (41 - 8) (.inl (0, 6, .inl (upd (fun _ => 0) (Int32.toNatClampNeg 0) y)))).set (39 - 8) (.inr (3, [.ref 40, .ref 41, .int 1]))) 8 = some (.inr (10, [.ref 12, .ref 17, .ref 18, .ref 27, .ref 28, .ref 33, .ref 35, .int 0, .ref 36, .int 0, .ref 39])) :=
    (cell_setne (by decide) (by decide)).trans ((cell_setne (by decide) (by decide)).trans ((cell_setne (by decide) (by decide)).trans x8))
  rw [show ([Value.ref 40, Value.ref 41, Value.int 0].set 2 (Value.int (0 + 1))) = [Value.ref 40, Value.ref 41, Value.int 1] from rfl, e42_61, e42_62, kF_eq x8' (v := .ref 39) rfl, e42_65 (kR_eq e39) (by simp), e178_0, e178_1, kF_eq e39 (v := .int 1) rfl, e178_4]
  simp only [mAft, Option.toList_some, List.cons_append, List.nil_append]
  rw [e42_68]
theorem d_and16 {x y : Int32} (st : List Value) (hst : (st.map Value.category).sum ≤ 2) : mW (mRo 8 xs) mTab 81 1 [some (.ref 42), some (.int x), some (.int y)] st h k = mW (mRo 8 xs) mTab 81 26 [some (.ref 42), some (.int x), some (.int y)] (.int (pB ((0 ≤ x ∧ x ≤ 16) ∧ (0 ≤ y ∧ y ≤ 16))) :: st) h k := by
  rw [e81_1, e81_2, e81_3, e81_5 (by omega), d_in]
  simp only [mAft, Option.toList_some, List.cons_append, List.nil_append]
  rw [e81_8]
  by_cases a : 0 ≤ x ∧ x ≤ 16
  · rw [pB_pos a, if_neg (by decide), e81_11, e81_12, e81_13, e81_15 (by omega), d_in]
    simp only [mAft, Option.toList_some, List.cons_append, List.nil_append]
    rw [e81_18]
    by_cases b : 0 ≤ y ∧ y ≤ 16
    · rw [pB_pos b, if_neg (by decide), e81_21, e81_22, pB_pos ⟨a, b⟩]
    · rw [pB_neg b, if_pos rfl, e81_25, pB_neg (fun z => b z.2)]
  · rw [pB_neg a, if_pos rfl, e81_25, pB_neg (fun z => a z.1)]
theorem dx_0 {x y : Int32} (hc : ¬ ((0 ≤ x ∧ x ≤ 16) ∧ (0 ≤ y ∧ y ≤ 16))) (M : mCell h 42 = some (.inr (11, mFS 42))) : mW (mRo 8 xs) mTab 81 0 [some (.ref 42), some (.int x), some (.int y)] [] h k = some (.inl (some (.int 0)), h.set (42 - 8) (.inr (11, (mFS 42).set 45 (.int 1))), k) := by
  rw [e81_0, d_and16 [.ref 42] (by simp [Value.category]), e81_26, e81_27, kF_eq M (v := .int 0) rfl, e81_30, e81_32, if_neg (by decide), e81_35, e81_36, e81_40, e81_41 (kR_eq M) (by simp), g_false M rfl hc]
  simp only [mAft, Option.toList_some, List.cons_append, List.nil_append]
  rw [e81_44, if_neg (not_not_intro rfl), e81_47, e81_48]
theorem dn_0 {x y : Int32} (hc : (0 ≤ x ∧ x ≤ 16) ∧ (0 ≤ y ∧ y ≤ 16)) (M : mCell h 42 = some (.inr (11, mFS 42))) (c43 : mCell h 43 = some (zI 6)) (c44 : mCell h 44 = some (zI 6)) : ∃ h2 fs, mW (mRo 8 xs) mTab 81 0 [some (.ref 42), some (.int x), some (.int y)] [] h k = some (.inl (some (.int 1)), h2, k) ∧ mKeep Pm h h2 ∧ mCell h2 42 = some (.inr (11, fs)) ∧ fs[45]? = some (.int 0) := by
  have M1 := cell_set (d := .inr (11, (mFS 42).set 45 (.int 0))) M
  have a43 := (cell_setne (d := .inr (11, (mFS 42).set 45 (.int 0))) (show 42 ≠ 43 by decide) (by decide)).trans c43
  have a44 := (cell_setne (d := .inr (11, (mFS 42).set 45 (.int 0))) (show 42 ≠ 44 by decide) (by decide)).trans c44
  have K2 : mKeep Pm _ _ := keep_set (d := .inl (0, 6, .inl (upd (fun _ => 0) (Int32.toNatClampNeg 0) x))) a43 rfl (show Pm 43 from ⟨by decide, by decide⟩)
  have M2 := (cell_setne (d := .inl (0, 6, .inl (upd (fun _ => 0) (Int32.toNatClampNeg 0) x))) (show 43 ≠ 42 by decide) (by decide)).trans M1
  have b44 := (cell_setne (d := .inl (0, 6, .inl (upd (fun _ => 0) (Int32.toNatClampNeg 0) x))) (show 43 ≠ 44 by decide) (by decide)).trans a44
  have K3 : mKeep Pm _ _ := keep_set (d := .inl (0, 6, .inl (upd (fun _ => 0) (Int32.toNatClampNeg 0) y))) b44 rfl (show Pm 44 from ⟨by decide, by decide⟩)
  have M3 := (cell_setne (d := .inl (0, 6, .inl (upd (fun _ => 0) (Int32.toNatClampNeg 0) y))) (show 44 ≠ 42 by decide) (by decide)).trans M2
  have K4 : mKeep Pm _ _ := keep_set (d := .inr (11, ((mFS 42).set 45 (.int 0)).set 0 (.int 1))) M3 rfl (show Pm 42 from ⟨by decide, by decide⟩)
  have M4 := cell_set (d := .inr (11, ((mFS 42).set 45 (.int 0)).set 0 (.int 1))) M3
  have S1 : ∀ q : Nat → (Nat → Int32) → Option mOut, kIS (h.set (42 - 8) (.inr (11, (mFS 42).set 45 (.int 0)))) 43 0 q = q 6 (fun _ => 0) := by
    intro q; unfold kIS; rw [a43]; rfl
  have S2 : ∀ q : Nat → (Nat → Int32) → Option mOut, kIS ((h.set (42 - 8) (.inr (11, (mFS 42).set 45 (.int 0)))).set (43 - 8) (.inl (0, 6, .inl (upd (fun _ => 0) (Int32.toNatClampNeg 0) x)))) 44 0 q = q 6 (fun _ => 0) := by
    intro q; unfold kIS; rw [b44]; rfl
  refine ⟨_, _, ?_, keep_trans (keep_trans (keep_trans (g_keep (v := 0) M) K2) K3) K4, M4, rfl⟩
  rw [e81_0, d_and16 [.ref 42] (by simp [Value.category]), e81_26, e81_27, kF_eq M (v := .int 0) rfl, e81_30, e81_32, if_neg (by decide), e81_35, e81_36, e81_40, e81_41 (kR_eq M) (by simp), g_true M rfl hc]
  simp only [mAft, Option.toList_some, List.cons_append, List.nil_append]
  rw [e81_44, if_pos (by decide), e81_49, e81_50, kF_eq M1 (v := .ref 43) rfl, e81_53, e81_54, kF_eq M1 (v := .int 0) rfl, e81_57, e81_58, S1, e81_59, e81_60, kF_eq M2 (v := .ref 44) rfl, e81_63, e81_64, kF_eq M2 (v := .int 0) rfl, e81_67, e81_68, S2]
  rw [e81_69, e81_70r, e81_71, kF_eq M3 (v := .int 0) rfl, e81_74, e81_75, show (0 : Int32) + 1 = 1 from rfl, e81_76, kP_eq M3 (by decide), e81_79, e81_80, kF_eq M4 (v := .int 1) rfl, e81_83]
theorem fin_0 : lawEnd xs 160 (hL fX fY fc fo fcl fcan) := by
  by_cases z : (0 ≤ xs 1 ∧ xs 1 ≤ 16) ∧ (0 ≤ xs 2 ∧ xs 2 ≤ 16)
  · obtain ⟨h1, C1, C2⟩ := cn_0 (xs := xs) (fX := fX) (fY := fY) (fc := fc) (fo := fo) (fcl := fcl) (fcan := fcan) z
    have KO := out_K C2 (v := (1 : Int32).toInt64)
    obtain ⟨h2, fs, D1, D2, D3, D4⟩ := dn_0 (xs := xs) (k := 0) z (m_of KO ⟨Nat.le_refl _, by decide⟩ x42) (m_of KO ⟨by decide, by decide⟩ x43) (m_of KO ⟨by decide, by decide⟩ x44)
    obtain ⟨l7, E⟩ := lc_0 (hn_234 (kR_eq x8) C1 (out_0 C2)) (m_of KO ⟨Nat.le_refl _, by decide⟩ x42) D1 D3 D4 (fun _ => out_O C2 D2)
    exact fin_n C2 D2 E
  · obtain ⟨l7, E⟩ := lc_0 (hx_234_0 (kR_eq x8) (cx_0 z)) x42 (dx_0 z x42) (cell_set x42) rfl (fun z => absurd z (by decide))
    exact end_of E x_keep.1 x_keep.2.1 (by decide)
end
