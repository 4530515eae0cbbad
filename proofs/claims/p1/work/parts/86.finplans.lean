section
variable {xs : Nat → Int32} {k : Nat} {h : List mCel} {fX fY fc fo fcl fcan : Nat → Int32}
theorem d_isPlan {p : Int32} : mW (mRo 8 xs) mTab 108 0 [some (.ref 42), some (.int p)] [] (hL fX fY fc fo fcl fcan) k = some (.inl (some (.int 0)), hL fX fY fc fo fcl fcan, k) := by
  rw [e108_0, e108_1, e108_2, e108_3, kF_eq x42 (v := .int 0) rfl, e108_6, e108_7, e108_8 (by simp), d_in]
  simp only [mAft, Option.toList_some, List.cons_append, List.nil_append]
  have z : pB (0 ≤ p ∧ p ≤ 0 - 1) = 0 := pB_neg (fun z => by
    have h1 := Int32.le_iff_toInt_le.1 z.1
    have h2 := Int32.le_iff_toInt_le.1 z.2
    have e1 : (0 : Int32).toInt = 0 := rfl
    have e2 : ((0 : Int32) - 1).toInt = -1 := rfl
    omega)
  rw [z, e108_11 (Or.inl rfl)]
theorem d_isAt {p q r : Int32} : mW (mRo 8 xs) mTab 102 0 [some (.ref 42), some (.int p), some (.int q), some (.int r)] [] (hL fX fY fc fo fcl fcan) k = some (.inl (some (.int 0)), hL fX fY fc fo fcl fcan, k) := by
  rw [e102_0, e102_1, e102_2 (kR_eq x42) (by simp), d_isPlan]
  simp only [mAft, Option.toList_some, List.cons_append, List.nil_append]
  rw [e102_5, if_pos rfl, e102_40, e102_41 (Or.inl rfl)]
theorem pB_F : (0 : Int32) = pB False := rfl
theorem pB_T : (1 : Int32) = pB True := rfl
theorem cx_17 : mW (mRo 8 xs) mTab 64 0 [some (.ref 8), some (.int (xs 1)), none] [] (hL fX fY fc fo fcl fcan) 0 = some (.inr 2, hL fX fY fc fo fcl fcan, 1) := by
  rw [e64_0, e64_1, e64_2 (kR_eq x8) (by simp), c_reqPlan]
  rfl
theorem dx_17 : mW (mRo 8 xs) mTab 129 0 [some (.ref 42), some (.int (xs 1)), none, none, none] [] (hL fX fY fc fo fcl fcan) 1 = some (.inl (some (.int 0)), (hL fX fY fc fo fcl fcan).set (42 - 8) (.inr (11, (mFS 42).set 45 (.int 1))), 1) := by
  rw [e129_0, e129_1, e129_2, e129_3 (kR_eq x42) (by simp [Value.category]), d_isPlan]
  simp only [mAft, Option.toList_some, List.cons_append, List.nil_append]
  rw [e129_6, e129_7, e129_8 (kR_eq x42) (by simp [Value.category]), d_isPlan]
  simp only [mAft, Option.toList_some, List.cons_append, List.nil_append]
  rw [e129_11, if_pos rfl, e129_26, e129_27, pB_F, pB_T, e129_28 (kR_eq x42) (by simp), d_goes x42 rfl]
  simp only [mAft, Option.toList_some, List.cons_append, List.nil_append]
  rw [e129_31, pB_neg (fun z => z.1), if_neg (not_not_intro rfl), e129_34, e129_35]
  rfl
theorem fin_17 : lawEnd xs 1434 (hL fX fY fc fo fcl fcan) := by
  have K := k_goes (P1 := False) (P2 := True) (P3 := True) (x42 (fX := fX) (fY := fY) (fc := fc) (fo := fo) (fcl := fcl) (fcan := fcan)) rfl
  obtain ⟨l7, E⟩ := lc_17 (hx_249_2 (kR_eq x8) cx_17) x42 dx_17 (cell_set x42) rfl (fun z => absurd z (by decide))
  exact end_of E K.1 K.2.1 (by decide)
theorem cx_18 : mW (mRo 8 xs) mTab 55 0 [some (.ref 8), some (.int (xs 1)), some (.int (xs 2)), none] [] (hL fX fY fc fo fcl fcan) 0 = some (.inr 2, hL fX fY fc fo fcl fcan, 1) := by
  rw [e55_0, e55_1, e55_2 (kR_eq x8) (by simp), c_reqPlan]
  rfl
theorem dx_18 : mW (mRo 8 xs) mTab 123 0 [some (.ref 42), some (.int (xs 1)), some (.int (xs 2))] [] (hL fX fY fc fo fcl fcan) 1 = some (.inl (some (.int 0)), (hL fX fY fc fo fcl fcan).set (42 - 8) (.inr (11, (mFS 42).set 45 (.int 1))), 1) := by
  rw [e123_0, e123_1, e123_2, e123_3 (kR_eq x42) (by simp [Value.category]), d_isPlan]
  simp only [mAft, Option.toList_some, List.cons_append, List.nil_append]
  rw [e123_6, e123_7, e123_8, e123_9 (by simp [Value.category]), d_in]
  simp only [mAft, Option.toList_some, List.cons_append, List.nil_append]
  rw [e123_12, pB_F, pB_T, e123_13 (kR_eq x42) (by simp), d_goes x42 rfl]
  simp only [mAft, Option.toList_some, List.cons_append, List.nil_append]
  rw [e123_16, pB_neg (fun z => z.1), if_neg (not_not_intro rfl), e123_19, e123_20]
  rfl
theorem fin_18 : lawEnd xs 1490 (hL fX fY fc fo fcl fcan) := by
  have K := k_goes (P1 := False) (P2 := True) (P3 := True) (x42 (fX := fX) (fY := fY) (fc := fc) (fo := fo) (fcl := fcl) (fcan := fcan)) rfl
  obtain ⟨l7, E⟩ := lc_18 (hx_245_2 (kR_eq x8) cx_18) x42 dx_18 (cell_set x42) rfl (fun z => absurd z (by decide))
  exact end_of E K.1 K.2.1 (by decide)
theorem cx_19 : mW (mRo 8 xs) mTab 52 0 [some (.ref 8), some (.int (xs 1)), some (.int (xs 2)), none] [] (hL fX fY fc fo fcl fcan) 0 = some (.inr 2, hL fX fY fc fo fcl fcan, 1) := by
  rw [e52_0, e52_1, e52_2 (kR_eq x8) (by simp), c_reqPlan]
  rfl
theorem dx_19 : mW (mRo 8 xs) mTab 119 0 [some (.ref 42), some (.int (xs 1)), some (.int (xs 2))] [] (hL fX fY fc fo fcl fcan) 1 = some (.inl (some (.int 0)), (hL fX fY fc fo fcl fcan).set (42 - 8) (.inr (11, (mFS 42).set 45 (.int 1))), 1) := by
  rw [e119_0, e119_1, e119_2, e119_3, e119_4, e119_5 (kR_eq x42) (by simp [Value.category]), d_isAt]
  simp only [mAft, Option.toList_some, List.cons_append, List.nil_append]
  rw [e119_8, e119_9, pB_F, pB_T, e119_10 (kR_eq x42) (by simp), d_goes x42 rfl]
  simp only [mAft, Option.toList_some, List.cons_append, List.nil_append]
  rw [e119_13, pB_neg (fun z => z.1), if_pos rfl, e119_25, e119_26]
  rfl
theorem fin_19 : lawEnd xs 1558 (hL fX fY fc fo fcl fcan) := by
  have K := k_goes (P1 := False) (P2 := True) (P3 := True) (x42 (fX := fX) (fY := fY) (fc := fc) (fo := fo) (fcl := fcl) (fcan := fcan)) rfl
  obtain ⟨l7, E⟩ := lc_19 (hx_242_2 (kR_eq x8) cx_19) x42 dx_19 (cell_set x42) rfl (fun z => absurd z (by decide))
  exact end_of E K.1 K.2.1 (by decide)
theorem cx_20 : mW (mRo 8 xs) mTab 57 0 [some (.ref 8), some (.int (xs 1)), some (.int (xs 2)), none] [] (hL fX fY fc fo fcl fcan) 0 = some (.inr 2, hL fX fY fc fo fcl fcan, 1) := by
  rw [e57_0, e57_1, e57_2 (kR_eq x8) (by simp), c_reqPlan]
  rfl
theorem dx_20 : mW (mRo 8 xs) mTab 126 0 [some (.ref 42), some (.int (xs 1)), some (.int (xs 2))] [] (hL fX fY fc fo fcl fcan) 1 = some (.inl (some (.int 0)), (hL fX fY fc fo fcl fcan).set (42 - 8) (.inr (11, (mFS 42).set 45 (.int 1))), 1) := by
  rw [e126_0, e126_1, e126_2, e126_3, e126_4, e126_5 (kR_eq x42) (by simp [Value.category]), d_isAt]
  simp only [mAft, Option.toList_some, List.cons_append, List.nil_append]
  rw [e126_8, e126_9, pB_F, pB_T, e126_10 (kR_eq x42) (by simp), d_goes x42 rfl]
  simp only [mAft, Option.toList_some, List.cons_append, List.nil_append]
  rw [e126_13, pB_neg (fun z => z.1), if_neg (not_not_intro rfl), e126_16, e126_17]
  rfl
theorem fin_20 : lawEnd xs 1626 (hL fX fY fc fo fcl fcan) := by
  have K := k_goes (P1 := False) (P2 := True) (P3 := True) (x42 (fX := fX) (fY := fY) (fc := fc) (fo := fo) (fcl := fcl) (fcan := fcan)) rfl
  obtain ⟨l7, E⟩ := lc_20 (hx_247_2 (kR_eq x8) cx_20) x42 dx_20 (cell_set x42) rfl (fun z => absurd z (by decide))
  exact end_of E K.1 K.2.1 (by decide)
theorem cx_21 : mW (mRo 8 xs) mTab 63 0 [some (.ref 8), some (.int (xs 1)), some (.int (xs 2)), none, none] [] (hL fX fY fc fo fcl fcan) 0 = some (.inr 2, hL fX fY fc fo fcl fcan, 1) := by
  rw [e63_0, e63_1, e63_2 (kR_eq x8) (by simp), c_reqPlan]
  rfl
theorem dx_21 : mW (mRo 8 xs) mTab 127 0 [some (.ref 42), some (.int (xs 1)), some (.int (xs 2)), none, none, none] [] (hL fX fY fc fo fcl fcan) 1 = some (.inl (some (.int 0)), (hL fX fY fc fo fcl fcan).set (42 - 8) (.inr (11, (mFS 42).set 45 (.int 1))), 1) := by
  rw [e127_0, e127_1, e127_2, e127_3 (kR_eq x42) (by simp [Value.category]), d_isPlan]
  simp only [mAft, Option.toList_some, List.cons_append, List.nil_append]
  rw [e127_6, if_pos rfl, e127_38, e127_39, e127_40, pB_F, pB_T, e127_41 (kR_eq x42) (by simp), d_goes x42 rfl]
  simp only [mAft, Option.toList_some, List.cons_append, List.nil_append]
  rw [e127_44, pB_neg (fun z => z.1), if_neg (not_not_intro rfl), e127_47, e127_48]
  rfl
theorem fin_21 : lawEnd xs 1694 (hL fX fY fc fo fcl fcan) := by
  have K := k_goes (P1 := False) (P2 := True) (P3 := True) (x42 (fX := fX) (fY := fY) (fc := fc) (fo := fo) (fcl := fcl) (fcan := fcan)) rfl
  obtain ⟨l7, E⟩ := lc_21 (hx_248_2 (kR_eq x8) cx_21) x42 dx_21 (cell_set x42) rfl (fun z => absurd z (by decide))
  exact end_of E K.1 K.2.1 (by decide)
theorem cx_24 : mW (mRo 8 xs) mTab 53 0 [some (.ref 8), some (.int (xs 1)), none] [] (hL fX fY fc fo fcl fcan) 0 = some (.inr 2, hL fX fY fc fo fcl fcan, 1) := by
  rw [e53_0, e53_1, e53_2 (kR_eq x8) (by simp), c_reqPlan]
  rfl
theorem dx_24 : mW (mRo 8 xs) mTab 120 0 [some (.ref 42), some (.int (xs 1)), none, none] [] (hL fX fY fc fo fcl fcan) 1 = some (.inl (some (.int 0)), (hL fX fY fc fo fcl fcan).set (42 - 8) (.inr (11, (mFS 42).set 45 (.int 1))), 1) := by
  rw [e120_0, e120_1, e120_2, e120_3 (kR_eq x42) (by simp [Value.category]), d_isPlan]
  simp only [mAft, Option.toList_some, List.cons_append, List.nil_append]
  rw [e120_6, e120_7, pB_F, pB_T, e120_8 (kR_eq x42) (by simp), d_goes x42 rfl]
  simp only [mAft, Option.toList_some, List.cons_append, List.nil_append]
  rw [e120_11, pB_neg (fun z => z.1), if_neg (not_not_intro rfl), e120_14, e120_15]
  rfl
theorem fin_24 : lawEnd xs 1924 (hL fX fY fc fo fcl fcan) := by
  have K := k_goes (P1 := False) (P2 := True) (P3 := True) (x42 (fX := fX) (fY := fY) (fc := fc) (fo := fo) (fcl := fcl) (fcan := fcan)) rfl
  obtain ⟨l7, E⟩ := lc_24 (hx_243_2 (kR_eq x8) cx_24) x42 dx_24 (cell_set x42) rfl (fun z => absurd z (by decide))
  exact end_of E K.1 K.2.1 (by decide)
end
