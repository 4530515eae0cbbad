section
variable {L : Nat} {xs : Nat → Int32} {k : Nat}
theorem c_judge {a cv op : Nat} {fs : List Value} {f g : Nat → Int32} {fr be : Int32} {h : List mCel} (h2 : fs[2]? = some (.ref cv)) (h4 : fs[4]? = some (.ref op)) (h5 : fs[5]? = some (.int fr)) (h6 : fs[6]? = some (.int be))
    (hfr : 0 ≤ fr.toInt ∧ fr.toInt ≤ 1000) (hbe : 0 ≤ be.toInt ∧ be.toInt ≤ 1000) (hc : mCell h a = some (.inr (1, fs))) (hcv : mCell h cv = some (.inl (0, 256, .inl f))) (hop : mCell h op = some (.inl (1, 2048, .inl g))) :
    mW (mRo L xs) mTab 17 0 [some (.ref a), none] [] h k = some (.inl none, h.set (op - 8) (.inl (1, 2048, .inl (fillG g 0 2048 (fun j => pJudge f fr be (Int32.ofNat j))))), k) := by
  rw [e17_0, e17_1, show (0 : Int32) = Int32.ofNat 0 from rfl]
  exact judge_loop h2 h4 h5 h6 hfr hbe 2048 0 g h (by omega) hc hcv hop
theorem c_Field {h : List mCel} : ∃ fc fo, mW (mRo L xs) mTab 12 0 [some (.ref (8 + h.length))] [] (h ++ [.inr (1, mFls TX1 7)]) 0 =
    some (.inl none, h ++ [.inr (1, [.ref (8 + h.length + 1), .int 0, .ref (8 + h.length + 2), .ref (8 + h.length + 3), .ref (8 + h.length + 4), .int 1, .int 1]), .inl (5, mZero (mTy 5) 8), zI 256, .inl (0, 256, .inl fc), .inl (1, 2048, .inl fo)], 0) ∧
    fdC 1 1 (fun _ => 0) fc fo := by
  refine ⟨pClears (fun _ => 0) (fun _ => 0), fillG (fun _ => 0) 0 2048 (fun j => pJudge (fun _ => 0) 1 1 (Int32.ofNat j)), ?_, ⟨_, rfl⟩, fun j hj => judge_is j hj _⟩
  · rw [fl_1, e12_0, e12_1 (by simp), e12_4, e12_5, e12_7 (by decide), ap_app, ap_len, e12_10, kP_eq (ap_0) (by simp), ap_set0]
    rw [e12_13, e12_14, e12_17 (by decide), z_int, ap_app, ap_len, e12_19, kP_eq (ap_0) (by simp), ap_set0]
    rw [e12_22, e12_23, e12_26 (by decide), z_int, ap_app, ap_len, e12_28, kP_eq (ap_0) (by simp), ap_set0]
    rw [e12_31, e12_32, e12_35 (by decide), ap_app, ap_len, e12_37, kP_eq (ap_0) (by simp), ap_set0]
    rw [e12_40, e12_41, e12_42, kP_eq (ap_0) (by simp), ap_set0, e12_45, e12_46, e12_47, kP_eq (ap_0) (by simp), ap_set0]
    simp only [List.cons_append, List.nil_append, List.set_cons_succ, List.set_cons_zero, List.length_cons, List.length_nil]
    generalize hH : h ++ [Sum.inr (1, [Value.ref (8 + h.length + (0 + 1)), Value.int 0, Value.ref (8 + h.length + (0 + 1 + 1)), Value.ref (8 + h.length + (0 + 1 + 1 + 1)), Value.ref (8 + h.length + (0 + 1 + 1 + 1 + 1)), Value.int 1, Value.int 1]), Sum.inl (5, mZero (mTy 5) (Int32.toNatClampNeg 8)), zI (Int32.toNatClampNeg 256), zI (Int32.toNatClampNeg 256), Sum.inl (1, mZero (mTy 1) (Int32.toNatClampNeg 2048))] = H
    have c0 : mCell H (8 + h.length) = some (.inr (1, [.ref (8 + h.length + 1), .int 0, .ref (8 + h.length + 2), .ref (8 + h.length + 3), .ref (8 + h.length + 4), .int 1, .int 1])) := by rw [← hH]; exact ap_0
    have c2 : mCell H (8 + h.length + 2) = some (.inl (0, 256, .inl (fun _ => 0))) := by rw [← hH]; exact ap_cell 2
    have c3 : mCell H (8 + h.length + 3) = some (.inl (0, 256, .inl (fun _ => 0))) := by rw [← hH]; exact ap_cell 3
    have c4 : mCell H (8 + h.length + 4) = some (.inl (1, 2048, .inl (fun _ => 0))) := by rw [← hH]; exact ap_cell 4
    have d0 := (cell_setne (d := .inl (0, 256, .inl (pClears (fun _ => 0) (fun _ => 0)))) (show 8 + h.length + 3 ≠ 8 + h.length by omega) (by omega)).trans c0
    have d2 := (cell_setne (d := .inl (0, 256, .inl (pClears (fun _ => 0) (fun _ => 0)))) (show 8 + h.length + 3 ≠ 8 + h.length + 2 by omega) (by omega)).trans c2
    have d4 := (cell_setne (d := .inl (0, 256, .inl (pClears (fun _ => 0) (fun _ => 0)))) (show 8 + h.length + 3 ≠ 8 + h.length + 4 by omega) (by omega)).trans c4
    rw [e12_50, e12_51 (kR_eq c0) (by simp), e23_0, e23_1 (kR_eq c0) (by simp), c_measure c0 rfl rfl (by omega) c2 c3]
    simp only [mAft, Option.toList_none, List.nil_append]
    rw [e23_4, e23_5 (kR_eq d0) (by simp), c_judge (fr := 1) (be := 1) rfl rfl rfl rfl (by decide) (by decide) d0 d2 d4]
    simp only [mAft, Option.toList_none, List.nil_append]
    rw [e23_8]
    simp only [mAft, Option.toList_none, List.nil_append]
    rw [e12_54, ← hH, ap_set 3, ap_set 4]
    rfl
end
section
variable {L : Nat} {xs : Nat → Int32} {fX fY fc fo : Nat → Int32}
theorem fl_11 : mFls TX11 11 = [.null, .null, .null, .null, .null, .null, .null, .int 0, .null, .int 0, .null] := by decide +kernel
def hC0 : List mCel := [.inr (10, [.null, .null, .null, .null, .null, .null, .null, .int 0, .null, .int 0, .null])]
def hC1 (fX fY : Nat → Int32) : List mCel := [.inr (10, [.null, .null, .null, .null, .null, .null, .null, .int 0, .null, .int 0, .null]), .inr (0, [.ref 10, .ref 11]), .inl (0, 128, .inl fX), .inl (0, 128, .inl fY)]
def hC2 (fX fY fc fo : Nat → Int32) : List mCel := [.inr (10, [.ref 12, .null, .null, .null, .null, .null, .null, .int 0, .null, .int 0, .null]), .inr (0, [.ref 10, .ref 11]), .inl (0, 128, .inl fX), .inl (0, 128, .inl fY), .inr (1, [.ref 13, .int 0, .ref 14, .ref 15, .ref 16, .int 1, .int 1]), .inl (5, mZero (mTy 5) 8), zI 256, .inl (0, 256, .inl fc), .inl (1, 2048, .inl fo)]
def hC3 (fX fY fc fo : Nat → Int32) : List mCel := [.inr (10, [.ref 12, .ref 17, .null, .null, .null, .null, .null, .int 0, .null, .int 0, .null]), .inr (0, [.ref 10, .ref 11]), .inl (0, 128, .inl fX), .inl (0, 128, .inl fY), .inr (1, [.ref 13, .int 0, .ref 14, .ref 15, .ref 16, .int 1, .int 1]), .inl (5, mZero (mTy 5) 8), zI 256, .inl (0, 256, .inl fc), .inl (1, 2048, .inl fo), .inr (4, [.ref 12, .int 20, .int 0])]
def hC4 (fX fY fc fo : Nat → Int32) : List mCel := [.inr (10, [.ref 12, .ref 17, .ref 18, .null, .null, .null, .null, .int 0, .null, .int 0, .null]), .inr (0, [.ref 10, .ref 11]), .inl (0, 128, .inl fX), .inl (0, 128, .inl fY), .inr (1, [.ref 13, .int 0, .ref 14, .ref 15, .ref 16, .int 1, .int 1]), .inl (5, mZero (mTy 5) 8), zI 256, .inl (0, 256, .inl fc), .inl (1, 2048, .inl fo), .inr (4, [.ref 12, .int 20, .int 0]), .inr (8, [.ref 12, .ref 17, .ref 19, .ref 24]), .inr (5, [.ref 20, .ref 21, .ref 22, .ref 23, .int 0, .int 0]), zI 4096, zI 4096, zI 4096, zI 256, .inr (6, [.ref 25, .ref 26, .int 0]), zI 64, zI 64]
def hC5 (fX fY fc fo : Nat → Int32) : List mCel := [.inr (10, [.ref 12, .ref 17, .ref 18, .ref 27, .null, .null, .null, .int 0, .null, .int 0, .null]), .inr (0, [.ref 10, .ref 11]), .inl (0, 128, .inl fX), .inl (0, 128, .inl fY), .inr (1, [.ref 13, .int 0, .ref 14, .ref 15, .ref 16, .int 1, .int 1]), .inl (5, mZero (mTy 5) 8), zI 256, .inl (0, 256, .inl fc), .inl (1, 2048, .inl fo), .inr (4, [.ref 12, .int 20, .int 0]), .inr (8, [.ref 12, .ref 17, .ref 19, .ref 24]), .inr (5, [.ref 20, .ref 21, .ref 22, .ref 23, .int 0, .int 0]), zI 4096, zI 4096, zI 4096, zI 256, .inr (6, [.ref 25, .ref 26, .int 0]), zI 64, zI 64, .inr (9, [.ref 9, .int (-1), .int 0, .int 0, .int 0, .int 536870912])]
def hC6 (fX fY fc fo : Nat → Int32) : List mCel := [.inr (10, [.ref 12, .ref 17, .ref 18, .ref 27, .ref 28, .null, .null, .int 0, .null, .int 0, .null]), .inr (0, [.ref 10, .ref 11]), .inl (0, 128, .inl fX), .inl (0, 128, .inl fY), .inr (1, [.ref 13, .int 0, .ref 14, .ref 15, .ref 16, .int 1, .int 1]), .inl (5, mZero (mTy 5) 8), zI 256, .inl (0, 256, .inl fc), .inl (1, 2048, .inl fo), .inr (4, [.ref 12, .int 20, .int 0]), .inr (8, [.ref 12, .ref 17, .ref 19, .ref 24]), .inr (5, [.ref 20, .ref 21, .ref 22, .ref 23, .int 0, .int 0]), zI 4096, zI 4096, zI 4096, zI 256, .inr (6, [.ref 25, .ref 26, .int 0]), zI 64, zI 64, .inr (9, [.ref 9, .int (-1), .int 0, .int 0, .int 0, .int 536870912]), .inr (7, [.ref 12, .ref 17, .ref 32, .ref 29]), .inr (6, [.ref 30, .ref 31, .int 0]), zI 64, zI 64, .inr (9, [.ref 9, .int (-1), .int 0, .int 0, .int 0, .int 536870912])]
def hC7 (fX fY fc fo : Nat → Int32) : List mCel := [.inr (10, [.ref 12, .ref 17, .ref 18, .ref 27, .ref 28, .ref 33, .null, .int 0, .null, .int 0, .null]), .inr (0, [.ref 10, .ref 11]), .inl (0, 128, .inl fX), .inl (0, 128, .inl fY), .inr (1, [.ref 13, .int 0, .ref 14, .ref 15, .ref 16, .int 1, .int 1]), .inl (5, mZero (mTy 5) 8), zI 256, .inl (0, 256, .inl fc), .inl (1, 2048, .inl fo), .inr (4, [.ref 12, .int 20, .int 0]), .inr (8, [.ref 12, .ref 17, .ref 19, .ref 24]), .inr (5, [.ref 20, .ref 21, .ref 22, .ref 23, .int 0, .int 0]), zI 4096, zI 4096, zI 4096, zI 256, .inr (6, [.ref 25, .ref 26, .int 0]), zI 64, zI 64, .inr (9, [.ref 9, .int (-1), .int 0, .int 0, .int 0, .int 536870912]), .inr (7, [.ref 12, .ref 17, .ref 32, .ref 29]), .inr (6, [.ref 30, .ref 31, .int 0]), zI 64, zI 64, .inr (9, [.ref 9, .int (-1), .int 0, .int 0, .int 0, .int 536870912]), .inr (2, [.int 100, .int 25, .int 2, .int 3, .ref 34]), .inl (2, mZero (mTy 2) 64)]
def hC8 (fX fY fc fo : Nat → Int32) : List mCel := [.inr (10, [.ref 12, .ref 17, .ref 18, .ref 27, .ref 28, .ref 33, .ref 35, .int 0, .null, .int 0, .null]), .inr (0, [.ref 10, .ref 11]), .inl (0, 128, .inl fX), .inl (0, 128, .inl fY), .inr (1, [.ref 13, .int 0, .ref 14, .ref 15, .ref 16, .int 1, .int 1]), .inl (5, mZero (mTy 5) 8), zI 256, .inl (0, 256, .inl fc), .inl (1, 2048, .inl fo), .inr (4, [.ref 12, .int 20, .int 0]), .inr (8, [.ref 12, .ref 17, .ref 19, .ref 24]), .inr (5, [.ref 20, .ref 21, .ref 22, .ref 23, .int 0, .int 0]), zI 4096, zI 4096, zI 4096, zI 256, .inr (6, [.ref 25, .ref 26, .int 0]), zI 64, zI 64, .inr (9, [.ref 9, .int (-1), .int 0, .int 0, .int 0, .int 536870912]), .inr (7, [.ref 12, .ref 17, .ref 32, .ref 29]), .inr (6, [.ref 30, .ref 31, .int 0]), zI 64, zI 64, .inr (9, [.ref 9, .int (-1), .int 0, .int 0, .int 0, .int 536870912]), .inr (2, [.int 100, .int 25, .int 2, .int 3, .ref 34]), .inl (2, mZero (mTy 2) 64), .inl (6, mZero (mTy 6) 12)]
def hC9 (fX fY fc fo : Nat → Int32) : List mCel := [.inr (10, [.ref 12, .ref 17, .ref 18, .ref 27, .ref 28, .ref 33, .ref 35, .int 0, .ref 36, .int 0, .null]), .inr (0, [.ref 10, .ref 11]), .inl (0, 128, .inl fX), .inl (0, 128, .inl fY), .inr (1, [.ref 13, .int 0, .ref 14, .ref 15, .ref 16, .int 1, .int 1]), .inl (5, mZero (mTy 5) 8), zI 256, .inl (0, 256, .inl fc), .inl (1, 2048, .inl fo), .inr (4, [.ref 12, .int 20, .int 0]), .inr (8, [.ref 12, .ref 17, .ref 19, .ref 24]), .inr (5, [.ref 20, .ref 21, .ref 22, .ref 23, .int 0, .int 0]), zI 4096, zI 4096, zI 4096, zI 256, .inr (6, [.ref 25, .ref 26, .int 0]), zI 64, zI 64, .inr (9, [.ref 9, .int (-1), .int 0, .int 0, .int 0, .int 536870912]), .inr (7, [.ref 12, .ref 17, .ref 32, .ref 29]), .inr (6, [.ref 30, .ref 31, .int 0]), zI 64, zI 64, .inr (9, [.ref 9, .int (-1), .int 0, .int 0, .int 0, .int 536870912]), .inr (2, [.int 100, .int 25, .int 2, .int 3, .ref 34]), .inl (2, mZero (mTy 2) 64), .inl (6, mZero (mTy 6) 12), .inr (6, [.ref 37, .ref 38, .int 0]), zI 64, zI 64]
def hC10 (fX fY fc fo : Nat → Int32) : List mCel := [.inr (10, [.ref 12, .ref 17, .ref 18, .ref 27, .ref 28, .ref 33, .ref 35, .int 0, .ref 36, .int 0, .ref 39]), .inr (0, [.ref 10, .ref 11]), .inl (0, 128, .inl fX), .inl (0, 128, .inl fY), .inr (1, [.ref 13, .int 0, .ref 14, .ref 15, .ref 16, .int 1, .int 1]), .inl (5, mZero (mTy 5) 8), zI 256, .inl (0, 256, .inl fc), .inl (1, 2048, .inl fo), .inr (4, [.ref 12, .int 20, .int 0]), .inr (8, [.ref 12, .ref 17, .ref 19, .ref 24]), .inr (5, [.ref 20, .ref 21, .ref 22, .ref 23, .int 0, .int 0]), zI 4096, zI 4096, zI 4096, zI 256, .inr (6, [.ref 25, .ref 26, .int 0]), zI 64, zI 64, .inr (9, [.ref 9, .int (-1), .int 0, .int 0, .int 0, .int 536870912]), .inr (7, [.ref 12, .ref 17, .ref 32, .ref 29]), .inr (6, [.ref 30, .ref 31, .int 0]), zI 64, zI 64, .inr (9, [.ref 9, .int (-1), .int 0, .int 0, .int 0, .int 536870912]), .inr (2, [.int 100, .int 25, .int 2, .int 3, .ref 34]), .inl (2, mZero (mTy 2) 64), .inl (6, mZero (mTy 6) 12), .inr (6, [.ref 37, .ref 38, .int 0]), zI 64, zI 64, .inr (3, [.ref 40, .ref 41, .int 0]), zI 6, zI 6]
theorem sc8_1 : mCell (hC1 fX fY) 8 = some (.inr (10, [.null, .null, .null, .null, .null, .null, .null, .int 0, .null, .int 0, .null])) := rfl
theorem sln_1 : 8 < 8 + (hC1 fX fY).length := by simp [hC1]
theorem sc8_2 : mCell (hC2 fX fY fc fo) 8 = some (.inr (10, [.ref 12, .null, .null, .null, .null, .null, .null, .int 0, .null, .int 0, .null])) := rfl
theorem sln_2 : 8 < 8 + (hC2 fX fY fc fo).length := by simp [hC2]
theorem sc8_3 : mCell (hC3 fX fY fc fo) 8 = some (.inr (10, [.ref 12, .ref 17, .null, .null, .null, .null, .null, .int 0, .null, .int 0, .null])) := rfl
theorem sln_3 : 8 < 8 + (hC3 fX fY fc fo).length := by simp [hC3]
theorem sc8_4 : mCell (hC4 fX fY fc fo) 8 = some (.inr (10, [.ref 12, .ref 17, .ref 18, .null, .null, .null, .null, .int 0, .null, .int 0, .null])) := rfl
theorem sln_4 : 8 < 8 + (hC4 fX fY fc fo).length := by simp [hC4]
theorem sc8_5 : mCell (hC5 fX fY fc fo) 8 = some (.inr (10, [.ref 12, .ref 17, .ref 18, .ref 27, .null, .null, .null, .int 0, .null, .int 0, .null])) := rfl
theorem sln_5 : 8 < 8 + (hC5 fX fY fc fo).length := by simp [hC5]
theorem sc8_6 : mCell (hC6 fX fY fc fo) 8 = some (.inr (10, [.ref 12, .ref 17, .ref 18, .ref 27, .ref 28, .null, .null, .int 0, .null, .int 0, .null])) := rfl
theorem sln_6 : 8 < 8 + (hC6 fX fY fc fo).length := by simp [hC6]
theorem sc8_7 : mCell (hC7 fX fY fc fo) 8 = some (.inr (10, [.ref 12, .ref 17, .ref 18, .ref 27, .ref 28, .ref 33, .null, .int 0, .null, .int 0, .null])) := rfl
theorem sln_7 : 8 < 8 + (hC7 fX fY fc fo).length := by simp [hC7]
theorem sc8_8 : mCell (hC8 fX fY fc fo) 8 = some (.inr (10, [.ref 12, .ref 17, .ref 18, .ref 27, .ref 28, .ref 33, .ref 35, .int 0, .null, .int 0, .null])) := rfl
theorem sln_8 : 8 < 8 + (hC8 fX fY fc fo).length := by simp [hC8]
theorem sc8_9 : mCell (hC9 fX fY fc fo) 8 = some (.inr (10, [.ref 12, .ref 17, .ref 18, .ref 27, .ref 28, .ref 33, .ref 35, .int 0, .ref 36, .int 0, .null])) := rfl
theorem sln_9 : 8 < 8 + (hC9 fX fY fc fo).length := by simp [hC9]
theorem sw_2 : mW (mRo L xs) mTab 47 23 [some (.ref 8), some (.ref 9)] [] (hC2 fX fY fc fo) 0 = mW (mRo L xs) mTab 47 38 [some (.ref 8), some (.ref 9)] [] (hC3 fX fY fc fo) 0 := by
  rw [e47_23, e47_24, e47_27r, e47_28, e47_29, ap_old sln_2, kF_eq sc8_2 (v := .ref 12) rfl, e47_32 kR_new (by simp [Value.category]), c_Prices]
  simp only [mAft, Option.toList_none, List.nil_append]
  rw [e47_35, ap_old sln_2]
  rw [kP_eq sc8_2 (by decide)]
  rfl
theorem sw_3 : mW (mRo L xs) mTab 47 38 [some (.ref 8), some (.ref 9)] [] (hC3 fX fY fc fo) 0 = mW (mRo L xs) mTab 47 57 [some (.ref 8), some (.ref 9)] [] (hC4 fX fY fc fo) 0 := by
  rw [e47_38, e47_39, e47_42r, e47_43, e47_44, ap_old sln_3, kF_eq sc8_3 (v := .ref 12) rfl, e47_47, e47_48, ap_old sln_3, kF_eq sc8_3 (v := .ref 17) rfl, e47_51 kR_new (by simp [Value.category]), c_Ways]
  simp only [mAft, Option.toList_none, List.nil_append]
  rw [e47_54, ap_old sln_3]
  rw [kP_eq sc8_3 (by decide)]
  rfl
theorem sw_4 : mW (mRo L xs) mTab 47 57 [some (.ref 8), some (.ref 9)] [] (hC4 fX fY fc fo) 0 = mW (mRo L xs) mTab 47 69 [some (.ref 8), some (.ref 9)] [] (hC5 fX fY fc fo) 0 := by
  rw [e47_57, e47_58, e47_61r, e47_62, e47_63 kR_new (by simp [Value.category]), c_Word]
  simp only [mAft, Option.toList_none, List.nil_append]
  rw [e47_66, ap_old sln_4]
  rw [kP_eq sc8_4 (by decide)]
  rfl
theorem sw_5 : mW (mRo L xs) mTab 47 69 [some (.ref 8), some (.ref 9)] [] (hC5 fX fY fc fo) 0 = mW (mRo L xs) mTab 47 89 [some (.ref 8), some (.ref 9)] [] (hC6 fX fY fc fo) 0 := by
  rw [e47_69, e47_70, e47_73r, e47_74, e47_75, ap_old sln_5, kF_eq sc8_5 (v := .ref 12) rfl, e47_78, e47_79, ap_old sln_5, kF_eq sc8_5 (v := .ref 17) rfl, e47_82, e47_83 kR_new (by simp [Value.category]), c_Shortener]
  simp only [mAft, Option.toList_none, List.nil_append]
  rw [e47_86, ap_old sln_5]
  rw [kP_eq sc8_5 (by decide)]
  rfl
theorem sw_6 : mW (mRo L xs) mTab 47 89 [some (.ref 8), some (.ref 9)] [] (hC6 fX fY fc fo) 0 = mW (mRo L xs) mTab 47 100 [some (.ref 8), some (.ref 9)] [] (hC7 fX fY fc fo) 0 := by
  rw [e47_89, e47_90, e47_93r, e47_94 kR_new (by simp [Value.category]), c_Pace]
  simp only [mAft, Option.toList_none, List.nil_append]
  rw [e47_97, ap_old sln_6]
  rw [kP_eq sc8_6 (by decide)]
  rfl
theorem sw_7 : mW (mRo L xs) mTab 47 100 [some (.ref 8), some (.ref 9)] [] (hC7 fX fY fc fo) 0 = mW (mRo L xs) mTab 47 109 [some (.ref 8), some (.ref 9)] [] (hC8 fX fY fc fo) 0 := by
  rw [e47_100, e47_101, e47_103 (by decide), e47_106, ap_old sln_7]
  rw [kP_eq sc8_7 (by decide)]
  rfl
theorem sw_8 : mW (mRo L xs) mTab 47 109 [some (.ref 8), some (.ref 9)] [] (hC8 fX fY fc fo) 0 = mW (mRo L xs) mTab 47 120 [some (.ref 8), some (.ref 9)] [] (hC9 fX fY fc fo) 0 := by
  rw [e47_109, e47_110, e47_113r, e47_114 kR_new (by simp [Value.category]), c_Route]
  simp only [mAft, Option.toList_none, List.nil_append]
  rw [e47_117, ap_old sln_8]
  rw [kP_eq sc8_8 (by decide)]
  rfl
theorem sw_9 : mW (mRo L xs) mTab 47 120 [some (.ref 8), some (.ref 9)] [] (hC9 fX fY fc fo) 0 = some (.inl none, (hC10 fX fY fc fo), 0) := by
  rw [e47_120, e47_121, e47_124r, e47_125 kR_new (by simp [Value.category]), c_Polygon]
  simp only [mAft, Option.toList_none, List.nil_append]
  rw [e47_128, ap_old sln_9]
  rw [kP_eq sc8_9 (by decide), e47_131]
  rfl
/-- a fresh object of the class -/
theorem c_new : ∃ fX fY fc fo, mW (mRo L xs) mTab 47 0 [some (.ref 8), none] [] [.inr (10, mFls TX11 11)] 0 = some (.inl none, (hC10 fX fY fc fo), 0) ∧ (∀ g kk, g < 8 → (kk = 1 ∨ kk = 2) → arcOk fX fY g kk) ∧ fdC 1 1 (fun _ => 0) fc fo := by
  obtain ⟨fX, fY, a1, a2⟩ := c_Arcs (L := L) (xs := xs) (h := hC0)
  obtain ⟨fc, fo, b1, b2⟩ := c_Field (L := L) (xs := xs) (h := (hC1 fX fY))
  refine ⟨fX, fY, fc, fo, ?_, a2, b2⟩
  rw [fl_11, show [(.inr (10, [.null, .null, .null, .null, .null, .null, .null, .int 0, .null, .int 0, .null]) : mCel)] = hC0 from rfl]
  rw [e47_0, e47_1 (by simp), e47_4, e47_7r, e47_8 kR_new (by simp [Value.category]), a1]
  simp only [mAft, Option.toList_none, List.nil_append]
  rw [e47_11, show 8 + hC0.length = 9 from rfl, show aHp hC0 fX fY = (hC1 fX fY) from rfl, e47_12, e47_13, e47_16r, e47_17 kR_new (by simp [Value.category]), b1]
  simp only [mAft, Option.toList_none, List.nil_append]
  rw [e47_20, ap_old sln_1]
  rw [kP_eq sc8_1 (by decide)]
  exact sw_2.trans (sw_3.trans (sw_4.trans (sw_5.trans (sw_6.trans (sw_7.trans (sw_8.trans sw_9))))))
end
