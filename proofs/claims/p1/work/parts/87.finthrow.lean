section
variable {xs : Nat → Int32} {k : Nat} {h : List mCel} {fX fY fc fo fcl fcan : Nat → Int32}
theorem c_xcount : mW (mRo 8 xs) mTab 178 0 [some (.ref 39)] [] (hL fX fY fc fo fcl fcan) k = some (.inl (some (.int 0)), hL fX fY fc fo fcl fcan, k) := by
  rw [e178_0, e178_1, kF_eq x39 (v := .int 0) rfl, e178_4]
-- polygon
theorem cx_1 : mW (mRo 8 xs) mTab 56 0 [some (.ref 8), none] [] (hL fX fY fc fo fcl fcan) 0 = some (.inr 1, hL fX fY fc fo fcl fcan, 1) := by
  rw [e56_0, e56_1, kF_eq x8 (v := .ref 39) rfl, e56_4 (kR_eq x39) (by simp), c_xcount]
  simp only [mAft, Option.toList_some, List.cons_append, List.nil_append]
  rw [e56_7, e56_8, if_neg (by decide), e56_11 (by simp)]
theorem dx_1 : mW (mRo 8 xs) mTab 124 0 [some (.ref 42), none] [] (hL fX fY fc fo fcl fcan) 1 = some (.inl (some (.int 0)), (hL fX fY fc fo fcl fcan).set (42 - 8) (.inr (11, (mFS 42).set 45 (.int 1))), 1) := by
  rw [e124_0, e124_1, e124_2, kF_eq x42 (v := .int 0) rfl, e124_5, e124_6, if_pos (by decide), e124_22, e124_23, e124_24, pB_F, pB_T, e124_25 (kR_eq x42) (by simp), d_goes x42 rfl]
  simp only [mAft, Option.toList_some, List.cons_append, List.nil_append]
  rw [e124_28, pB_neg (fun z => z.1), if_neg (not_not_intro rfl), e124_31, e124_32]
  rfl
theorem fin_1 : lawEnd xs 228 (hL fX fY fc fo fcl fcan) := by
  have K := k_goes (P1 := False) (P2 := True) (P3 := True) (x42 (fX := fX) (fY := fY) (fc := fc) (fo := fo) (fcl := fcl) (fcan := fcan)) rfl
  obtain ⟨l7, E⟩ := lc_1 (hx_246_1 (kR_eq x8) cx_1) x42 dx_1 (cell_set x42) rfl (fun z => absurd z (by decide))
  exact end_of E K.1 K.2.1 (by decide)
-- takeAway
theorem cx_3 {p : Int32} : mW (mRo 8 xs) mTab 67 0 [some (.ref 8), some (.int p)] [] (hL fX fY fc fo fcl fcan) 0 = some (.inr 2, hL fX fY fc fo fcl fcan, 1) := by
  have C : mW (mRo 8 xs) mTab 20 0 [some (.ref 12)] [] (hL fX fY fc fo fcl fcan) 0 = some (.inl (some (.int 0)), hL fX fY fc fo fcl fcan, 0) := by
    rw [e20_0, e20_1, kF_eq x12 (v := .int 0) rfl, e20_4]
  have z : pB (p < 0 ∨ 0 - 1 < p) = 1 := pB_pos (by
    by_cases a : p < 0
    · exact Or.inl a
    · right
      have h1 := Int32.le_iff_toInt_le.1 (Int32.not_lt.1 a)
      rw [Int32.lt_iff_toInt_lt]
      have e1 : (0 : Int32).toInt = 0 := rfl
      have e2 : ((0 : Int32) - 1).toInt = -1 := rfl
      omega)
  rw [e67_0, e67_1, e67_2, e67_3, kF_eq x8 (v := .ref 12) rfl, e67_6 (kR_eq x12) (by simp [Value.category]), C]
  simp only [mAft, Option.toList_some, List.cons_append, List.nil_append]
  rw [e67_9, e67_10, e67_11 (by simp), c_isOutside, z]
  simp only [mAft, Option.toList_some, List.cons_append, List.nil_append]
  rw [e67_14, if_neg (by decide), e67_17 (by simp)]
theorem dx_3 {p : Int32} : mW (mRo 8 xs) mTab 136 0 [some (.ref 42), some (.int p), none, none] [] (hL fX fY fc fo fcl fcan) 1 = some (.inl (some (.int 0)), (hL fX fY fc fo fcl fcan).set (42 - 8) (.inr (11, (mFS 42).set 45 (.int 1))), 1) := by
  have z : pB (0 ≤ p ∧ p ≤ 0 - 1) = 0 := pB_neg (fun z => by
    have h1 := Int32.le_iff_toInt_le.1 z.1
    have h2 := Int32.le_iff_toInt_le.1 z.2
    have e1 : (0 : Int32).toInt = 0 := rfl
    have e2 : ((0 : Int32) - 1).toInt = -1 := rfl
    omega)
  rw [e136_0, e136_1, e136_2, e136_3, kF_eq x42 (v := .int 0) rfl, e136_6, e136_7, e136_8 (by simp), d_in, z]
  simp only [mAft, Option.toList_some, List.cons_append, List.nil_append]
  rw [e136_11, e136_12, e136_13, e136_14, e136_15, if_pos rfl, e136_39, e136_40, pB_F, pB_T, e136_41 (kR_eq x42) (by simp), d_goes x42 rfl]
  simp only [mAft, Option.toList_some, List.cons_append, List.nil_append]
  rw [e136_44, pB_neg (fun z => z.1), if_neg (not_not_intro rfl), e136_47, e136_48]
  rfl
theorem fin_3 : lawEnd xs 285 (hL fX fY fc fo fcl fcan) := by
  have K := k_goes (P1 := False) (P2 := False) (P3 := True) (x42 (fX := fX) (fY := fY) (fc := fc) (fo := fo) (fcl := fcl) (fcan := fcan)) rfl
  obtain ⟨l7, E⟩ := lc_3 (hx_252_2 (kR_eq x8) cx_3) x42 dx_3 (cell_set x42) rfl (fun z => absurd z (by decide))
  exact end_of E K.1 K.2.1 (by decide)
-- keep
theorem c_reqRec {k : Nat} : mW (mRo 8 xs) mTab 61 0 [some (.ref 8)] [] (hL fX fY fc fo fcl fcan) k = some (.inr 1, hL fX fY fc fo fcl fcan, k + 1) := by
  rw [e61_0, e61_1, kF_eq x8 (v := .int 0) rfl, e61_4, if_neg (not_not_intro rfl), e61_7 (by simp)]
theorem cx_16 : mW (mRo 8 xs) mTab 50 0 [some (.ref 8)] [] (hL fX fY fc fo fcl fcan) 0 = some (.inr 1, hL fX fY fc fo fcl fcan, 1) := by
  rw [e50_0, e50_1 (kR_eq x8) (by simp), c_reqRec]
  rfl
theorem dx_16 : mW (mRo 8 xs) mTab 111 0 [some (.ref 42), none] [] (hL fX fY fc fo fcl fcan) 1 = some (.inl (some (.int 0)), (hL fX fY fc fo fcl fcan).set (42 - 8) (.inr (11, (mFS 42).set 45 (.int 1))), 1) := by
  rw [e111_0, e111_1, e111_2, kF_eq x42 (v := .int 0) rfl, e111_5, if_pos rfl, e111_21, e111_22, e111_23, pB_F, pB_T, e111_24 (kR_eq x42) (by simp), d_goes x42 rfl]
  simp only [mAft, Option.toList_some, List.cons_append, List.nil_append]
  rw [e111_27, pB_neg (fun z => z.1), if_neg (not_not_intro rfl), e111_30, e111_31]
  rfl
theorem fin_16 : lawEnd xs 1390 (hL fX fY fc fo fcl fcan) := by
  have K := k_goes (P1 := False) (P2 := True) (P3 := True) (x42 (fX := fX) (fY := fY) (fc := fc) (fo := fo) (fcl := fcl) (fcan := fcan)) rfl
  obtain ⟨l7, E⟩ := lc_16 (hx_239_1 (kR_eq x8) cx_16) x42 dx_16 (cell_set x42) rfl (fun z => absurd z (by decide))
  exact end_of E K.1 K.2.1 (by decide)
-- drive
theorem out_in {v lo hi : Int32} : (v < lo ∨ hi < v) ↔ ¬ (lo ≤ v ∧ v ≤ hi) := by
  constructor
  · rintro (a | a) ⟨b, c⟩
    · exact Int32.not_le.2 a b
    · exact Int32.not_le.2 a c
  · intro a
    by_cases b : lo ≤ v
    · exact Or.inr (Int32.not_le.1 (fun c => a ⟨b, c⟩))
    · exact Or.inl (Int32.not_le.1 b)
theorem cx_15 {m : Int32} : mW (mRo 8 xs) mTab 44 0 [some (.ref 8), some (.int m), none] [] (hL fX fY fc fo fcl fcan) 0 = some (.inr (if 0 ≤ m ∧ m ≤ 5 then 1 else 2), hL fX fY fc fo fcl fcan, 1) := by
  rw [e44_0, e44_1, e44_2, e44_3 (by simp), c_isOutside]
  simp only [mAft, Option.toList_some, List.cons_append, List.nil_append]
  rw [e44_6]
  by_cases z : 0 ≤ m ∧ m ≤ 5
  · rw [pB_neg (fun y => out_in.1 y z), if_pos rfl, if_pos z, e44_19, e44_20 (kR_eq x8) (by simp), c_reqRec]
    rfl
  · rw [pB_pos (out_in.2 z), if_neg (by decide), if_neg z, e44_9 (by simp)]
theorem dx_15 {m : Int32} : mW (mRo 8 xs) mTab 86 0 [some (.ref 42), some (.int m), none] [] (hL fX fY fc fo fcl fcan) 1 = some (.inl (some (.int 0)), (hL fX fY fc fo fcl fcan).set (42 - 8) (.inr (11, (mFS 42).set 45 (.int (if 0 ≤ m ∧ m ≤ 5 then 2 else 1)))), 1) := by
  rw [e86_0, e86_1, e86_2, e86_3 (by simp), d_in]
  simp only [mAft, Option.toList_some, List.cons_append, List.nil_append]
  rw [e86_6, e86_7, e86_8, e86_9, e86_10]
  have key : mW (mRo 8 xs) mTab 86 58 [some (.ref 42), some (.int m), some (.int (pB (0 ≤ m ∧ m ≤ 5)))] [.int (pB (0 ≤ m ∧ m ≤ 5)), .ref 42] (hL fX fY fc fo fcl fcan) 1 = some (.inl (some (.int 0)), (hL fX fY fc fo fcl fcan).set (42 - 8) (.inr (11, (mFS 42).set 45 (.int (if 0 ≤ m ∧ m ≤ 5 then 2 else 1)))), 1) := by
    have G := d_goes (L := 8) (xs := xs) (k := 1) (P1 := 0 ≤ m ∧ m ≤ 5) (P2 := False) (P3 := True) (x42 (fX := fX) (fY := fY) (fc := fc) (fo := fo) (fcl := fcl) (fcan := fcan)) rfl
    rw [pB_neg (fun z : (0 ≤ m ∧ m ≤ 5) ∧ False ∧ True => z.2.1), show pB False = 0 from rfl, show pB True = 1 from rfl] at G
    rw [e86_58, e86_59, e86_60 (kR_eq x42) (by simp), G]
    simp only [mAft, Option.toList_some, List.cons_append, List.nil_append]
    rw [e86_63, if_neg (not_not_intro rfl), e86_66, e86_67]
    rfl
  by_cases z : 0 ≤ m ∧ m ≤ 5
  · have e : pB (0 ≤ m ∧ m ≤ 5) = 1 := pB_pos z
    rw [e] at key ⊢
    rw [if_neg (by decide), e86_13, e86_14, kF_eq x42 (v := .int 0) rfl, e86_17, if_pos rfl]
    exact key
  · have e : pB (0 ≤ m ∧ m ≤ 5) = 0 := pB_neg z
    rw [e] at key ⊢
    rw [if_pos rfl]
    exact key
theorem fin_15 : lawEnd xs 1334 (hL fX fY fc fo fcl fcan) := by
  have K : ∀ v : Int32, mKeep Pm (hL fX fY fc fo fcl fcan) ((hL fX fY fc fo fcl fcan).set (42 - 8) (.inr (11, (mFS 42).set 45 (.int v)))) := fun v => keep_set x42 rfl ⟨by decide, by decide⟩
  by_cases z : 0 ≤ xs 1 ∧ xs 1 ≤ 5
  · have c := cx_15 (xs := xs) (m := xs 1) (fX := fX) (fY := fY) (fc := fc) (fo := fo) (fcl := fcl) (fcan := fcan)
    have d := dx_15 (xs := xs) (m := xs 1) (fX := fX) (fY := fY) (fc := fc) (fo := fo) (fcl := fcl) (fcan := fcan)
    rw [if_pos z] at c d
    obtain ⟨l7, E⟩ := lc_15 (hx_236_1 (kR_eq x8) c) x42 d (cell_set x42) rfl (fun z => absurd z (by decide))
    exact end_of E (K _).1 (K _).2.1 (by decide)
  · have c := cx_15 (xs := xs) (m := xs 1) (fX := fX) (fY := fY) (fc := fc) (fo := fo) (fcl := fcl) (fcan := fcan)
    have d := dx_15 (xs := xs) (m := xs 1) (fX := fX) (fY := fY) (fc := fc) (fo := fo) (fcl := fcl) (fcan := fcan)
    rw [if_neg z] at c d
    obtain ⟨l7, E⟩ := lc_15 (hx_236_2 (kR_eq x8) c) x42 d (cell_set x42) rfl (fun z => absurd z (by decide))
    exact end_of E (K _).1 (K _).2.1 (by decide)
end
