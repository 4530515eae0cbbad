section
variable {L : Nat} {xs : Nat → Int32} {h : List mCel} {k : Nat} {p m x y g v a b w : Int32}
def pB (P : Prop) [Decidable P] : Int32 := if P then 1 else 0
theorem pB_01 (P : Prop) [Decidable P] : pB P = 0 ∨ pB P = 1 := by unfold pB; split <;> simp
def pX (p : Int32) : Int32 := p &&& 15
def pY (p : Int32) : Int32 := (p >>> (4 &&& 31)) &&& 15
def pH (p : Int32) : Int32 := (p >>> (8 &&& 31)) &&& 7
def pNum (x y g : Int32) : Int32 := if x < 0 ∨ 16 ≤ x ∨ y < 0 ∨ 16 ≤ y ∨ g < 0 ∨ 8 ≤ g then -1 else g * 256 + y * 16 + x
def pSx (g : Int32) : Int32 := ([1, 1, 0, -1, -1, -1, 0, 1] : List Int32).getD (g &&& 7).toNatClampNeg 0
def pSy (g : Int32) : Int32 := ([0, 1, 1, 1, 0, -1, -1, -1] : List Int32).getD (g &&& 7).toNatClampNeg 0
theorem and7 (g : Int32) : 0 ≤ (g &&& 7).toInt ∧ (g &&& 7).toInt < 8 := by
  have h1 : (g &&& 7).toBitVec.toNat ≤ 7 := by
    rw [Int32.toBitVec_and, BitVec.toNat_and]; exact Nat.and_le_right
  have h2 : (g &&& 7).toInt = ((g &&& 7).toBitVec.toNat : Int) := by
    unfold Int32.toInt; rw [BitVec.toInt_eq_toNat_of_lt (by omega)]
  omega
theorem kIA_1 {f : Int32 → Option mOut} : kIA (mRo L xs) h 1 (g &&& 7) f = f (pSx g) := by
  unfold kIA; exact (if_pos (by decide)).trans (if_pos (and7 g))
theorem kIA_2 {f : Int32 → Option mOut} : kIA (mRo L xs) h 2 (g &&& 7) f = f (pSy g) := by
  unfold kIA; exact (if_pos (by decide)).trans (if_pos (and7 g))
theorem c_xOf : mW (mRo L xs) mTab 86 0 [some (.int p)] [] h k = some (.inl (some (.int (pX p))), h, k) := by
  simp only [e86_0, e86_1, e86_3, e86_4, pX]
theorem c_yOf : mW (mRo L xs) mTab 87 0 [some (.int p)] [] h k = some (.inl (some (.int (pY p))), h, k) := by
  simp only [e87_0, e87_1, e87_2, e87_3, e87_5, e87_6, pY]
theorem c_headingOf : mW (mRo L xs) mTab 72 0 [some (.int p)] [] h k = some (.inl (some (.int (pH p))), h, k) := by
  simp only [e72_0, e72_1, e72_3, e72_4, e72_6, e72_7, pH]
theorem c_stepX : mW (mRo L xs) mTab 79 0 [some (.int g)] [] h k = some (.inl (some (.int (pSx g))), h, k) := by
  simp only [e79_0, e79_3, e79_4, e79_6, e79_7, e79_8, kIA_1]
theorem c_stepY : mW (mRo L xs) mTab 80 0 [some (.int g)] [] h k = some (.inl (some (.int (pSy g))), h, k) := by
  simp only [e80_0, e80_3, e80_4, e80_6, e80_7, e80_8, kIA_2]
theorem c_numberOf : mW (mRo L xs) mTab 77 0 [some (.int x), some (.int y), some (.int g), none, none] [] h k = some (.inl (some (.int (pNum x y g))), h, k) := by
  simp only [e77_0, e77_1, e77_4, e77_5, e77_7, e77_10, e77_11, e77_14, e77_15, e77_17, e77_20, e77_21, e77_24, e77_25, e77_26, e77_27, e77_30, e77_31, e77_33, e77_36, e77_37, e77_40, e77_41, e77_43, e77_44, e77_47, e77_49, e77_52, e77_53, e77_56, e77_57, e77_58, e77_60, e77_61, e77_62, e77_63, e77_64, e77_67, e77_68, pNum]
  by_cases h1 : x < 0
  · simp [h1]
  by_cases h2 : 16 ≤ x
  · simp [h1, h2]
  by_cases h3 : y < 0
  · simp [h1, h2, h3]
  by_cases h4 : 16 ≤ y
  · simp [h1, h2, h3, h4]
  by_cases h5 : g < 0
  · simp [h1, h2, h3, h4, h5]
  by_cases h6 : 8 ≤ g
  · simp [h1, h2, h3, h4, h5, h6]
  · simp [h1, h2, h3, h4, h5, h6]
def pStepped (p w : Int32) : Int32 := pNum (pX p + w * pSx (pH p)) (pY p + w * pSy (pH p)) (pH p)
theorem c_stepped : mW (mRo L xs) mTab 81 0 [some (.int p), some (.int w), none] [] h k = some (.inl (some (.int (pStepped p w))), h, k) := by
  simp only [e81_0, e81_1, e81_4, e81_5, e81_6, e81_9, e81_10, e81_11, e81_14, e81_15, e81_16, e81_17, e81_20, e81_21, e81_22, e81_25, e81_26, e81_27, e81_28, e81_31, c_xOf, c_yOf, c_headingOf, c_stepX, c_stepY, c_numberOf, mAft, Option.toList_some, Option.toList_none, List.cons_append, List.nil_append, List.map_nil, List.map_cons, List.sum_nil, List.sum_cons, Value.category, Nat.reduceAdd, Nat.reduceLeDiff, pStepped]
theorem n2_0 : ((2 : Int32) = 0) = False := by decide
theorem n3_0 : ((3 : Int32) = 0) = False := by decide
theorem n8_0 : ((8 : Int32) = 0) = False := by decide
theorem n16_0 : ((16 : Int32) = 0) = False := by decide
theorem n256_0 : ((256 : Int32) = 0) = False := by decide
theorem pB_pos {P : Prop} [Decidable P] (hp : P) : pB P = 1 := if_pos hp
theorem pB_neg {P : Prop} [Decidable P] (hp : ¬ P) : pB P = 0 := if_neg hp
theorem pB_eq0 {P : Prop} [Decidable P] : (pB P = 0) = ¬ P := by unfold pB; by_cases hp : P <;> simp [hp]
def qRem (a b : Int32) : Int32 := a - a / b * b
def qTurn (m : Int32) : Int32 := if qRem m 3 = 1 then 7 else if qRem m 3 = 2 then 1 else 0
def qHb (g m : Int32) : Int32 := if 2 < m then qRem (g + 8 - qTurn m) 8 else qRem (g + qTurn m) 8
def qSx (g : Int32) : Int32 := if g < 2 ∨ g = 7 then 1 else if 3 ≤ g ∧ g ≤ 5 then -1 else 0
def qSy (g : Int32) : Int32 := qSx (qRem (g + 6) 8)
def qFx (g m : Int32) : Int32 := (if 2 < m then -1 else 1) * (qSx g + (if qRem m 3 = 0 then 0 else qSx (qHb g m)))
def qFy (g m : Int32) : Int32 := (if 2 < m then -1 else 1) * (qSy g + (if qRem m 3 = 0 then 0 else qSy (qHb g m)))
def qCell (x y : Int32) : Prop := (0 ≤ x ∧ x ≤ 15) ∧ 0 ≤ y ∧ y ≤ 15
def qEnd (p m : Int32) : Int32 := if (0 ≤ qRem p 16 + qFx (p / 256) m ∧ qRem p 16 + qFx (p / 256) m ≤ 15) ∧ 0 ≤ qRem p 256 / 16 + qFy (p / 256) m ∧ qRem p 256 / 16 + qFy (p / 256) m ≤ 15
  then 256 * qHb (p / 256) m + 16 * (qRem p 256 / 16 + qFy (p / 256) m) + (qRem p 16 + qFx (p / 256) m) else -1
theorem toRem (a b : Int32) : a - a / b * b = qRem a b := rfl
theorem c_wayOf : mW (mRo L xs) mTab 85 0 [some (.int m)] [] h k = some (.inl (some (.int (if m < 3 then 1 else -1))), h, k) := by
  simp only [e85_0, e85_1, e85_2, e85_5, e85_6, e85_9, e85_10]
  split <;> rfl
theorem c_isBack : mW (mRo L xs) mTab 74 0 [some (.int m)] [] h k = some (.inl (some (.int (if m < 3 then 0 else 1))), h, k) := by
  simp only [e74_0, e74_1, e74_2, e74_5, e74_6, e74_9, e74_10 (Or.inl rfl), e74_10 (Or.inr rfl)]
  split <;> rfl
theorem c_isArc : mW (mRo L xs) mTab 73 0 [some (.int m)] [] h k = some (.inl (some (.int (if m = 0 ∨ m = 3 then 0 else 1))), h, k) := by
  simp only [e73_0, e73_1, e73_4, e73_5, e73_6, e73_9, e73_10, e73_13, e73_14 (Or.inl rfl), e73_14 (Or.inr rfl)]
  by_cases h1 : m = 0
  · simp [h1]
  by_cases h2 : m = 3 <;> simp [h1, h2]
def pTurn (m : Int32) : Int32 := if m = 1 ∨ m = 4 then -1 else if m = 2 ∨ m = 5 then 1 else 0
theorem c_turnOf : mW (mRo L xs) mTab 83 0 [some (.int m)] [] h k = some (.inl (some (.int (pTurn m))), h, k) := by
  simp only [e83_0, e83_1, e83_2, e83_5, e83_6, e83_7, e83_10, e83_11, e83_12, e83_13, e83_14, e83_17, e83_18, e83_19, e83_22, e83_23, e83_26, e83_27, pTurn]
  by_cases h1 : m = 1
  · simp [h1]
  by_cases h2 : m = 4
  · simp [h2]
  by_cases h3 : m = 2
  · simp [h3]
  by_cases h4 : m = 5 <;> simp [h1, h2, h3, h4]
theorem c_cellOf : mW (mRo L xs) mTab 70 0 [some (.int p)] [] h k = some (.inl (some (.int (p &&& 255))), h, k) := by
  simp only [e70_0, e70_1, e70_4, e70_5]
theorem c_isEven : mW (mRo L xs) mTab 76 0 [some (.int g)] [] h k = some (.inl (some (.int (pB (g &&& 1 = 0)))), h, k) := by
  simp only [e76_0, e76_1, e76_2, e76_3, e76_6, e76_7, e76_10, e76_11 (Or.inl rfl), e76_11 (Or.inr rfl), pB]
  by_cases h1 : g &&& 1 = 0 <;> simp [h1]
def pTurned (p m : Int32) : Int32 := ((pH p + (if m < 3 then 1 else -1) * pTurn m) &&& 7) * 256 + (p &&& 255)
theorem c_turned : mW (mRo L xs) mTab 84 0 [some (.int p), some (.int m), none] [] h k = some (.inl (some (.int (pTurned p m))), h, k) := by
  simp only [e84_0, e84_1, e84_4, e84_5, e84_8, e84_9, e84_12, e84_13, e84_14, e84_15, e84_16, e84_18, e84_19, e84_22, e84_23, e84_24, e84_27, e84_28, c_headingOf, c_wayOf, c_turnOf, c_cellOf, mAft, Option.toList_some, Option.toList_none, List.cons_append, List.nil_append, List.map_nil, List.map_cons, List.sum_nil, List.sum_cons, Value.category, Nat.reduceAdd, Nat.reduceLeDiff, n2_0, n3_0, n8_0, n16_0, n256_0, not_false_eq_true, pTurned]
theorem c_oppositeOf : mW (mRo L xs) mTab 78 0 [some (.int m)] [] h k = some (.inl (some (.int (if m < 3 then m + 3 else m - 3))), h, k) := by
  simp only [e78_0, e78_1, e78_4, e78_7, e78_8, e78_9, e78_10, e78_13, e78_14, e78_15, e78_16, c_isBack, mAft, Option.toList_some, Option.toList_none, List.cons_append, List.nil_append, List.map_nil, List.map_cons, List.sum_nil, List.sum_cons, Value.category, Nat.reduceAdd, Nat.reduceLeDiff, n2_0, n3_0, n8_0, n16_0, n256_0, not_false_eq_true]
  by_cases h1 : m < 3 <;> simp [h1]
def pSteps (g m : Int32) : Int32 := if m = 0 ∨ m = 3 then (if g &&& 1 = 0 then 10 else 14) else 24
theorem c_stepsCost : mW (mRo L xs) mTab 82 0 [some (.int g), some (.int m)] [] h k = some (.inl (some (.int (pSteps g m))), h, k) := by
  simp only [e82_0, e82_1, e82_4, e82_7, e82_9, e82_10, e82_11, e82_14, e82_17, e82_19, e82_22, e82_24, c_isArc, c_isEven, mAft, Option.toList_some, Option.toList_none, List.cons_append, List.nil_append, List.map_nil, List.map_cons, List.sum_nil, List.sum_cons, Value.category, Nat.reduceAdd, Nat.reduceLeDiff, n2_0, n3_0, n8_0, n16_0, n256_0, not_false_eq_true, pSteps, pB_eq0]
  by_cases h1 : m = 0 ∨ m = 3 <;> by_cases h2 : g &&& 1 = 0 <;> simp [h1, h2]
def qSteps (g m : Int32) : Int32 := if qRem m 3 = 0 then (if qRem g 2 = 0 then 10 else 14) else 24
def pEnded (p m : Int32) : Int32 := if pStepped p (if m < 3 then 1 else -1) = -1 ∨ (m = 0 ∨ m = 3) then pStepped p (if m < 3 then 1 else -1) else pStepped (pTurned (pStepped p (if m < 3 then 1 else -1)) m) (if m < 3 then 1 else -1)
theorem c_ended : mW (mRo L xs) mTab 71 0 [some (.int p), some (.int m), none] [] h k = some (.inl (some (.int (pEnded p m))), h, k) := by
  simp only [e71_0, e71_1, e71_2, e71_5, e71_8, e71_9, e71_10, e71_11, e71_14, e71_15, e71_18, e71_21, e71_22, e71_23, e71_24, e71_25, e71_28, e71_29, e71_32, e71_35, c_wayOf, c_stepped, c_isArc, c_turned, mAft, Option.toList_some, Option.toList_none, List.cons_append, List.nil_append, List.map_nil, List.map_cons, List.sum_nil, List.sum_cons, Value.category, Nat.reduceAdd, Nat.reduceLeDiff, n2_0, n3_0, n8_0, n16_0, n256_0, not_false_eq_true, pEnded]
  by_cases h1 : pStepped p (if m < 3 then 1 else -1) = -1
  · simp [h1]
  by_cases h2 : m = 0 ∨ m = 3
  · simp [h1, h2]
  · simp [h1, h2]
end
