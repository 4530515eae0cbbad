section
variable {L : Nat} {xs : Nat → Int32} {h : List mCel} {k : Nat} {p m x y g v a b w : Int32}
def pB (P : Prop) [Decidable P] : Int32 := if P then 1 else 0
theorem pB_01 (P : Prop) [Decidable P] : pB P = 0 ∨ pB P = 1 := by unfold pB; split <;> simp
def pX (p : Int32) : Int32 := p &&& 15
def pY (p : Int32) : Int32 := (p >>> (4 &&& 31)) &&& 15
def pH (p : Int32) : Int32 := (p >>> (8 &&& 31)) &&& 7
def pNum (x y g : Int32) : Int32 := if x < 0 ∨ 16 ≤ x ∨ y < 0 ∨ 16 ≤ y ∨ g < 0 ∨ 8 ≤ g then -1 else g * 256 + y * 16 + x
def pSx (g : Int32) : Int32 := ([1, 1, 0, -1, -1, -1, 0, 1] : List Int32).getD (g &&& 7).toNatClampNeg 0
def pSy (g : Int32) : Int32 := ([0, 1, 1, 1, 0, -1, -1, -1] : List Int32).getD (g &&& 7).toNatClampNeg 0
theorem and7 (g : Int32) : 0 ≤ (g &&& 7).toInt ∧ (g &&& 7).toInt < 8 := by
  have h1 : (g &&& 7).toBitVec.toNat ≤ 7 := by
    rw [Int32.toBitVec_and, BitVec.toNat_and]; exact Nat.and_le_right
  have h2 : (g &&& 7).toInt = ((g &&& 7).toBitVec.toNat : Int) := by
    unfold Int32.toInt; rw [BitVec.toInt_eq_toNat_of_lt (by omega)]
  omega
theorem kIA_1 {f : Int32 → Option mOut} : kIA (mRo L xs) h 1 (g &&& 7) f = f (pSx g) := by
  unfold kIA; exact (if_pos (by decide)).trans (if_pos (and7 g))
theorem kIA_2 {f : Int32 → Option mOut} : kIA (mRo L xs) h 2 (g &&& 7) f = f (pSy g) := by
  unfold kIA; exact (if_pos (by decide)).trans (if_pos (and7 g))
theorem c_xOf : mW (mRo L xs) mTab 161 0 [some (.int p)] [] h k = some (.inl (some (.int (pX p))), h, k) := by
  simp only [e161_0, e161_1, e161_3, e161_4, pX]
theorem c_yOf : mW (mRo L xs) mTab 162 0 [some (.int p)] [] h k = some (.inl (some (.int (pY p))), h, k) := by
  simp only [e162_0, e162_1, e162_2, e162_3, e162_5, e162_6, pY]
theorem c_headingOf : mW (mRo L xs) mTab 147 0 [some (.int p)] [] h k = some (.inl (some (.int (pH p))), h, k) := by
  simp only [e147_0, e147_1, e147_3, e147_4, e147_6, e147_7, pH]
theorem c_stepX : mW (mRo L xs) mTab 154 0 [some (.int g)] [] h k = some (.inl (some (.int (pSx g))), h, k) := by
  simp only [e154_0, e154_3, e154_4, e154_6, e154_7, e154_8, kIA_1]
theorem c_stepY : mW (mRo L xs) mTab 155 0 [some (.int g)] [] h k = some (.inl (some (.int (pSy g))), h, k) := by
  simp only [e155_0, e155_3, e155_4, e155_6, e155_7, e155_8, kIA_2]
theorem c_numberOf : mW (mRo L xs) mTab 152 0 [some (.int x), some (.int y), some (.int g), none, none] [] h k = some (.inl (some (.int (pNum x y g))), h, k) := by
  simp only [e152_0, e152_1, e152_4, e152_5, e152_7, e152_10, e152_11, e152_14, e152_15, e152_17, e152_20, e152_21, e152_24, e152_25, e152_26, e152_27, e152_30, e152_31, e152_33, e152_36, e152_37, e152_40, e152_41, e152_43, e152_44, e152_47, e152_49, e152_52, e152_53, e152_56, e152_57, e152_58, e152_60, e152_61, e152_62, e152_63, e152_64, e152_67, e152_68, pNum]
  by_cases h1 : x < 0
  · simp [h1]
  by_cases h2 : 16 ≤ x
  · simp [h1, h2]
  by_cases h3 : y < 0
  · simp [h1, h2, h3]
  by_cases h4 : 16 ≤ y
  · simp [h1, h2, h3, h4]
  by_cases h5 : g < 0
  · simp [h1, h2, h3, h4, h5]
  by_cases h6 : 8 ≤ g
  · simp [h1, h2, h3, h4, h5, h6]
  · simp [h1, h2, h3, h4, h5, h6]
def pStepped (p w : Int32) : Int32 := pNum (pX p + w * pSx (pH p)) (pY p + w * pSy (pH p)) (pH p)
theorem c_stepped : mW (mRo L xs) mTab 156 0 [some (.int p), some (.int w), none] [] h k = some (.inl (some (.int (pStepped p w))), h, k) := by
  simp only [e156_0, e156_1, e156_4, e156_5, e156_6, e156_9, e156_10, e156_11, e156_14, e156_15, e156_16, e156_17, e156_20, e156_21, e156_22, e156_25, e156_26, e156_27, e156_28, e156_31, c_xOf, c_yOf, c_headingOf, c_stepX, c_stepY, c_numberOf, mAft, Option.toList_some, Option.toList_none, List.cons_append, List.nil_append, List.map_nil, List.map_cons, List.sum_nil, List.sum_cons, Value.category, Nat.reduceAdd, Nat.reduceLeDiff, pStepped]
theorem d_in : mW (mRo L xs) mTab 100 0 [some (.int v), some (.int a), some (.int b)] [] h k = some (.inl (some (.int (pB (a ≤ v ∧ v ≤ b)))), h, k) := by
  simp only [e100_0, e100_1, e100_2, e100_5, e100_6, e100_7, e100_10, e100_11, e100_14, e100_15 (Or.inl rfl), e100_15 (Or.inr rfl), pB]
  by_cases h1 : v < a <;> by_cases h2 : b < v <;> simp [h1, h2, Int32.not_lt.mp, ← Int32.not_lt]
theorem n2_0 : ((2 : Int32) = 0) = False := by decide
theorem n3_0 : ((3 : Int32) = 0) = False := by decide
theorem n8_0 : ((8 : Int32) = 0) = False := by decide
theorem n16_0 : ((16 : Int32) = 0) = False := by decide
theorem n256_0 : ((256 : Int32) = 0) = False := by decide
theorem pB_pos {P : Prop} [Decidable P] (hp : P) : pB P = 1 := if_pos hp
theorem pB_neg {P : Prop} [Decidable P] (hp : ¬ P) : pB P = 0 := if_neg hp
theorem pB_eq0 {P : Prop} [Decidable P] : (pB P = 0) = ¬ P := by unfold pB; by_cases hp : P <;> simp [hp]
def qRem (a b : Int32) : Int32 := a - a / b * b
theorem d_isReverse : mW (mRo L xs) mTab 110 0 [some (.int m)] [] h k = some (.inl (some (.int (pB (2 < m)))), h, k) := by
  simp only [e110_0, e110_1, e110_2, e110_5, e110_6, e110_9, e110_10 (Or.inl rfl), e110_10 (Or.inr rfl)]
  by_cases h1 : 2 < m
  · rw [if_neg (Int32.not_le.mpr h1), pB_pos h1]
  · rw [if_pos (Int32.not_lt.mp h1), pB_neg h1]
def qTurn (m : Int32) : Int32 := if qRem m 3 = 1 then 7 else if qRem m 3 = 2 then 1 else 0
theorem d_turn : mW (mRo L xs) mTab 140 0 [some (.int m)] [] h k = some (.inl (some (.int (qTurn m))), h, k) := by
  simp only [e140_0, e140_1, e140_2, e140_3, e140_4, e140_7, e140_9, e140_12, e140_13, e140_14, e140_15, e140_16, e140_19, e140_20, e140_23, e140_24, mAft, Option.toList_some, Option.toList_none, List.cons_append, List.nil_append, List.map_nil, List.map_cons, List.sum_nil, List.sum_cons, Value.category, Nat.reduceAdd, Nat.reduceLeDiff, n2_0, n3_0, n8_0, n16_0, n256_0, not_false_eq_true, qTurn, qRem]
  by_cases h1 : m - m / 3 * 3 = 1
  · simp [h1]
  by_cases h2 : m - m / 3 * 3 = 2
  · simp [h2]
  · simp [h1, h2]
def qHb (g m : Int32) : Int32 := if 2 < m then qRem (g + 8 - qTurn m) 8 else qRem (g + qTurn m) 8
theorem d_hb : mW (mRo L xs) mTab 99 0 [some (.int g), some (.int m)] [] h k = some (.inl (some (.int (qHb g m))), h, k) := by
  simp only [e99_0, e99_1, e99_4, e99_7, e99_8, e99_10, e99_11, e99_12, e99_15, e99_16, e99_18, e99_19, e99_22, e99_23, e99_24, e99_27, e99_28, e99_30, e99_31, d_isReverse, d_turn, mAft, Option.toList_some, Option.toList_none, List.cons_append, List.nil_append, List.map_nil, List.map_cons, List.sum_nil, List.sum_cons, Value.category, Nat.reduceAdd, Nat.reduceLeDiff, n2_0, n3_0, n8_0, n16_0, n256_0, not_false_eq_true, pB_eq0, qHb, qRem]
  by_cases h1 : 2 < m <;> simp only [h1, if_true, if_false, not_true_eq_false, not_false_eq_true]
def qSx (g : Int32) : Int32 := if g < 2 ∨ g = 7 then 1 else if 3 ≤ g ∧ g ≤ 5 then -1 else 0
theorem d_stepX : mW (mRo L xs) mTab 133 0 [some (.int g)] [] h k = some (.inl (some (.int (qSx g))), h, k) := by
  simp only [e133_0, e133_1, e133_2, e133_5, e133_6, e133_8, e133_11, e133_12, e133_15, e133_16, e133_17, e133_18, e133_21, e133_24, e133_25, e133_28, e133_29, d_in, mAft, Option.toList_some, Option.toList_none, List.cons_append, List.nil_append, List.map_nil, List.map_cons, List.sum_nil, List.sum_cons, Value.category, Nat.reduceAdd, Nat.reduceLeDiff, n2_0, n3_0, n8_0, n16_0, n256_0, not_false_eq_true, pB_eq0, qSx]
  by_cases h1 : g < 2
  · simp [h1]
  by_cases h2 : g = 7
  · simp [h2]
  by_cases h3 : 3 ≤ g ∧ g ≤ 5
  · simp [h1, h2, h3]
  · simp [h1, h2, h3]
def qSy (g : Int32) : Int32 := qSx (qRem (g + 6) 8)
theorem d_stepY : mW (mRo L xs) mTab 134 0 [some (.int g)] [] h k = some (.inl (some (.int (qSy g))), h, k) := by
  simp only [e134_0, e134_1, e134_3, e134_4, e134_6, e134_7, e134_10, d_stepX, mAft, Option.toList_some, Option.toList_none, List.cons_append, List.nil_append, List.map_nil, List.map_cons, List.sum_nil, List.sum_cons, Value.category, Nat.reduceAdd, Nat.reduceLeDiff, n2_0, n3_0, n8_0, n16_0, n256_0, not_false_eq_true, qSy, qRem]
theorem d_isCell : mW (mRo L xs) mTab 103 0 [some (.int x), some (.int y)] [] h k = some (.inl (some (.int (pB ((0 ≤ x ∧ x ≤ 15) ∧ 0 ≤ y ∧ y ≤ 15)))), h, k) := by
  simp only [e103_0, e103_1, e103_2, e103_4, e103_7, e103_10, e103_11, e103_12, e103_14, e103_17, e103_20, e103_21, e103_24, e103_25 (Or.inl rfl), e103_25 (Or.inr rfl), d_in, mAft, Option.toList_some, Option.toList_none, List.cons_append, List.nil_append, List.map_nil, List.map_cons, List.sum_nil, List.sum_cons, Value.category, Nat.reduceAdd, Nat.reduceLeDiff, n2_0, n3_0, n8_0, n16_0, n256_0, not_false_eq_true, pB_eq0]
  by_cases h1 : 0 ≤ x ∧ x ≤ 15 <;> by_cases h2 : 0 ≤ y ∧ y ≤ 15 <;> simp [h1, h2, pB]
theorem d_isPose : mW (mRo L xs) mTab 109 0 [some (.int x), some (.int y), some (.int g)] [] h k = some (.inl (some (.int (pB (((0 ≤ x ∧ x ≤ 15) ∧ 0 ≤ y ∧ y ≤ 15) ∧ 0 ≤ g ∧ g ≤ 7)))), h, k) := by
  simp only [e109_0, e109_1, e109_2, e109_5, e109_8, e109_9, e109_10, e109_12, e109_15, e109_18, e109_19, e109_22, e109_23 (Or.inl rfl), e109_23 (Or.inr rfl), d_in, d_isCell, mAft, Option.toList_some, Option.toList_none, List.cons_append, List.nil_append, List.map_nil, List.map_cons, List.sum_nil, List.sum_cons, Value.category, Nat.reduceAdd, Nat.reduceLeDiff, n2_0, n3_0, n8_0, n16_0, n256_0, not_false_eq_true, pB_eq0]
  by_cases h1 : (0 ≤ x ∧ x ≤ 15) ∧ 0 ≤ y ∧ y ≤ 15 <;> by_cases h2 : 0 ≤ g ∧ g ≤ 7 <;> simp [h1, h2, pB]
theorem d_poseAt : mW (mRo L xs) mTab 125 0 [some (.int x), some (.int y), some (.int g)] [] h k = some (.inl (some (.int (256 * g + 16 * y + x))), h, k) := by
  simp only [e125_0, e125_3, e125_4, e125_5, e125_7, e125_8, e125_9, e125_10, e125_11, e125_12]
def qFx (g m : Int32) : Int32 := (if 2 < m then -1 else 1) * (qSx g + (if qRem m 3 = 0 then 0 else qSx (qHb g m)))
def qFy (g m : Int32) : Int32 := (if 2 < m then -1 else 1) * (qSy g + (if qRem m 3 = 0 then 0 else qSy (qHb g m)))
theorem d_farX : mW (mRo L xs) mTab 88 0 [some (.int g), some (.int m), none, none] [] h k = some (.inl (some (.int (qFx g m))), h, k) := by
  simp only [e88_0, e88_1, e88_4, e88_7, e88_8, e88_11, e88_12, e88_13, e88_14, e88_15, e88_16, e88_19, e88_20, e88_23, e88_24, e88_25, e88_28, e88_31, e88_32, e88_33, e88_34, e88_37, e88_38, e88_39, e88_40, d_isReverse, d_hb, d_stepX, mAft, Option.toList_some, Option.toList_none, List.cons_append, List.nil_append, List.map_nil, List.map_cons, List.sum_nil, List.sum_cons, Value.category, Nat.reduceAdd, Nat.reduceLeDiff, n2_0, n3_0, n8_0, n16_0, n256_0, not_false_eq_true, pB_eq0, qFx, qRem]
  by_cases h1 : 2 < m <;> by_cases h2 : m - m / 3 * 3 = 0 <;> simp [h1, h2]
theorem d_farY : mW (mRo L xs) mTab 89 0 [some (.int g), some (.int m), none, none] [] h k = some (.inl (some (.int (qFy g m))), h, k) := by
  simp only [e89_0, e89_1, e89_4, e89_7, e89_8, e89_11, e89_12, e89_13, e89_14, e89_15, e89_16, e89_19, e89_20, e89_23, e89_24, e89_25, e89_28, e89_31, e89_32, e89_33, e89_34, e89_37, e89_38, e89_39, e89_40, d_isReverse, d_hb, d_stepY, mAft, Option.toList_some, Option.toList_none, List.cons_append, List.nil_append, List.map_nil, List.map_cons, List.sum_nil, List.sum_cons, Value.category, Nat.reduceAdd, Nat.reduceLeDiff, n2_0, n3_0, n8_0, n16_0, n256_0, not_false_eq_true, pB_eq0, qFy, qRem]
  by_cases h1 : 2 < m <;> by_cases h2 : m - m / 3 * 3 = 0 <;> simp [h1, h2]
def qCell (x y : Int32) : Prop := (0 ≤ x ∧ x ≤ 15) ∧ 0 ≤ y ∧ y ≤ 15
def qEnd (p m : Int32) : Int32 := if (0 ≤ qRem p 16 + qFx (p / 256) m ∧ qRem p 16 + qFx (p / 256) m ≤ 15) ∧ 0 ≤ qRem p 256 / 16 + qFy (p / 256) m ∧ qRem p 256 / 16 + qFy (p / 256) m ≤ 15
  then 256 * qHb (p / 256) m + 16 * (qRem p 256 / 16 + qFy (p / 256) m) + (qRem p 16 + qFx (p / 256) m) else -1
theorem toRem (a b : Int32) : a - a / b * b = qRem a b := rfl
theorem d_endOf : mW (mRo L xs) mTab 87 0 [some (.int p), some (.int m), none, none, none] [] h k = some (.inl (some (.int (qEnd p m))), h, k) := by
  simp only [e87_0, e87_1, e87_4, e87_5, e87_6, e87_7, e87_9, e87_10, e87_11, e87_12, e87_15, e87_16, e87_17, e87_18, e87_21, e87_22, e87_24, e87_25, e87_26, e87_27, e87_30, e87_31, e87_33, e87_34, e87_36, e87_39, e87_42, e87_43, e87_45, e87_46, e87_47, e87_50, e87_53, e87_56, e87_57, d_farX, d_farY, d_isCell, d_hb, d_poseAt, mAft, Option.toList_some, Option.toList_none, List.cons_append, List.nil_append, List.map_nil, List.map_cons, List.sum_nil, List.sum_cons, Value.category, Nat.reduceAdd, Nat.reduceLeDiff, n2_0, n3_0, n8_0, n16_0, n256_0, not_false_eq_true, pB_eq0, toRem]
  unfold qEnd
  by_cases h1 : (0 ≤ qRem p 16 + qFx (p / 256) m ∧ qRem p 16 + qFx (p / 256) m ≤ 15) ∧ 0 ≤ qRem p 256 / 16 + qFy (p / 256) m ∧ qRem p 256 / 16 + qFy (p / 256) m ≤ 15
  · rw [if_neg (fun z => z h1), if_pos h1]
  · rw [if_pos h1, if_neg h1]
theorem c_wayOf : mW (mRo L xs) mTab 160 0 [some (.int m)] [] h k = some (.inl (some (.int (if m < 3 then 1 else -1))), h, k) := by
  simp only [e160_0, e160_1, e160_2, e160_5, e160_6, e160_9, e160_10]
  split <;> rfl
theorem c_isBack : mW (mRo L xs) mTab 149 0 [some (.int m)] [] h k = some (.inl (some (.int (if m < 3 then 0 else 1))), h, k) := by
  simp only [e149_0, e149_1, e149_2, e149_5, e149_6, e149_9, e149_10 (Or.inl rfl), e149_10 (Or.inr rfl)]
  split <;> rfl
theorem c_isArc : mW (mRo L xs) mTab 148 0 [some (.int m)] [] h k = some (.inl (some (.int (if m = 0 ∨ m = 3 then 0 else 1))), h, k) := by
  simp only [e148_0, e148_1, e148_4, e148_5, e148_6, e148_9, e148_10, e148_13, e148_14 (Or.inl rfl), e148_14 (Or.inr rfl)]
  by_cases h1 : m = 0
  · simp [h1]
  by_cases h2 : m = 3 <;> simp [h1, h2]
def pTurn (m : Int32) : Int32 := if m = 1 ∨ m = 4 then -1 else if m = 2 ∨ m = 5 then 1 else 0
theorem c_turnOf : mW (mRo L xs) mTab 158 0 [some (.int m)] [] h k = some (.inl (some (.int (pTurn m))), h, k) := by
  simp only [e158_0, e158_1, e158_2, e158_5, e158_6, e158_7, e158_10, e158_11, e158_12, e158_13, e158_14, e158_17, e158_18, e158_19, e158_22, e158_23, e158_26, e158_27, pTurn]
  by_cases h1 : m = 1
  · simp [h1]
  by_cases h2 : m = 4
  · simp [h2]
  by_cases h3 : m = 2
  · simp [h3]
  by_cases h4 : m = 5 <;> simp [h1, h2, h3, h4]
theorem c_cellOf : mW (mRo L xs) mTab 145 0 [some (.int p)] [] h k = some (.inl (some (.int (p &&& 255))), h, k) := by
  simp only [e145_0, e145_1, e145_4, e145_5]
theorem c_isEven : mW (mRo L xs) mTab 151 0 [some (.int g)] [] h k = some (.inl (some (.int (pB (g &&& 1 = 0)))), h, k) := by
  simp only [e151_0, e151_1, e151_2, e151_3, e151_6, e151_7, e151_10, e151_11 (Or.inl rfl), e151_11 (Or.inr rfl), pB]
  by_cases h1 : g &&& 1 = 0 <;> simp [h1]
def pTurned (p m : Int32) : Int32 := ((pH p + (if m < 3 then 1 else -1) * pTurn m) &&& 7) * 256 + (p &&& 255)
theorem c_turned : mW (mRo L xs) mTab 159 0 [some (.int p), some (.int m), none] [] h k = some (.inl (some (.int (pTurned p m))), h, k) := by
  simp only [e159_0, e159_1, e159_4, e159_5, e159_8, e159_9, e159_12, e159_13, e159_14, e159_15, e159_16, e159_18, e159_19, e159_22, e159_23, e159_24, e159_27, e159_28, c_headingOf, c_wayOf, c_turnOf, c_cellOf, mAft, Option.toList_some, Option.toList_none, List.cons_append, List.nil_append, List.map_nil, List.map_cons, List.sum_nil, List.sum_cons, Value.category, Nat.reduceAdd, Nat.reduceLeDiff, n2_0, n3_0, n8_0, n16_0, n256_0, not_false_eq_true, pTurned]
theorem c_oppositeOf : mW (mRo L xs) mTab 153 0 [some (.int m)] [] h k = some (.inl (some (.int (if m < 3 then m + 3 else m - 3))), h, k) := by
  simp only [e153_0, e153_1, e153_4, e153_7, e153_8, e153_9, e153_10, e153_13, e153_14, e153_15, e153_16, c_isBack, mAft, Option.toList_some, Option.toList_none, List.cons_append, List.nil_append, List.map_nil, List.map_cons, List.sum_nil, List.sum_cons, Value.category, Nat.reduceAdd, Nat.reduceLeDiff, n2_0, n3_0, n8_0, n16_0, n256_0, not_false_eq_true]
  by_cases h1 : m < 3 <;> simp [h1]
def pSteps (g m : Int32) : Int32 := if m = 0 ∨ m = 3 then (if g &&& 1 = 0 then 10 else 14) else 24
theorem c_stepsCost : mW (mRo L xs) mTab 157 0 [some (.int g), some (.int m)] [] h k = some (.inl (some (.int (pSteps g m))), h, k) := by
  simp only [e157_0, e157_1, e157_4, e157_7, e157_9, e157_10, e157_11, e157_14, e157_17, e157_19, e157_22, e157_24, c_isArc, c_isEven, mAft, Option.toList_some, Option.toList_none, List.cons_append, List.nil_append, List.map_nil, List.map_cons, List.sum_nil, List.sum_cons, Value.category, Nat.reduceAdd, Nat.reduceLeDiff, n2_0, n3_0, n8_0, n16_0, n256_0, not_false_eq_true, pSteps, pB_eq0]
  by_cases h1 : m = 0 ∨ m = 3 <;> by_cases h2 : g &&& 1 = 0 <;> simp [h1, h2]
def qSteps (g m : Int32) : Int32 := if qRem m 3 = 0 then (if qRem g 2 = 0 then 10 else 14) else 24
theorem d_steps : mW (mRo L xs) mTab 135 0 [some (.int g), some (.int m)] [] h k = some (.inl (some (.int (qSteps g m))), h, k) := by
  simp only [e135_0, e135_1, e135_2, e135_3, e135_6, e135_8, e135_11, e135_12, e135_13, e135_14, e135_17, e135_19, e135_22, e135_24, mAft, Option.toList_some, Option.toList_none, List.cons_append, List.nil_append, List.map_nil, List.map_cons, List.sum_nil, List.sum_cons, Value.category, Nat.reduceAdd, Nat.reduceLeDiff, n2_0, n3_0, n8_0, n16_0, n256_0, not_false_eq_true, qSteps, qRem]
  by_cases h1 : m - m / 3 * 3 = 0 <;> by_cases h2 : g - g / 2 * 2 = 0 <;> simp [h1, h2]
def pEnded (p m : Int32) : Int32 := if pStepped p (if m < 3 then 1 else -1) = -1 ∨ (m = 0 ∨ m = 3) then pStepped p (if m < 3 then 1 else -1) else pStepped (pTurned (pStepped p (if m < 3 then 1 else -1)) m) (if m < 3 then 1 else -1)
theorem c_ended : mW (mRo L xs) mTab 146 0 [some (.int p), some (.int m), none] [] h k = some (.inl (some (.int (pEnded p m))), h, k) := by
  simp only [e146_0, e146_1, e146_2, e146_5, e146_8, e146_9, e146_10, e146_11, e146_14, e146_15, e146_18, e146_21, e146_22, e146_23, e146_24, e146_25, e146_28, e146_29, e146_32, e146_35, c_wayOf, c_stepped, c_isArc, c_turned, mAft, Option.toList_some, Option.toList_none, List.cons_append, List.nil_append, List.map_nil, List.map_cons, List.sum_nil, List.sum_cons, Value.category, Nat.reduceAdd, Nat.reduceLeDiff, n2_0, n3_0, n8_0, n16_0, n256_0, not_false_eq_true, pEnded]
  by_cases h1 : pStepped p (if m < 3 then 1 else -1) = -1
  · simp [h1]
  by_cases h2 : m = 0 ∨ m = 3
  · simp [h1, h2]
  · simp [h1, h2]
end
