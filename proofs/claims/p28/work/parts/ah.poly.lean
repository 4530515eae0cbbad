section
variable {L : Nat} {xs : Nat → Int32} {k : Nat} {h : List mCel} {po px py c : Nat} {fx fy : Nat → Int32}
/-- a polygon -/
def plH (po px py c : Nat) (fx fy : Nat → Int32) (h : List mCel) : Prop := mCell h po = some (.inr (3, [.ref px, .ref py, .int (Int32.ofNat c)])) ∧ mCell h px = some (.inl (0, 6, .inl fx)) ∧ mCell h py = some (.inl (0, 6, .inl fy)) ∧ c ≤ 6
theorem in_6 {i : Int32} (h1 : ¬ i < 0) (h2 : ¬ Int32.ofNat 6 ≤ i) : 0 ≤ i.toInt ∧ i.toInt < (6 : Nat) := by
  rw [Int32.lt_iff_toInt_lt] at h1
  rw [Int32.le_iff_toInt_le] at h2
  have e1 : (0 : Int32).toInt = 0 := rfl
  have e2 : (Int32.ofNat 6).toInt = 6 := rfl
  omega
theorem c_xAt (H : plH po px py c fx fy h) (i : Int32) : ∃ v, mW (mRo L xs) mTab 106 0 [some (.ref po), some (.int i)] [] h k = some (.inl (some (.int v)), h, k) := by
  by_cases h1 : i < 0
  · exact ⟨0, by rw [e106_0, e106_1, if_pos h1, e106_22, e106_23]⟩
  · by_cases h2 : Int32.ofNat 6 ≤ i
    · exact ⟨0, by rw [e106_0, e106_1, if_neg h1, e106_4, e106_5, e106_6, kF_eq H.1 (v := .ref px) rfl, e106_9, kAL_int H.2.1, e106_10, if_pos h2, e106_22, e106_23]⟩
    · exact ⟨_, by rw [e106_0, e106_1, if_neg h1, e106_4, e106_5, e106_6, kF_eq H.1 (v := .ref px) rfl, e106_9, kAL_int H.2.1, e106_10, if_neg h2, e106_13, e106_14, kF_eq H.1 (v := .ref px) rfl, e106_17, e106_18, kIA_int H.2.1 (in_6 h1 h2), e106_19, e106_23]⟩
theorem c_yAt (H : plH po px py c fx fy h) (i : Int32) : ∃ v, mW (mRo L xs) mTab 107 0 [some (.ref po), some (.int i)] [] h k = some (.inl (some (.int v)), h, k) := by
  by_cases h1 : i < 0
  · exact ⟨0, by rw [e107_0, e107_1, if_pos h1, e107_22, e107_23]⟩
  · by_cases h2 : Int32.ofNat 6 ≤ i
    · exact ⟨0, by rw [e107_0, e107_1, if_neg h1, e107_4, e107_5, e107_6, kF_eq H.1 (v := .ref py) rfl, e107_9, kAL_int H.2.2.1, e107_10, if_pos h2, e107_22, e107_23]⟩
    · exact ⟨_, by rw [e107_0, e107_1, if_neg h1, e107_4, e107_5, e107_6, kF_eq H.1 (v := .ref py) rfl, e107_9, kAL_int H.2.2.1, e107_10, if_neg h2, e107_13, e107_14, kF_eq H.1 (v := .ref py) rfl, e107_17, e107_18, kIA_int H.2.2.1 (in_6 h1 h2), e107_19, e107_23]⟩
theorem c_isCrossed (H : plH po px py c fx fy h) (l g x y : Int32) : ∃ v, (v = 0 ∨ v = 1) ∧ mW (mRo L xs) mTab 105 0 [some (.ref po), some (.int l), some (.int g), some (.int x), some (.int y), none, none, none, none] [] h k = some (.inl (some (.int v)), h, k) := by
  have rk := kR_eq H.1
  obtain ⟨yl, Yl⟩ := c_yAt (L := L) (xs := xs) (k := k) H l
  obtain ⟨yg, Yg⟩ := c_yAt (L := L) (xs := xs) (k := k) H g
  obtain ⟨xl, Xl⟩ := c_xAt (L := L) (xs := xs) (k := k) H l
  obtain ⟨xg, Xg⟩ := c_xAt (L := L) (xs := xs) (k := k) H g
  rw [e105_0, e105_1, e105_2, e105_3, e105_4, e105_5, e105_7, e105_8, e105_10, e105_11, e105_12, e105_13, e105_15, e105_16, e105_17, e105_18 rk (by simp [Value.category]), Yl]
  simp only [mAft, Option.toList_some, List.cons_append, List.nil_append]
  rw [e105_21, e105_22, e105_24]
  by_cases b1 : 2 * y + 1 < 2 * yl
  · rw [if_pos b1]
    exact ⟨0, Or.inl rfl, by rw [e105_39, e105_40 (Or.inl rfl)]⟩
  · rw [if_neg b1, e105_27, e105_28, e105_29, e105_30 rk (by simp [Value.category]), Yg]
    simp only [mAft, Option.toList_some, List.cons_append, List.nil_append]
    rw [e105_33, e105_34, e105_36]
    by_cases b2 : 2 * y + 1 ≤ 2 * yg
    · rw [if_pos b2, e105_41, e105_42, e105_43 rk (by simp [Value.category]), Yg]
      simp only [mAft, Option.toList_some, List.cons_append, List.nil_append]
      rw [e105_46, e105_47, e105_48 rk (by simp [Value.category]), Yl]
      simp only [mAft, Option.toList_some, List.cons_append, List.nil_append]
      rw [e105_51, e105_52, e105_54, e105_55, e105_56, e105_57 rk (by simp [Value.category]), Xl]
      simp only [mAft, Option.toList_some, List.cons_append, List.nil_append]
      rw [e105_60, e105_61, e105_63, e105_64, e105_66, e105_67, e105_68, e105_69 rk (by simp [Value.category]), Yl]
      simp only [mAft, Option.toList_some, List.cons_append, List.nil_append]
      rw [e105_72, e105_73, e105_74, e105_75, e105_76 rk (by simp [Value.category]), Xg]
      simp only [mAft, Option.toList_some, List.cons_append, List.nil_append]
      rw [e105_79, e105_80, e105_81 rk (by simp [Value.category]), Xl]
      simp only [mAft, Option.toList_some, List.cons_append, List.nil_append]
      rw [e105_84, e105_85, e105_86, e105_87, e105_89, e105_91, e105_93, e105_95, e105_96]
      by_cases b3 : 2 * xl * (yg - yl) + (2 * y + 1 - 2 * yl) * (xg - xl) ≤ (2 * x + 1) * (yg - yl)
      · rw [if_pos b3]
        exact ⟨0, Or.inl rfl, by rw [e105_103, e105_104 (Or.inl rfl)]⟩
      · rw [if_neg b3]
        exact ⟨1, Or.inr rfl, by rw [e105_99, e105_100, e105_104 (Or.inr rfl)]⟩
    · rw [if_neg b2]
      exact ⟨0, Or.inl rfl, by rw [e105_39, e105_40 (Or.inl rfl)]⟩
theorem blocks_loop (H : plH po px py c fx fy h) (x y : Int32) : ∀ (d i : Nat) (b l : Int32) (l6 : Option Value), i + d = c → (b = 0 ∨ b = 1) → ∃ v, (v = 0 ∨ v = 1) ∧
    mW (mRo L xs) mTab 101 13 [some (.ref po), some (.int x), some (.int y), some (.int b), some (.int l), some (.int (Int32.ofNat i)), l6] [] h k = some (.inl (some (.int v)), h, k) := by
  have rk := kR_eq H.1
  have hc := H.2.2.2
  intro d
  induction d with
  | zero =>
    intro i b l l6 hi hb
    obtain rfl : i = c := by omega
    exact ⟨b, hb, by rw [e101_13, e101_15, e101_16, kF_eq H.1 (v := .int (Int32.ofNat i)) rfl, e101_19, if_pos (Int32.le_refl _), e101_97, e101_98 hb]⟩
  | succ d IH =>
    intro i b l l6 hi hb
    obtain ⟨yl, Yl⟩ := c_yAt (L := L) (xs := xs) (k := k) H l
    obtain ⟨ya, Ya⟩ := c_yAt (L := L) (xs := xs) (k := k) H (Int32.ofNat i)
    -- from where the side's ends are known
    have side : ∀ r : Int32, ∃ v, (v = 0 ∨ v = 1) ∧ mW (mRo L xs) mTab 101 44 [some (.ref po), some (.int x), some (.int y), some (.int b), some (.int l), some (.int (Int32.ofNat i)), some (.int r)] [] h k = some (.inl (some (.int v)), h, k) := by
      intro r
      have fin : ∀ u w : Int32, ∃ v, (v = 0 ∨ v = 1) ∧ mW (mRo L xs) mTab 101 69 [some (.ref po), some (.int x), some (.int y), some (.int b), some (.int l), some (.int (Int32.ofNat i)), some (.int r)] [.int w, .int u, .ref po] h k = some (.inl (some (.int v)), h, k) := by
        intro u w
        obtain ⟨cr, hcr, CR⟩ := c_isCrossed (L := L) (xs := xs) (k := k) H u w x y
        have on : ∀ b' : Int32, (b' = 0 ∨ b' = 1) → ∃ v, (v = 0 ∨ v = 1) ∧ mW (mRo L xs) mTab 101 87 [some (.ref po), some (.int x), some (.int y), some (.int b'), some (.int l), some (.int (Int32.ofNat i)), some (.int r)] [] h k = some (.inl (some (.int v)), h, k) := by
          intro b' hb'
          obtain ⟨v, v1, v2⟩ := IH (i + 1) b' (Int32.ofNat i) (some (.int r)) (by omega) hb'
          exact ⟨v, v1, by rw [e101_87, e101_89, e101_91, oi_succ, e101_94]; exact v2⟩
        rw [e101_69, e101_70, e101_71 rk (by simp [Value.category]), CR]
        simp only [mAft, Option.toList_some, List.cons_append, List.nil_append]
        rw [e101_74]
        by_cases z : cr = 0
        · rw [if_pos z]; exact on b hb
        · rw [if_neg z, e101_77, e101_78]
          by_cases y' : b = 0
          · rw [if_neg (not_not_intro y'), e101_81, e101_82, e101_86]; exact on 1 (Or.inr rfl)
          · rw [if_pos y', e101_85, e101_86]; exact on 0 (Or.inl rfl)
      rw [e101_44, e101_45, e101_47]
      by_cases z : r = 0
      · rw [if_pos z, e101_55, e101_57, e101_59, if_pos z, e101_67]; exact fin _ _
      · rw [if_neg z, e101_50, e101_52, e101_57, e101_59, if_neg z, e101_62, e101_64]; exact fin _ _
    rw [e101_13, e101_15, e101_16, kF_eq H.1 (v := .int (Int32.ofNat c)) rfl, e101_19, if_neg (by rw [oi_le (by omega) (by omega)]; omega), e101_22, e101_23, e101_25 rk (by simp [Value.category]), Yl]
    simp only [mAft, Option.toList_some, List.cons_append, List.nil_append]
    rw [e101_28, e101_29, e101_31 rk (by simp [Value.category]), Ya]
    simp only [mAft, Option.toList_some, List.cons_append, List.nil_append]
    rw [e101_34]
    by_cases z : ya ≤ yl
    · rw [if_pos z, e101_41, e101_42]; exact side 0
    · rw [if_neg z, e101_37, e101_38, e101_42]; exact side 1
theorem c_blocks (H : plH po px py c fx fy h) (x y : Int32) : ∃ v, (v = 0 ∨ v = 1) ∧ mW (mRo L xs) mTab 101 0 [some (.ref po), some (.int x), some (.int y), none, none, none, none] [] h k = some (.inl (some (.int v)), h, k) := by
  obtain ⟨v, v1, v2⟩ := blocks_loop (L := L) (xs := xs) (k := k) H x y c 0 0 (Int32.ofNat c - 1) none (Nat.zero_add _) (Or.inl rfl)
  refine ⟨v, v1, ?_⟩
  rw [e101_0, e101_1, e101_2, e101_3, kF_eq H.1 (v := .int (Int32.ofNat c)) rfl, e101_6, e101_7, e101_8, e101_10, e101_11]
  exact v2
theorem c_plCount (H : plH po px py c fx fy h) : mW (mRo L xs) mTab 103 0 [some (.ref po)] [] h k = some (.inl (some (.int (Int32.ofNat c))), h, k) := by
  rw [e103_0, e103_1, kF_eq H.1 (v := .int (Int32.ofNat c)) rfl, e103_4]
end
