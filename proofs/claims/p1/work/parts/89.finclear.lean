section
variable {xs : Nat → Int32} {k : Nat} {h h1 h2 : List mCel} {fX fY fc fo fcl fcan : Nat → Int32}
theorem pose_cases (x y g : Int32) : ((((0 ≤ x ∧ x ≤ 15) ∧ 0 ≤ y ∧ y ≤ 15) ∧ 0 ≤ g ∧ g ≤ 7) ∧ ∃ p, p < 2048 ∧ pNum x y g = Int32.ofNat p ∧ ¬ (pNum x y g = -1) ∧ x = Int32.ofNat (p % 16) ∧ y = Int32.ofNat (p / 16 % 16) ∧ g = Int32.ofNat (p / 256) ∧ 256 * g + 16 * y + x = Int32.ofNat p) ∨
    (¬ (((0 ≤ x ∧ x ≤ 15) ∧ 0 ≤ y ∧ y ≤ 15) ∧ 0 ≤ g ∧ g ≤ 7) ∧ pNum x y g = -1) := by
  by_cases c : ((0 ≤ x ∧ x ≤ 15) ∧ 0 ≤ y ∧ y ≤ 15) ∧ 0 ≤ g ∧ g ≤ 7
  · left
    refine ⟨c, ?_⟩
    obtain ⟨a, ha, rfl⟩ := num_of (n := 15) (by decide) c.1.1
    obtain ⟨b, hb, rfl⟩ := num_of (n := 15) (by decide) c.1.2
    obtain ⟨e, he, rfl⟩ := num_of (n := 7) (by decide) c.2
    have nn : ¬ (Int32.ofNat a < 0 ∨ 16 ≤ Int32.ofNat a ∨ Int32.ofNat b < 0 ∨ 16 ≤ Int32.ofNat b ∨ Int32.ofNat e < 0 ∨ 8 ≤ Int32.ofNat e) := by
      have l16 : ∀ u, u < 16 → ¬ ((16 : Int32) ≤ Int32.ofNat u) := fun u hu => by rw [show (16 : Int32) = Int32.ofNat 16 from rfl, oi_le (by decide) (by omega)]; omega
      have l8 : ¬ ((8 : Int32) ≤ Int32.ofNat e) := by rw [show (8 : Int32) = Int32.ofNat 8 from rfl, oi_le (by decide) (by omega)]; omega
      rintro (z | z | z | z | z | z)
      · exact oi_nneg (by omega) z
      · exact l16 a (by omega) z
      · exact oi_nneg (by omega) z
      · exact l16 b (by omega) z
      · exact oi_nneg (by omega) z
      · exact l8 z
    have en : pNum (Int32.ofNat a) (Int32.ofNat b) (Int32.ofNat e) = Int32.ofNat (256 * e + 16 * b + a) := by
      unfold pNum
      rw [if_neg nn, oi_add, oi_add, oi_mul, oi_mul, Int32.mul_comm (Int32.ofNat 256), Int32.mul_comm (Int32.ofNat 16)]
      rfl
    refine ⟨256 * e + 16 * b + a, by omega, en, ?_, ?_, ?_, ?_, ?_⟩
    · rw [en]; intro z
      have := oi_nneg (i := 256 * e + 16 * b + a) (by omega)
      rw [z] at this; exact this (by decide)
    · congr 1; omega
    · congr 1; omega
    · congr 1; omega
    · rw [oi_add, oi_add, oi_mul, oi_mul]; rfl
  · right
    refine ⟨c, ?_⟩
    unfold pNum
    rw [if_pos]
    refine Classical.byContradiction fun z => c ?_
    simp only [not_or, Int32.not_lt, Int32.not_le] at z
    obtain ⟨z1, z2, z3, z4, z5, z6⟩ := z
    have up : ∀ (u : Int32) (n : Nat), n < 1000 → u < Int32.ofNat (n + 1) → u ≤ Int32.ofNat n := by
      intro u n hn hu
      rw [Int32.lt_iff_toInt_lt, oi_int (by omega)] at hu
      rw [Int32.le_iff_toInt_le, oi_int (by omega)]; omega
    exact ⟨⟨⟨z1, up x 15 (by decide) z2⟩, z3, up y 15 (by decide) z4⟩, z5, up g 7 (by decide) z6⟩
-- clearance
theorem cx_7 {x y : Int32} (hc : pNum x y 0 = -1) : mW (mRo 8 xs) mTab 41 0 [some (.ref 8), some (.int x), some (.int y)] [] (hL fX fY fc fo fcl fcan) 0 = some (.inr 2, hL fX fY fc fo fcl fcan, 1) := by
  rw [e41_0, e41_1, kF_eq x8 (v := .ref 12) rfl, e41_4, e41_5, e41_6, e41_7 (by simp [Value.category]), c_reqPose, if_pos hc]
  rfl
theorem cn_7 {x y : Int32} (h16 : all16 fc) (hc : ¬ pNum x y 0 = -1) : mW (mRo 8 xs) mTab 41 0 [some (.ref 8), some (.int x), some (.int y)] [] (hL fX fY fc fo fcl fcan) 0 = some (.inl (some (.int 16)), hL fX fY fc fo fcl fcan, 0) := by
  have p16 : ∀ p : Int32, pAt fc p = 16 := by
    intro p
    have a := and255 p
    unfold pAt
    apply h16
    have : ((p &&& 255).toNatClampNeg : Int) = (p &&& 255).toInt := by rw [Int32.toNatClampNeg]; omega
    omega
  rw [e41_0, e41_1, kF_eq x8 (v := .ref 12) rfl, e41_4, e41_5, e41_6, e41_7 (by simp [Value.category]), c_reqPose, if_neg hc]
  simp only [mAft, Option.toList_some, List.cons_append, List.nil_append]
  rw [e41_10 (kR_eq x12) (by simp), c_clearOf x12 rfl x15, p16]
  simp only [mAft, Option.toList_some, List.cons_append, List.nil_append]
  rw [e41_13]
theorem dx_7 {x y : Int32} (hc : ¬ ((0 ≤ x ∧ x ≤ 15) ∧ 0 ≤ y ∧ y ≤ 15)) (M : mCell h 42 = some (.inr (11, mFS 42))) : mW (mRo 8 xs) mTab 80 0 [some (.ref 42), some (.int x), some (.int y)] [] h k = some (.inl (some (.int 0)), h.set (42 - 8) (.inr (11, (mFS 42).set 45 (.int 1))), k) := by
  rw [e80_0, e80_1, e80_2, e80_3 (by simp [Value.category]), d_isCell]
  simp only [mAft, Option.toList_some, List.cons_append, List.nil_append]
  rw [e80_6, e80_7, e80_8 (kR_eq M) (by simp), g_false M rfl hc]
  simp only [mAft, Option.toList_some, List.cons_append, List.nil_append]
  rw [e80_11, if_pos rfl, e80_40, e80_41]
theorem dn_7 {x y : Int32} (h16 : all16 fcl) (hc : (0 ≤ x ∧ x ≤ 15) ∧ 0 ≤ y ∧ y ≤ 15) (M : mCell h 42 = some (.inr (11, mFS 42))) (C : mCell h 50 = some (.inl (0, 256, .inl fcl))) : mW (mRo 8 xs) mTab 80 0 [some (.ref 42), some (.int x), some (.int y)] [] h k = some (.inl (some (.int 16)), h.set (42 - 8) (.inr (11, (mFS 42).set 45 (.int 0))), k) := by
  have M2 := cell_set (d := .inr (11, (mFS 42).set 45 (.int 0))) M
  have C2 := (cell_setne (d := .inr (11, (mFS 42).set 45 (.int 0))) (show 42 ≠ 50 by decide) (by decide)).trans C
  have cn := cell_num hc
  have cn2 : (16 * y + x).toNatClampNeg < 256 := by
    have : ((16 * y + x).toNatClampNeg : Int) = (16 * y + x).toInt := by rw [Int32.toNatClampNeg]; omega
    omega
  rw [e80_0, e80_1, e80_2, e80_3 (by simp [Value.category]), d_isCell]
  simp only [mAft, Option.toList_some, List.cons_append, List.nil_append]
  rw [e80_6, e80_7, e80_8 (kR_eq M) (by simp), g_true M rfl hc]
  simp only [mAft, Option.toList_some, List.cons_append, List.nil_append]
  rw [e80_11, if_neg (by decide), e80_14, e80_15, kF_eq M2 (v := .ref 50) rfl, e80_18, e80_19, e80_20 (by simp [Value.category]), d_isCell, pB_pos hc]
  simp only [mAft, Option.toList_some, List.cons_append, List.nil_append]
  rw [e80_23, if_neg (by decide), e80_26, e80_28, e80_29, e80_30, e80_31, e80_32, e80_36, kIA_int C2 cn, h16 _ cn2, e80_37, e80_41]
theorem fin_7 (h1 : all16 fc) (h2 : all16 fcl) : lawEnd xs 501 (hL fX fY fc fo fcl fcan) := by
  rcases pose_cases (xs 1) (xs 2) 0 with ⟨z, p, _, _, hn, _⟩ | ⟨z, hn⟩
  · have z2 := z.1
    have M := m_of (out_K keep_refl (v := (16 : Int32).toInt64)) (h1 := wOut (hL fX fY fc fo fcl fcan) (16 : Int32).toInt64) ⟨Nat.le_refl _, by decide⟩ x42
    have C := m_of (a := 50) (out_K keep_refl (v := (16 : Int32).toInt64)) (h1 := wOut (hL fX fY fc fo fcl fcan) (16 : Int32).toInt64) ⟨by decide, by decide⟩ x50
    have D := dn_7 (xs := xs) (k := 0) h2 z2 M C
    obtain ⟨l7, E⟩ := lc_7 (hn_233 (kR_eq x8) (cn_7 h1 hn) x62) M D (cell_set M) rfl (fun _ => out_O keep_refl (g_keep M))
    exact fin_n keep_refl (g_keep M) E
  · have z2 : ¬ ((0 ≤ xs 1 ∧ xs 1 ≤ 15) ∧ 0 ≤ xs 2 ∧ xs 2 ≤ 15) := fun y => z ⟨y, by decide, by decide⟩
    obtain ⟨l7, E⟩ := lc_7 (hx_233_2 (kR_eq x8) (cx_7 hn)) x42 (dx_7 z2 x42) (cell_set x42) rfl (fun z => absurd z (by decide))
    exact end_of E x_keep.1 x_keep.2.1 (by decide)
end
