/-! The class's field: rows read. -/
theorem kAL_int {ro : Nat → Nat × (Nat → Int32)} {h : List mCel} {a n : Nat} {f : Nat → Int32} {k : Int32 → Option mOut} (hc : mCell h a = some (.inl (0, n, .inl f))) : kAL ro h a k = k (Int32.ofNat n) := by
  unfold kAL; rw [if_neg (by have := (cell_8 hc).1; omega), hc]; rfl
theorem kAL_bool {ro : Nat → Nat × (Nat → Int32)} {h : List mCel} {a n : Nat} {f : Nat → Int32} {k : Int32 → Option mOut} (hc : mCell h a = some (.inl (1, n, .inl f))) : kAL ro h a k = k (Int32.ofNat n) := by
  unfold kAL; rw [if_neg (by have := (cell_8 hc).1; omega), hc]; rfl
theorem kIA_int {ro : Nat → Nat × (Nat → Int32)} {h : List mCel} {a n : Nat} {f : Nat → Int32} {j : Int32} {k : Int32 → Option mOut} (hc : mCell h a = some (.inl (0, n, .inl f))) (hj : 0 ≤ j.toInt ∧ j.toInt < n) : kIA ro h a j k = k (f j.toNatClampNeg) := by
  unfold kIA; rw [if_neg (by have := (cell_8 hc).1; omega), hc]; exact if_pos hj
theorem kBA_bool {h : List mCel} {a n : Nat} {f : Nat → Int32} {j : Int32} {k : Int32 → Option mOut} (hc : mCell h a = some (.inl (1, n, .inl f))) (hj : 0 ≤ j.toInt ∧ j.toInt < n) : kBA h a j k = k (f j.toNatClampNeg) := by
  unfold kBA; rw [hc]; exact if_pos hj
theorem and255 (g : Int32) : 0 ≤ (g &&& 255).toInt ∧ (g &&& 255).toInt < (256 : Nat) := by
  have h1 : (g &&& 255).toBitVec.toNat ≤ 255 := by
    rw [Int32.toBitVec_and, BitVec.toNat_and]; exact Nat.and_le_right
  have h2 : (g &&& 255).toInt = ((g &&& 255).toBitVec.toNat : Int) := by
    unfold Int32.toInt; rw [BitVec.toInt_eq_toNat_of_lt (by omega)]
  omega
theorem and255_lt (g : Int32) : ¬ (Int32.ofNat 256 ≤ g &&& 255) := fun z => by
  have h1 := Int32.le_iff_toInt_le.mp z
  have h2 := (and255 g).2
  rw [oi_int (by decide)] at h1
  omega
section
variable {L : Nat} {xs : Nat → Int32} {h : List mCel} {k : Nat}
def pAt (f : Nat → Int32) (p : Int32) : Int32 := f (p &&& 255).toNatClampNeg
theorem c_isBlocked {a cv : Nat} {fs : List Value} {f : Nat → Int32} {p : Int32} (hc : mCell h a = some (.inr (1, fs))) (h2 : fs[2]? = some (.ref cv)) (hcv : mCell h cv = some (.inl (0, 256, .inl f))) :
    mW (mRo L xs) mTab 13 0 [some (.ref a), some (.int p), none] [] h k = some (.inl (some (.int (pB (0 < pAt f p)))), h, k) := by
  have e1 : ∀ g : Value → Option mOut, kF (mCell h a) 1 2 g = g (.ref cv) := fun g => kF_eq hc h2
  have e2 : ∀ g : Int32 → Option mOut, kAL (mRo L xs) h cv g = g (Int32.ofNat 256) := fun g => kAL_int hcv
  have e3 : ∀ g : Int32 → Option mOut, kIA (mRo L xs) h cv (p &&& 255) g = g (pAt f p) := fun g => kIA_int hcv (and255 p)
  simp only [e13_0, e13_1, e13_4, e13_5, e13_6, e13_7, e13_10, e13_11, e13_14, e13_15, e13_18, e13_19, e13_20, e13_23, e13_24, e13_27, e13_28 (Or.inl rfl), e13_28 (Or.inr rfl), c_cellOf, mAft, Option.toList_some, Option.toList_none, List.cons_append, List.nil_append, List.map_nil, List.map_cons, List.sum_nil, List.sum_cons, Value.category, Nat.reduceAdd, Nat.reduceLeDiff, n2_0, n3_0, n8_0, n16_0, n256_0, not_false_eq_true, e1, e2, e3, if_neg (and255_lt p)]
  by_cases h1 : 0 < pAt f p
  · rw [if_neg (Int32.not_le.mpr h1), pB_pos h1]
  · rw [if_pos (Int32.not_lt.mp h1), pB_neg h1]
theorem c_clearOf {a cl : Nat} {fs : List Value} {f : Nat → Int32} {p : Int32} (hc : mCell h a = some (.inr (1, fs))) (h3 : fs[3]? = some (.ref cl)) (hcl : mCell h cl = some (.inl (0, 256, .inl f))) :
    mW (mRo L xs) mTab 9 0 [some (.ref a), some (.int p), none] [] h k = some (.inl (some (.int (pAt f p))), h, k) := by
  have e1 : ∀ g : Value → Option mOut, kF (mCell h a) 1 3 g = g (.ref cl) := fun g => kF_eq hc h3
  have e2 : ∀ g : Int32 → Option mOut, kAL (mRo L xs) h cl g = g (Int32.ofNat 256) := fun g => kAL_int hcl
  have e3 : ∀ g : Int32 → Option mOut, kIA (mRo L xs) h cl (p &&& 255) g = g (pAt f p) := fun g => kIA_int hcl (and255 p)
  simp only [e9_0, e9_1, e9_4, e9_5, e9_6, e9_7, e9_10, e9_11, e9_14, e9_15, e9_18, e9_19, e9_20, e9_23, e9_24, c_cellOf, mAft, Option.toList_some, Option.toList_none, List.cons_append, List.nil_append, List.map_nil, List.map_cons, List.sum_nil, List.sum_cons, Value.category, Nat.reduceAdd, Nat.reduceLeDiff, n2_0, n3_0, n8_0, n16_0, n256_0, not_false_eq_true, e1, e2, e3, if_neg (and255_lt p)]
def pOpen (f : Nat → Int32) (p : Int32) : Prop := 0 ≤ p ∧ p < 2048 ∧ f p.toNatClampNeg ≠ 0
theorem c_isOpen {a op : Nat} {fs : List Value} {f : Nat → Int32} {p : Int32} (hc : mCell h a = some (.inr (1, fs))) (h4 : fs[4]? = some (.ref op)) (hop : mCell h op = some (.inl (1, 2048, .inl f))) :
    mW (mRo L xs) mTab 16 0 [some (.ref a), some (.int p)] [] h k = some (.inl (some (.int (@ite _ (pOpen f p) (Classical.propDecidable _) 1 0))), h, k) := by
  have e1 : ∀ g : Value → Option mOut, kF (mCell h a) 1 4 g = g (.ref op) := fun g => kF_eq hc h4
  have e2 : ∀ g : Int32 → Option mOut, kAL (mRo L xs) h op g = g 2048 := fun g => kAL_bool hop
  rw [e16_0, e16_1]
  by_cases p1 : p < 0
  · rw [if_pos p1, e16_26, e16_27 (Or.inl rfl), if_neg (fun z => Int32.not_le.mpr p1 z.1)]
  rw [if_neg p1, e16_4, e16_5, e16_6, e1, e16_9, e2, e16_10]
  by_cases p2 : 2048 ≤ p
  · rw [if_pos p2, e16_26, e16_27 (Or.inl rfl), if_neg (fun z => Int32.not_lt.mpr p2 z.2.1)]
  have hin : 0 ≤ p.toInt ∧ p.toInt < (2048 : Nat) := by
    have a1 := Int32.le_iff_toInt_le.mp (Int32.not_lt.mp p1)
    have a2 := Int32.lt_iff_toInt_lt.mp (Int32.not_le.mp p2)
    rw [show (0 : Int32).toInt = 0 from rfl] at a1
    rw [show (2048 : Int32).toInt = 2048 from rfl] at a2
    omega
  rw [if_neg p2, e16_13, e16_14, e1, e16_17, e16_18, kBA_bool hop hin, e16_19]
  by_cases p3 : f p.toNatClampNeg = 0
  · rw [if_pos p3, e16_26, e16_27 (Or.inl rfl), if_neg (fun z => z.2.2 p3)]
  · rw [if_neg p3, e16_22, e16_23, e16_27 (Or.inr rfl), if_pos ⟨Int32.not_lt.mp p1, Int32.not_le.mp p2, p3⟩]
end
