theorem bmod_small {n : Int} (h1 : -2147483648 ≤ n) (h2 : n < 2147483648) : n.bmod (2 ^ 32) = n := by
  rw [show (2 ^ 32 : Nat) = 4294967296 from rfl, Int.bmod_def]; split <;> omega
theorem num_of {x : Int32} {n : Nat} (hn : n < 2 ^ 31) (h : 0 ≤ x ∧ x ≤ Int32.ofNat n) : ∃ i, i ≤ n ∧ x = Int32.ofNat i := by
  have h1 := Int32.le_iff_toInt_le.mp h.1
  have h2 := Int32.le_iff_toInt_le.mp h.2
  rw [oi_int hn] at h2
  have h0 : (0 : Int32).toInt = 0 := rfl
  rw [h0] at h1
  refine ⟨x.toInt.toNat, by omega, ?_⟩
  apply Int32.toInt_inj.mp
  rw [oi_int (by omega)]; omega
theorem oi_mul (i j : Nat) : Int32.ofNat (i * j) = Int32.ofNat i * Int32.ofNat j := Int32.ofNat_mul i j
theorem cell_num {x y : Int32} (h : (0 ≤ x ∧ x ≤ 15) ∧ 0 ≤ y ∧ y ≤ 15) : 0 ≤ (16 * y + x).toInt ∧ (16 * y + x).toInt < (256 : Nat) := by
  obtain ⟨i, hi, rfl⟩ := num_of (n := 15) (by decide) h.1
  obtain ⟨j, hj, rfl⟩ := num_of (n := 15) (by decide) h.2
  have : (16 : Int32) * Int32.ofNat j + Int32.ofNat i = Int32.ofNat (16 * j + i) := by rw [oi_add, oi_mul]; rfl
  rw [this, oi_int (by omega)]; omega
section
variable {L : Nat} {xs : Nat → Int32} {h : List mCel} {k : Nat}
def qIn (x y : Int32) : Prop := (0 ≤ x ∧ x ≤ 15) ∧ 0 ≤ y ∧ y ≤ 15
theorem free_step {a bb : Nat} {fs : List Value} {bl : Nat → Int32} {fr x y g s kk : Int32} {l6 l7 : Option Value} (hc : mCell h a = some (.inr (11, fs))) (hf : fs[8]? = some (.int fr)) (hb : fs[16]? = some (.ref bb)) (hbl : mCell h bb = some (.inl (1, 256, .inl bl))) :
    mW (mRo L xs) mTab 107 10 [some (.ref a), some (.int x), some (.int y), some (.int g), some (.int s), some (.int kk), l6, l7] [] h k =
      if fr < kk then mW (mRo L xs) mTab 107 99 [some (.ref a), some (.int x), some (.int y), some (.int g), some (.int s), some (.int kk), l6, l7] [] h k
      else if s = 0 then mW (mRo L xs) mTab 107 99 [some (.ref a), some (.int x), some (.int y), some (.int g), some (.int s), some (.int kk), l6, l7] [] h k
      else mW (mRo L xs) mTab 107 10 [some (.ref a), some (.int x), some (.int y), some (.int g), some (.int (pB (((0 ≤ x + kk * qSx g ∧ x + kk * qSx g ≤ 15) ∧ 0 ≤ y + kk * qSy g ∧ y + kk * qSy g ≤ 15) ∧ bl (16 * (y + kk * qSy g) + (x + kk * qSx g)).toNatClampNeg = 0))), some (.int (kk + 1)), some (.int (x + kk * qSx g)), some (.int (y + kk * qSy g))] [] h k := by
  have h1 : ∀ f : Value → Option mOut, kF (mCell h a) 11 8 f = f (.int fr) := fun f => kF_eq hc hf
  have h2 : ∀ f : Value → Option mOut, kF (mCell h a) 11 16 f = f (.ref bb) := fun f => kF_eq hc hb
  rw [e107_10, e107_12, e107_13, h1, e107_16]
  by_cases p1 : fr < kk
  · rw [if_pos p1, if_pos p1]
  rw [if_neg p1, if_neg p1, e107_19, e107_21]
  by_cases p2 : s = 0
  · rw [if_pos p2, if_pos p2]
  rw [if_neg p2, if_neg p2]
  simp only [e107_24, e107_25, e107_27, e107_28, e107_31, e107_32, e107_33, e107_35, e107_36, e107_38, e107_39, e107_42, e107_43, e107_44, e107_46, e107_48, e107_50, e107_53, e107_56, e107_57, e107_60, e107_62, e107_64, e107_67, e107_70, e107_72, e107_74, e107_75, e107_77, e107_78, e107_81, e107_82, d_stepX, d_stepY, d_isCell, mAft, Option.toList_some, Option.toList_none, List.cons_append, List.nil_append, List.map_nil, List.map_cons, List.sum_nil, List.sum_cons, Value.category, Nat.reduceAdd, Nat.reduceLeDiff, n2_0, n3_0, n8_0, n16_0, n256_0, not_false_eq_true, pB_eq0, h2]
  by_cases p3 : (0 ≤ x + kk * qSx g ∧ x + kk * qSx g ≤ 15) ∧ 0 ≤ y + kk * qSy g ∧ y + kk * qSy g ≤ 15
  · rw [if_neg (fun z => z p3), if_neg (fun z => z p3)]
    unfold kBA
    rw [hbl]
    simp only [if_pos (cell_num p3), e107_83]
    by_cases p4 : bl (16 * (y + kk * qSy g) + (x + kk * qSx g)).toNatClampNeg = 0
    · rw [if_neg (fun z => z p4), e107_86, e107_87, e107_91, e107_93, e107_96, pB_pos ⟨p3, p4⟩]
    · rw [if_pos p4, e107_90, e107_91, e107_93, e107_96, pB_neg (fun z => p4 z.2)]
  · rw [if_pos p3, e107_90, e107_91, e107_93, e107_96, pB_neg (fun z => p3 z.1)]
def qSpot (bl : Nat → Int32) (x y g kk : Int32) : Int32 := pB (((0 ≤ x + kk * qSx g ∧ x + kk * qSx g ≤ 15) ∧ 0 ≤ y + kk * qSy g ∧ y + kk * qSy g ≤ 15) ∧ bl (16 * (y + kk * qSy g) + (x + kk * qSx g)).toNatClampNeg = 0)
def qFr (bl : Nat → Int32) (x y g : Int32) : Nat → Int32 → Int32 → Int32
  | 0, s, _ => s
  | t + 1, s, kk => if s = 0 then s else qFr bl x y g t (qSpot bl x y g kk) (kk + 1)
theorem int_succ {v : Int32} (h1 : -1000000 ≤ v.toInt) (h2 : v.toInt ≤ 1000000) : (v + 1).toInt = v.toInt + 1 := by
  rw [Int32.toInt_add, show (1 : Int32).toInt = 1 from rfl]
  exact bmod_small (by omega) (by omega)
theorem free_loop {a bb : Nat} {fs : List Value} {bl : Nat → Int32} {fr x y g : Int32} (hc : mCell h a = some (.inr (11, fs))) (hf : fs[8]? = some (.int fr)) (hb : fs[16]? = some (.ref bb)) (hbl : mCell h bb = some (.inl (1, 256, .inl bl))) :
    ∀ (t : Nat) (s kk : Int32) (l6 l7 : Option Value), (s = 0 ∨ s = 1) → fr.toInt - kk.toInt + 1 = t → fr.toInt ≤ 1000 → -1000 ≤ kk.toInt →
    mW (mRo L xs) mTab 107 10 [some (.ref a), some (.int x), some (.int y), some (.int g), some (.int s), some (.int kk), l6, l7] [] h k = some (.inl (some (.int (qFr bl x y g t s kk))), h, k)
  | 0, s, kk, l6, l7, hs, ht, h1, h2 => by
    rw [free_step hc hf hb hbl, if_pos (Int32.lt_iff_toInt_lt.mpr (by omega)), e107_99, e107_101 hs]
    rfl
  | t + 1, s, kk, l6, l7, hs, ht, h1, h2 => by
    rw [free_step hc hf hb hbl, if_neg (fun z => by have := Int32.lt_iff_toInt_lt.mp z; omega)]
    unfold qFr
    by_cases p : s = 0
    · rw [if_pos p, if_pos p, e107_99, e107_101 hs]
    · rw [if_neg p, if_neg p]
      exact free_loop hc hf hb hbl t _ _ _ _ (pB_01 _) (by rw [int_succ (by omega) (by omega)]; omega) h1 (by rw [int_succ (by omega) (by omega)]; omega)
theorem d_isFreeAt {a bb : Nat} {fs : List Value} {bl : Nat → Int32} {fr be x y g : Int32} (hc : mCell h a = some (.inr (11, fs))) (hf : fs[8]? = some (.int fr)) (he : fs[9]? = some (.int be)) (hb : fs[16]? = some (.ref bb)) (hbl : mCell h bb = some (.inl (1, 256, .inl bl)))
    (hfr : 0 ≤ fr.toInt ∧ fr.toInt ≤ 2) (hbe : 0 ≤ be.toInt ∧ be.toInt ≤ 2) :
    mW (mRo L xs) mTab 107 0 [some (.ref a), some (.int x), some (.int y), some (.int g), none, none, none, none] [] h k = some (.inl (some (.int (qFr bl x y g (fr.toInt + be.toInt + 1).toNat 1 (-be)))), h, k) := by
  have hn : (-be).toInt = - be.toInt := by
    rw [Int32.toInt_neg]; exact bmod_small (by omega) (by omega)
  rw [e107_0, e107_1, e107_3, e107_4, kF_eq hc he, e107_7, e107_8]
  exact free_loop hc hf hb hbl _ 1 (-be) _ _ (Or.inr rfl) (by rw [hn]; omega) (by omega) (by rw [hn]; omega)
end
