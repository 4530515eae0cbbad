section
variable {L : Nat} {xs : Nat → Int32} {h : List mCel} {k : Nat}
def pClr (f : Nat → Int32) (w : Int32) : Nat → Int32 → Int32
  | 0, _ => 1
  | t + 1, p => if pStepped p w = -1 then 0 else if 0 < pAt f (pStepped p w) then 0 else pClr f w t (pStepped p w)
theorem clr_loop {a cv : Nat} {fs : List Value} {f : Nat → Int32} {p w c : Int32} (hc : mCell h a = some (.inr (1, fs))) (h2 : fs[2]? = some (.ref cv)) (hcv : mCell h cv = some (.inl (0, 256, .inl f))) (hcb : c.toInt ≤ 1000) :
    ∀ (t : Nat) (q s : Int32), c.toInt - s.toInt = t → 0 ≤ s.toInt →
    mW (mRo L xs) mTab 14 6 [some (.ref a), some (.int p), some (.int w), some (.int c), some (.int q), some (.int s)] [] h k = some (.inl (some (.int (pClr f w t q))), h, k)
  | 0, q, s, ht, hs => by
    rw [e14_6, e14_8, e14_9, if_pos (Int32.le_iff_toInt_le.mpr (by omega)), e14_43, e14_44 (Or.inr rfl)]
    rfl
  | t + 1, q, s, ht, hs => by
    have hr : kR (mCell h a) 1 = true := kR_eq hc
    have hb := fun p : Int32 => c_isBlocked (L := L) (xs := xs) (k := k) (p := p) hc h2 hcv
    rw [e14_6, e14_8, e14_9, if_neg (fun z => by have := Int32.le_iff_toInt_le.mp z; omega)]
    simp only [e14_12, e14_14, e14_15, e14_18, e14_20, e14_22, e14_23, e14_26, e14_27, e14_29, c_stepped, hb, hr, mAft, Option.toList_some, Option.toList_none, List.cons_append, List.nil_append, List.map_nil, List.map_cons, List.sum_nil, List.sum_cons, Value.category, Nat.reduceAdd, Nat.reduceLeDiff, n2_0, n3_0, n8_0, n16_0, n256_0, not_false_eq_true]
    unfold pClr
    by_cases p1 : pStepped q w = -1
    · rw [if_pos p1, if_pos p1, e14_35, e14_36 (Or.inl rfl)]
    rw [if_neg p1, if_neg p1, e14_32]
    by_cases p2 : 0 < pAt f (pStepped q w)
    · rw [pB_pos p2, if_neg (by decide), if_pos p2, e14_35, e14_36 (Or.inl rfl)]
    · rw [pB_neg p2, if_pos rfl, if_neg p2, e14_37, e14_40]
      exact clr_loop hc h2 hcv hcb t _ _ (by rw [int_succ (by omega) (by omega)]; omega) (by rw [int_succ (by omega) (by omega)]; omega)
theorem c_isClear {a cv : Nat} {fs : List Value} {f : Nat → Int32} {p w c : Int32} (hc : mCell h a = some (.inr (1, fs))) (h2 : fs[2]? = some (.ref cv)) (hcv : mCell h cv = some (.inl (0, 256, .inl f))) (hcb : 0 ≤ c.toInt ∧ c.toInt ≤ 1000) :
    mW (mRo L xs) mTab 14 0 [some (.ref a), some (.int p), some (.int w), some (.int c), none, none] [] h k = some (.inl (some (.int (pClr f w c.toInt.toNat p))), h, k) := by
  rw [e14_0, e14_1, e14_3, e14_4]
  exact clr_loop hc h2 hcv hcb.2 _ _ _ (by rw [show (0 : Int32).toInt = 0 from rfl]; omega) (by decide)
def pWay (m : Int32) : Int32 := if m < 3 then 1 else -1
noncomputable def pDr (f : Nat → Int32) (p m : Int32) : Int32 :=
  @ite _ (¬ pOpen f p ∨ ¬ pOpen f (pStepped p (pWay m))) (Classical.propDecidable _) (-1)
    (if m = 0 ∨ m = 3 then pStepped p (pWay m) else
      @ite _ (pOpen f (pTurned (pStepped p (pWay m)) m) ∧ pOpen f (pStepped (pTurned (pStepped p (pWay m)) m) (pWay m))) (Classical.propDecidable _) (pStepped (pTurned (pStepped p (pWay m)) m) (pWay m)) (-1))
theorem open_neg {f : Nat → Int32} : ¬ pOpen f (-1) := fun z => absurd z.1 (by decide)
theorem c_driven {a op : Nat} {fs : List Value} {f : Nat → Int32} {p m : Int32} (hc : mCell h a = some (.inr (1, fs))) (h4 : fs[4]? = some (.ref op)) (hop : mCell h op = some (.inl (1, 2048, .inl f))) :
    mW (mRo L xs) mTab 11 0 [some (.ref a), some (.int p), some (.int m), none, none, none, none] [] h k = some (.inl (some (.int (pDr f p m))), h, k) := by
  have hr : kR (mCell h a) 1 = true := kR_eq hc
  have ho := fun p : Int32 => c_isOpen (L := L) (xs := xs) (k := k) (p := p) hc h4 hop
  have hw : mW (mRo L xs) mTab 85 0 [some (.int m)] [] h k = some (.inl (some (.int (pWay m))), h, k) := c_wayOf
  unfold pDr
  by_cases q1 : pOpen f p
  · by_cases q2 : pOpen f (pStepped p (pWay m))
    · by_cases q3 : m = 0 ∨ m = 3
      · simp [e11_0, e11_1, e11_4, e11_5, e11_6, e11_7, e11_10, e11_13, e11_14, e11_15, e11_18, e11_21, e11_22, e11_24, e11_25, e11_27, e11_30, e11_33, e11_34, e11_35, e11_36, e11_39, e11_42, e11_44, e11_45, e11_47, e11_48, e11_51, e11_53, e11_54, e11_56, e11_59, e11_62, e11_64, e11_65, e11_68, e11_71, e11_72, e11_74, e11_75, e11_77, e11_80, e11_83, e11_85, e11_88, e11_89, hw, ho, hr, c_stepped, c_isArc, c_turned, mAft, Value.category, q1, q2, q3]
      · by_cases q4 : pOpen f (pTurned (pStepped p (pWay m)) m)
        · by_cases q5 : pOpen f (pStepped (pTurned (pStepped p (pWay m)) m) (pWay m))
          · simp [e11_0, e11_1, e11_4, e11_5, e11_6, e11_7, e11_10, e11_13, e11_14, e11_15, e11_18, e11_21, e11_22, e11_24, e11_25, e11_27, e11_30, e11_33, e11_34, e11_35, e11_36, e11_39, e11_42, e11_44, e11_45, e11_47, e11_48, e11_51, e11_53, e11_54, e11_56, e11_59, e11_62, e11_64, e11_65, e11_68, e11_71, e11_72, e11_74, e11_75, e11_77, e11_80, e11_83, e11_85, e11_88, e11_89, hw, ho, hr, c_stepped, c_isArc, c_turned, mAft, Value.category, q1, q2, q3, q4, q5]
          · simp [e11_0, e11_1, e11_4, e11_5, e11_6, e11_7, e11_10, e11_13, e11_14, e11_15, e11_18, e11_21, e11_22, e11_24, e11_25, e11_27, e11_30, e11_33, e11_34, e11_35, e11_36, e11_39, e11_42, e11_44, e11_45, e11_47, e11_48, e11_51, e11_53, e11_54, e11_56, e11_59, e11_62, e11_64, e11_65, e11_68, e11_71, e11_72, e11_74, e11_75, e11_77, e11_80, e11_83, e11_85, e11_88, e11_89, hw, ho, hr, c_stepped, c_isArc, c_turned, mAft, Value.category, q1, q2, q3, q4, q5]
        · simp [e11_0, e11_1, e11_4, e11_5, e11_6, e11_7, e11_10, e11_13, e11_14, e11_15, e11_18, e11_21, e11_22, e11_24, e11_25, e11_27, e11_30, e11_33, e11_34, e11_35, e11_36, e11_39, e11_42, e11_44, e11_45, e11_47, e11_48, e11_51, e11_53, e11_54, e11_56, e11_59, e11_62, e11_64, e11_65, e11_68, e11_71, e11_72, e11_74, e11_75, e11_77, e11_80, e11_83, e11_85, e11_88, e11_89, hw, ho, hr, c_stepped, c_isArc, c_turned, mAft, Value.category, q1, q2, q3, q4, open_neg]
    · simp [e11_0, e11_1, e11_4, e11_5, e11_6, e11_7, e11_10, e11_13, e11_14, e11_15, e11_18, e11_21, e11_22, e11_24, e11_25, e11_27, e11_30, e11_33, e11_34, e11_35, e11_36, e11_39, e11_42, e11_44, e11_45, e11_47, e11_48, e11_51, e11_53, e11_54, e11_56, e11_59, e11_62, e11_64, e11_65, e11_68, e11_71, e11_72, e11_74, e11_75, e11_77, e11_80, e11_83, e11_85, e11_88, e11_89, hw, ho, hr, c_stepped, mAft, Value.category, q1, q2]
  · simp [e11_0, e11_1, e11_4, e11_5, e11_6, e11_7, e11_10, e11_13, e11_14, e11_15, e11_18, e11_21, e11_22, e11_24, e11_25, e11_27, e11_30, e11_33, e11_34, e11_35, e11_36, e11_39, e11_42, e11_44, e11_45, e11_47, e11_48, e11_51, e11_53, e11_54, e11_56, e11_59, e11_62, e11_64, e11_65, e11_68, e11_71, e11_72, e11_74, e11_75, e11_77, e11_80, e11_83, e11_85, e11_88, e11_89, hw, ho, hr, mAft, Value.category, q1, open_neg]
end
