section
variable {L : Nat} {xs : Nat → Int32} {h : List mCel} {k : Nat}
def qFreeAt (bl : Nat → Int32) (fr be x y g : Int32) : Int32 := qFr bl x y g (fr.toInt + be.toInt + 1).toNat 1 (-be)
def qMid (p m : Int32) : Int32 × Int32 := (qRem p 16 + (if 2 < m then -1 else 1) * qSx (p / 256), qRem p 256 / 16 + (if 2 < m then -1 else 1) * qSy (p / 256))
def qCan (bl : Nat → Int32) (fr be p m : Int32) : Prop := qEnd p m ≠ -1 ∧ qFreeAt bl fr be (qRem p 16) (qRem p 256 / 16) (p / 256) ≠ 0 ∧ qFreeAt bl fr be (qRem (qEnd p m) 16) (qRem (qEnd p m) 256 / 16) (qEnd p m / 256) ≠ 0 ∧
  (qRem m 3 = 0 ∨ (qFreeAt bl fr be (qMid p m).1 (qMid p m).2 (p / 256) ≠ 0 ∧ qFreeAt bl fr be (qMid p m).1 (qMid p m).2 (qEnd p m / 256) ≠ 0))
theorem d_canDrive {a bb : Nat} {fs : List Value} {bl : Nat → Int32} {fr be p m : Int32} (hc : mCell h a = some (.inr (11, fs))) (hf : fs[8]? = some (.int fr)) (he : fs[9]? = some (.int be)) (hb : fs[16]? = some (.ref bb)) (hbl : mCell h bb = some (.inl (1, 256, .inl bl)))
    (hfr : 0 ≤ fr.toInt ∧ fr.toInt ≤ 2) (hbe : 0 ≤ be.toInt ∧ be.toInt ≤ 2) :
    mW (mRo L xs) mTab 76 0 [some (.ref a), some (.int p), some (.int m), none, none, none, none, none, none, none] [] h k = some (.inl (some (.int (@ite _ (qCan bl fr be p m) (Classical.propDecidable _) 1 0))), h, k) := by
  have hr : kR (mCell h a) 11 = true := kR_eq hc
  have hq : ∀ x y g : Int32, mW (mRo L xs) mTab 107 0 [some (.ref a), some (.int x), some (.int y), some (.int g), none, none, none, none] [] h k = some (.inl (some (.int (qFreeAt bl fr be x y g))), h, k) := fun x y g => d_isFreeAt hc hf he hb hbl hfr hbe
  simp only [e76_0, e76_1, e76_2, e76_5, e76_6, e76_7, e76_10, e76_11, e76_13, e76_14, e76_16, e76_17, e76_19, e76_20, e76_23, e76_24, e76_26, e76_27, e76_29, e76_30, e76_31, e76_34, e76_35, e76_37, e76_39, e76_41, e76_44, e76_47, e76_48, e76_49, e76_51, e76_52, e76_53, e76_56, e76_57, e76_59, e76_60, e76_61, e76_64, e76_65, e76_68, e76_71, e76_72 (Or.inl rfl), e76_72 (Or.inr rfl), e76_73, e76_74, e76_77, e76_80, e76_81, e76_84, e76_85, e76_87, e76_89, e76_91, e76_93, e76_96, e76_97, e76_98, e76_100, e76_102, e76_104, e76_106, e76_109, e76_110, e76_111, e76_113, e76_114, e76_115, e76_116, e76_119, e76_120, e76_122, e76_124, e76_126, e76_129, e76_132, e76_133, e76_135, e76_137, e76_138, e76_141, e76_142, e76_145, e76_148, e76_149, e76_152, e76_153 (Or.inl rfl), e76_153 (Or.inr rfl), hr, hq, d_endOf, d_isReverse, d_stepX, d_stepY, mAft, Option.toList_some, Option.toList_none, List.cons_append, List.nil_append, List.map_nil, List.map_cons, List.sum_nil, List.sum_cons, Value.category, Nat.reduceAdd, Nat.reduceLeDiff, n2_0, n3_0, n8_0, n16_0, n256_0, not_false_eq_true, pB_eq0, toRem]
  unfold qCan
  by_cases h1 : qEnd p m = -1
  · simp [h1]
  by_cases h2 : qFreeAt bl fr be (qRem p 16) (qRem p 256 / 16) (p / 256) = 0
  · simp [h1, h2]
  by_cases h3 : qFreeAt bl fr be (qRem (qEnd p m) 16) (qRem (qEnd p m) 256 / 16) (qEnd p m / 256) = 0
  · simp [h1, h2, h3]
  by_cases h4 : qRem m 3 = 0
  · by_cases h7 : 2 < m <;> simp [h1, h2, h3, h4, h7]
  by_cases h7 : 2 < m
  · by_cases h5 : qFreeAt bl fr be (qMid p m).1 (qMid p m).2 (p / 256) = 0 <;> by_cases h6 : qFreeAt bl fr be (qMid p m).1 (qMid p m).2 (qEnd p m / 256) = 0 <;> simp only [qMid, if_pos h7] at h5 h6 ⊢ <;> simp [h1, h2, h3, h4, h5, h6, h7]
  · by_cases h5 : qFreeAt bl fr be (qMid p m).1 (qMid p m).2 (p / 256) = 0 <;> by_cases h6 : qFreeAt bl fr be (qMid p m).1 (qMid p m).2 (qEnd p m / 256) = 0 <;> simp only [qMid, if_neg h7, Int32.one_mul] at h5 h6 ⊢ <;> simp [h1, h2, h3, h4, h5, h6, h7]
end
