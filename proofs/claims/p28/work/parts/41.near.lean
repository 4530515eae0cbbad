section
variable {L : Nat} {xs : Nat → Int32} {k : Nat}
/-- the clearances behind one look at a neighbour -/
def pNear (g : Nat → Int32) (c : Nat) (bx by' : Int32) : Nat → Int32 :=
  if pNum (pX (Int32.ofNat c) + bx) (pY (Int32.ofNat c) + by') 0 = -1 then g else upd g c (if pAt g (pNum (pX (Int32.ofNat c) + bx) (pY (Int32.ofNat c) + by') 0) + 1 < g c then pAt g (pNum (pX (Int32.ofNat c) + bx) (pY (Int32.ofNat c) + by') 0) + 1 else g c)
theorem c_nearTo {h : List mCel} {a cl c : Nat} {fs : List Value} {g : Nat → Int32} {bx by' : Int32} (hc : mCell h a = some (.inr (1, fs))) (h3 : fs[3]? = some (.ref cl)) (hcl : mCell h cl = some (.inl (0, 256, .inl g))) (hi : c < 256) :
    mW (mRo L xs) mTab 19 0 [some (.ref a), some (.int (Int32.ofNat c)), some (.int bx), some (.int by'), none] [] h k = some (.inl none, h.set (cl - 8) (.inl (0, 256, .inl (pNear g c bx by'))), k) := by
  have hr : kR (mCell h a) 1 = true := kR_eq hc
  have e1 : ∀ q : Value → Option mOut, kF (mCell h a) 1 3 q = q (.ref cl) := fun q => kF_eq hc h3
  have hco := fun p : Int32 => c_clearOf (L := L) (xs := xs) (k := k) (p := p) hc h3 hcl
  have hin : 0 ≤ (Int32.ofNat c).toInt ∧ (Int32.ofNat c).toInt < (256 : Nat) := by rw [oi_int (by omega)]; omega
  have hneg : ¬ (Int32.ofNat c < 0) := fun z => by have := Int32.lt_iff_toInt_lt.mp z; rw [show (0 : Int32).toInt = 0 from rfl] at this; omega
  have hlt : ¬ (Int32.ofNat 256 ≤ Int32.ofNat c) := by rw [oi_le (by decide) (by omega)]; omega
  rw [e19_0, e19_1 (by simp), c_xOf]
  simp only [mAft, Option.toList_some, List.cons_append, List.nil_append]
  rw [e19_4, e19_5, e19_6, e19_7 (by simp [Value.category]), c_yOf]
  simp only [mAft, Option.toList_some, List.cons_append, List.nil_append]
  rw [e19_10, e19_11, e19_12, e19_13 (by simp), c_numberOf]
  simp only [mAft, Option.toList_some, List.cons_append, List.nil_append]
  rw [e19_16, e19_18, e19_20, e19_21]
  unfold pNear
  by_cases p1 : pNum (pX (Int32.ofNat c) + bx) (pY (Int32.ofNat c) + by') 0 = -1
  · rw [if_pos p1, if_pos p1, e19_60, cell_same hcl]
  rw [if_neg p1, if_neg p1, e19_24, e19_25, if_neg hneg, e19_28, e19_29, e19_30, e1, e19_33, kAL_int hcl, e19_34, if_neg hlt, e19_37, e19_38, e1, e19_41, e19_42, e19_43, e1, e19_46, e19_47, kIA_int hcl hin, e19_48, e19_49, e19_51 hr (by simp [Value.category]), hco]
  simp only [mAft, Option.toList_some, List.cons_append, List.nil_append]
  rw [e19_54, e19_55, e19_56 (by simp [Value.category]), e19_59]
  unfold kIS
  rw [hcl]
  simp only [if_pos hin]
  rw [e19_60, oi_nat (by omega)]
end
