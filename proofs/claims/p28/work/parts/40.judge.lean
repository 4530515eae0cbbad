section
variable {L : Nat} {xs : Nat → Int32} {k : Nat}
/-- a row filled from a place on, place by place -/
def fillG (f : Nat → Int32) (i n : Nat) (v : Nat → Int32) : Nat → Int32 := fun j => if i ≤ j ∧ j < n then v j else f j
theorem fillG_end (f : Nat → Int32) (n : Nat) (v : Nat → Int32) : fillG f n n v = f := by
  funext j; unfold fillG; rw [if_neg (by omega)]
theorem fillG_step {f : Nat → Int32} {i n : Nat} {v : Nat → Int32} (hi : i < n) : fillG (upd f i (v i)) (i + 1) n v = fillG f i n v := by
  funext j; unfold fillG upd
  by_cases h1 : j = i
  · subst h1; simp; omega
  · by_cases h2 : i + 1 ≤ j ∧ j < n
    · rw [if_pos h2, if_pos (show i ≤ j ∧ j < n by omega)]
    · rw [if_neg h2, if_neg (show ¬ (i ≤ j ∧ j < n) by omega)]; simp [h1]
theorem cell_ne {h : List mCel} {a b : Nat} {c d : mCel} (h1 : mCell h a = some c) (h2 : mCell h b = some d) (hne : c ≠ d) : a ≠ b := fun z => by
  subst z; rw [h1] at h2; exact hne (Option.some.inj h2)
def pJudge (f : Nat → Int32) (fr be p : Int32) : Int32 := pB (¬ 0 < pAt f p ∧ pClr f 1 fr.toInt.toNat p ≠ 0 ∧ pClr f (-1) be.toInt.toNat p ≠ 0)
theorem judge_loop {a cv op : Nat} {fs : List Value} {f : Nat → Int32} {fr be : Int32} (h2 : fs[2]? = some (.ref cv)) (h4 : fs[4]? = some (.ref op)) (h5 : fs[5]? = some (.int fr)) (h6 : fs[6]? = some (.int be))
    (hfr : 0 ≤ fr.toInt ∧ fr.toInt ≤ 1000) (hbe : 0 ≤ be.toInt ∧ be.toInt ≤ 1000) : ∀ (d i : Nat) (g : Nat → Int32) (h : List mCel), i + d = 2048 → mCell h a = some (.inr (1, fs)) → mCell h cv = some (.inl (0, 256, .inl f)) → mCell h op = some (.inl (1, 2048, .inl g)) →
    mW (mRo L xs) mTab 17 2 [some (.ref a), some (.int (Int32.ofNat i))] [] h k = some (.inl none, h.set (op - 8) (.inl (1, 2048, .inl (fillG g i 2048 (fun j => pJudge f fr be (Int32.ofNat j))))), k)
  | 0, i, g, h, hd, hc, hcv, hop => by
    obtain rfl : i = 2048 := by omega
    have e1 : ∀ q : Value → Option mOut, kF (mCell h a) 1 4 q = q (.ref op) := fun q => kF_eq hc h4
    rw [e17_2, e17_3, e17_4, e1, e17_7, kAL_bool hop, e17_8, if_pos (Int32.le_refl _), e17_62, fillG_end, cell_same hop]
  | d + 1, i, g, h, hd, hc, hcv, hop => by
    have hi : i < 2 ^ 31 := by omega
    have hlt : ¬ (Int32.ofNat 2048 ≤ Int32.ofNat i) := by rw [oi_le (by decide) hi]; omega
    have hin : 0 ≤ (Int32.ofNat i).toInt ∧ (Int32.ofNat i).toInt < (2048 : Nat) := by rw [oi_int hi]; omega
    have hr : kR (mCell h a) 1 = true := kR_eq hc
    have e1 : ∀ q : Value → Option mOut, kF (mCell h a) 1 4 q = q (.ref op) := fun q => kF_eq hc h4
    have e5 : ∀ q : Value → Option mOut, kF (mCell h a) 1 5 q = q (.int fr) := fun q => kF_eq hc h5
    have e6 : ∀ q : Value → Option mOut, kF (mCell h a) 1 6 q = q (.int be) := fun q => kF_eq hc h6
    have hb := fun p : Int32 => c_isBlocked (L := L) (xs := xs) (k := k) (p := p) hc h2 hcv
    have hcl := fun p w : Int32 => c_isClear (L := L) (xs := xs) (k := k) (p := p) (w := w) hc h2 hcv hfr
    have hcl2 := fun p w : Int32 => c_isClear (L := L) (xs := xs) (k := k) (p := p) (w := w) hc h2 hcv hbe
    have hne1 : op ≠ a := cell_ne hop hc (fun z => by cases z)
    have hne2 : op ≠ cv := cell_ne hop hcv (fun z => by cases z)
    have h8 := (cell_8 hop).1
    have key : ∀ v : Int32, (v = 0 ∨ v = 1) → v = pJudge f fr be (Int32.ofNat i) → mW (mRo L xs) mTab 17 55 [some (.ref a), some (.int (Int32.ofNat i))] [.int v, .int (Int32.ofNat i), .ref op] h k = some (.inl none, h.set (op - 8) (.inl (1, 2048, .inl (fillG g i 2048 (fun j => pJudge f fr be (Int32.ofNat j))))), k) := by
      intro v hv hj
      rw [e17_55 hv]
      unfold kBS
      rw [hop]
      simp only [if_pos hin, oi_nat hi]
      rw [e17_56, e17_59, oi_succ, judge_loop h2 h4 h5 h6 hfr hbe d (i + 1) _ _ (by omega) ((cell_setne hne1 h8).trans hc) ((cell_setne hne2 h8).trans hcv) (cell_set hop), List.set_set, hj]
      rw [fillG_step (v := fun j => pJudge f fr be (Int32.ofNat j)) (by omega)]
    rw [e17_2, e17_3, e17_4, e1, e17_7, kAL_bool hop, e17_8, if_neg hlt, e17_11, e17_12, e1, e17_15, e17_16, e17_17]
    rw [e17_18 hr (by simp [Value.category]), hb]
    simp only [mAft, Option.toList_some, List.cons_append, List.nil_append]
    rw [e17_21]
    by_cases p1 : 0 < pAt f (Int32.ofNat i)
    · rw [pB_pos p1, if_pos (by decide), e17_54]
      exact key 0 (Or.inl rfl) (by unfold pJudge; rw [pB_neg (fun z => z.1 p1)])
    rw [pB_neg p1, if_neg (by decide), e17_24, e17_25, e17_26, e17_27, e17_28, e5, e17_31 hr (by simp [Value.category]), hcl]
    simp only [mAft, Option.toList_some, List.cons_append, List.nil_append]
    rw [e17_34]
    by_cases p2 : pClr f 1 fr.toInt.toNat (Int32.ofNat i) = 0
    · rw [if_pos p2, e17_54]
      exact key 0 (Or.inl rfl) (by unfold pJudge; rw [pB_neg (fun z => z.2.1 p2)])
    rw [if_neg p2, e17_37, e17_38, e17_39, e17_40, e17_41, e6, e17_44 hr (by simp [Value.category]), hcl2]
    simp only [mAft, Option.toList_some, List.cons_append, List.nil_append]
    rw [e17_47]
    by_cases p3 : pClr f (-1) be.toInt.toNat (Int32.ofNat i) = 0
    · rw [if_pos p3, e17_54]
      exact key 0 (Or.inl rfl) (by unfold pJudge; rw [pB_neg (fun z => z.2.2 p3)])
    · rw [if_neg p3, e17_50, e17_51]
      exact key 1 (Or.inr rfl) (by unfold pJudge; rw [pB_pos ⟨p1, p2, p3⟩])
end
