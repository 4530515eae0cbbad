section
variable {L : Nat} {xs : Nat → Int32} {k : Nat}
theorem oi_pred (i : Nat) : Int32.ofNat (i + 1) + (-1) = Int32.ofNat i := by
  rw [oi_add, Int32.add_assoc, show Int32.ofNat 1 + (-1) = 0 from rfl, Int32.add_zero]
theorem oi_nneg {i : Nat} (hi : i < 2 ^ 31) : ¬ (Int32.ofNat i < 0) := by
  rw [show (0 : Int32) = Int32.ofNat 0 from rfl, oi_lt hi (by decide)]; omega
/-- a sweep downward, with what is done at a place as a variable (unfolding it never meets what is done) -/
def pIter (b : (Nat → Int32) → Nat → (Nat → Int32)) : Nat → (Nat → Int32) → (Nat → Int32)
  | 0, g => g
  | d + 1, g => pIter b d (b g d)
theorem pIter_succ (b : (Nat → Int32) → Nat → (Nat → Int32)) (g : Nat → Int32) (d : Nat) : pIter b (d + 1) g = pIter b d (b g d) := rfl
theorem pIter_zero (b : (Nat → Int32) → Nat → (Nat → Int32)) (g : Nat → Int32) : pIter b 0 g = g := rfl
theorem pBehind_eq (g : Nat → Int32) (d : Nat) : pBehind g d = pNear (pNear (pNear (pNear g d 1 0) d 1 1) d 0 1) d (-1) 1 := by unfold pBehind; rfl
theorem down_loop {a cl : Nat} {fs : List Value} (h3 : fs[3]? = some (.ref cl)) (d : Nat) : ∀ (g : Nat → Int32) (h : List mCel), d ≤ 256 → mCell h a = some (.inr (1, fs)) → mCell h cl = some (.inl (0, 256, .inl g)) →
    mW (mRo L xs) mTab 18 90 [some (.ref a), some (.int (Int32.ofNat d + (-1)))] [] h k = some (.inl none, h.set (cl - 8) (.inl (0, 256, .inl (pIter pBehind d g))), k) := by
  induction d with
  | zero =>
    intro g h hd hc hcl
    rw [e18_90, e18_91, if_pos (by decide), e18_128]
    rw [pIter_zero, cell_same hcl]
  | succ d IH =>
    intro g h hd hc hcl
    have hlt : ¬ (Int32.ofNat d < 0) := oi_nneg (by omega)
    have hne : cl ≠ a := cell_ne hcl hc (fun z => by cases z)
    have h8 := (cell_8 hcl).1
    have H : ∀ g' : Nat → Int32, mCell (h.set (cl - 8) (.inl (0, 256, .inl g'))) a = some (.inr (1, fs)) := fun g' => (cell_setne hne h8).trans hc
    have G : ∀ g' : Nat → Int32, mCell (h.set (cl - 8) (.inl (0, 256, .inl g'))) cl = some (.inl (0, 256, .inl g')) := fun g' => cell_set hcl
    rw [pIter_succ, pBehind_eq, oi_pred, e18_90, e18_91, if_neg hlt]
    rw [e18_94, e18_95, e18_96, e18_97, e18_98 (kR_eq hc) (by simp), c_nearTo hc h3 hcl (by omega)]
    simp only [mAft, Option.toList_none, List.nil_append]
    rw [e18_101, e18_102, e18_103, e18_104, e18_105 (kR_eq (H _)) (by simp), c_nearTo (H _) h3 (G _) (by omega)]
    simp only [mAft, Option.toList_none, List.nil_append, List.set_set]
    rw [e18_108, e18_109, e18_110, e18_111, e18_112 (kR_eq (H _)) (by simp), c_nearTo (H _) h3 (G _) (by omega)]
    simp only [mAft, Option.toList_none, List.nil_append, List.set_set]
    rw [e18_115, e18_116, e18_117, e18_118, e18_119 (kR_eq (H _)) (by simp), c_nearTo (H _) h3 (G _) (by omega)]
    simp only [mAft, Option.toList_none, List.nil_append, List.set_set]
    rw [e18_122, e18_125, IH _ _ (by omega) (H _) (G _), List.set_set]
def pBase (f : Nat → Int32) (j : Nat) : Int32 := if 0 < pAt f (Int32.ofNat j) then 0 else 16
theorem base_loop {a cv cl : Nat} {fs : List Value} {f : Nat → Int32} (h2 : fs[2]? = some (.ref cv)) (h3 : fs[3]? = some (.ref cl)) (hcc : cl ≠ cv) : ∀ (d i : Nat) (g : Nat → Int32) (h : List mCel), i + d = 256 → mCell h a = some (.inr (1, fs)) → mCell h cv = some (.inl (0, 256, .inl f)) → mCell h cl = some (.inl (0, 256, .inl g)) →
    mW (mRo L xs) mTab 18 2 [some (.ref a), some (.int (Int32.ofNat i))] [] h k = mW (mRo L xs) mTab 18 37 [some (.ref a), some (.int (Int32.ofNat 256))] [] (h.set (cl - 8) (.inl (0, 256, .inl (fillG g i 256 (pBase f))))) k
  | 0, i, g, h, hd, hc, hcv, hcl => by
    obtain rfl : i = 256 := by omega
    have e1 : ∀ q : Value → Option mOut, kF (mCell h a) 1 3 q = q (.ref cl) := fun q => kF_eq hc h3
    rw [e18_2, e18_3, e18_4, e1, e18_7, kAL_int hcl, e18_8, if_pos (Int32.le_refl _), fillG_end, cell_same hcl]
  | d + 1, i, g, h, hd, hc, hcv, hcl => by
    have hi : i < 2 ^ 31 := by omega
    have hlt : ¬ (Int32.ofNat 256 ≤ Int32.ofNat i) := by rw [oi_le (by decide) hi]; omega
    have hin : 0 ≤ (Int32.ofNat i).toInt ∧ (Int32.ofNat i).toInt < (256 : Nat) := by rw [oi_int hi]; omega
    have e1 : ∀ q : Value → Option mOut, kF (mCell h a) 1 3 q = q (.ref cl) := fun q => kF_eq hc h3
    have hb := c_isBlocked (L := L) (xs := xs) (k := k) (p := Int32.ofNat i) hc h2 hcv
    have hne : cl ≠ a := cell_ne hcl hc (fun z => by cases z)
    have h8 := (cell_8 hcl).1
    have key : ∀ v : Int32, v = pBase f i → mW (mRo L xs) mTab 18 30 [some (.ref a), some (.int (Int32.ofNat i))] [.int v, .int (Int32.ofNat i), .ref cl] h k = mW (mRo L xs) mTab 18 37 [some (.ref a), some (.int (Int32.ofNat 256))] [] (h.set (cl - 8) (.inl (0, 256, .inl (fillG g i 256 (pBase f))))) k := by
      intro v hj
      rw [e18_30]
      unfold kIS
      rw [hcl]
      simp only [if_pos hin, oi_nat hi]
      rw [e18_31, e18_34, oi_succ, base_loop h2 h3 hcc d (i + 1) _ _ (by omega) ((cell_setne hne h8).trans hc) ((cell_setne hcc h8).trans hcv) (cell_set hcl), List.set_set, hj, fillG_step (by omega)]
    rw [e18_2, e18_3, e18_4, e1, e18_7, kAL_int hcl, e18_8, if_neg hlt, e18_11, e18_12, e1, e18_15, e18_16, e18_17, e18_18 (kR_eq hc) (by simp [Value.category]), hb]
    simp only [mAft, Option.toList_some, List.cons_append, List.nil_append]
    rw [e18_21]
    by_cases p1 : 0 < pAt f (Int32.ofNat i)
    · rw [pB_pos p1, if_neg (by decide), e18_24, e18_25]
      exact key 0 (by unfold pBase; rw [if_pos p1])
    · rw [pB_neg p1, if_pos rfl, e18_28]
      exact key 16 (by unfold pBase; rw [if_neg p1])
def pClears (f g : Nat → Int32) : Nat → Int32 := pIter pBehind 256 (pPassUp (fillG g 0 256 (pBase f)) 0 256)
theorem c_measure {a cv cl : Nat} {fs : List Value} {f g : Nat → Int32} {h : List mCel} (hc : mCell h a = some (.inr (1, fs))) (h2 : fs[2]? = some (.ref cv)) (h3 : fs[3]? = some (.ref cl)) (hcc : cl ≠ cv) (hcv : mCell h cv = some (.inl (0, 256, .inl f))) (hcl : mCell h cl = some (.inl (0, 256, .inl g))) :
    mW (mRo L xs) mTab 18 0 [some (.ref a), none] [] h k = some (.inl none, h.set (cl - 8) (.inl (0, 256, .inl (pClears f g))), k) := by
  have hne : cl ≠ a := cell_ne hcl hc (fun z => by cases z)
  have h8 := (cell_8 hcl).1
  have H : ∀ g' : Nat → Int32, mCell (h.set (cl - 8) (.inl (0, 256, .inl g'))) a = some (.inr (1, fs)) := fun g' => (cell_setne hne h8).trans hc
  have G : ∀ g' : Nat → Int32, mCell (h.set (cl - 8) (.inl (0, 256, .inl g'))) cl = some (.inl (0, 256, .inl g')) := fun g' => cell_set hcl
  have e1 : ∀ (g' : Nat → Int32) (q : Value → Option mOut), kF (mCell (h.set (cl - 8) (.inl (0, 256, .inl g'))) a) 1 3 q = q (.ref cl) := fun g' q => kF_eq (H g') h3
  rw [e18_0, e18_1, show (0 : Int32) = Int32.ofNat 0 from rfl, base_loop h2 h3 hcc 256 0 g h rfl hc hcv hcl]
  rw [e18_37, e18_38, show (0 : Int32) = Int32.ofNat 0 from rfl, up_loop h3 256 0 _ _ rfl (H _) (G _), List.set_set]
  rw [e18_82, e18_83, e1, e18_86, kAL_int (G _), e18_87, e18_88, e18_89, show Int32.ofNat 256 - 1 = Int32.ofNat 256 + (-1) from rfl, down_loop h3 256 _ _ (by decide) (H _) (G _), List.set_set]
  rfl
end
