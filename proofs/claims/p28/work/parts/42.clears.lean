section
variable {L : Nat} {xs : Nat → Int32} {k : Nat}
def pAhead (g : Nat → Int32) (c : Nat) : Nat → Int32 := pNear (pNear (pNear (pNear g c (-1) 0) c (-1) (-1)) c 0 (-1)) c 1 (-1)
def pBehind (g : Nat → Int32) (c : Nat) : Nat → Int32 := pNear (pNear (pNear (pNear g c 1 0) c 1 1) c 0 1) c (-1) 1
def pPassUp (g : Nat → Int32) (i : Nat) : Nat → (Nat → Int32)
  | 0 => g
  | d + 1 => pPassUp (pAhead g i) (i + 1) d
def pPassDown (g : Nat → Int32) : Nat → (Nat → Int32)
  | 0 => g
  | d + 1 => pPassDown (pBehind g d) d
theorem up_loop {a cl : Nat} {fs : List Value} (h3 : fs[3]? = some (.ref cl)) : ∀ (d i : Nat) (g : Nat → Int32) (h : List mCel), i + d = 256 → mCell h a = some (.inr (1, fs)) → mCell h cl = some (.inl (0, 256, .inl g)) →
    mW (mRo L xs) mTab 18 39 [some (.ref a), some (.int (Int32.ofNat i))] [] h k = mW (mRo L xs) mTab 18 82 [some (.ref a), some (.int (Int32.ofNat 256))] [] (h.set (cl - 8) (.inl (0, 256, .inl (pPassUp g i d)))) k
  | 0, i, g, h, hd, hc, hcl => by
    obtain rfl : i = 256 := by omega
    have e1 : ∀ q : Value → Option mOut, kF (mCell h a) 1 3 q = q (.ref cl) := fun q => kF_eq hc h3
    rw [e18_39, e18_40, e18_41, e1, e18_44, kAL_int hcl, e18_45, if_pos (Int32.le_refl _)]
    unfold pPassUp
    rw [cell_same hcl]
  | d + 1, i, g, h, hd, hc, hcl => by
    have hlt : ¬ (Int32.ofNat 256 ≤ Int32.ofNat i) := by rw [oi_le (by decide) (by omega)]; omega
    have e1 : ∀ q : Value → Option mOut, kF (mCell h a) 1 3 q = q (.ref cl) := fun q => kF_eq hc h3
    have hne : cl ≠ a := cell_ne hcl hc (fun z => by cases z)
    have h8 := (cell_8 hcl).1
    have H : ∀ g' : Nat → Int32, mCell (h.set (cl - 8) (.inl (0, 256, .inl g'))) a = some (.inr (1, fs)) := fun g' => (cell_setne hne h8).trans hc
    have G : ∀ g' : Nat → Int32, mCell (h.set (cl - 8) (.inl (0, 256, .inl g'))) cl = some (.inl (0, 256, .inl g')) := fun g' => cell_set hcl
    rw [e18_39, e18_40, e18_41, e1, e18_44, kAL_int hcl, e18_45, if_neg hlt]
    rw [e18_48, e18_49, e18_50, e18_51, e18_52 (kR_eq hc) (by simp), c_nearTo hc h3 hcl (by omega)]
    simp only [mAft, Option.toList_none, List.nil_append]
    rw [e18_55, e18_56, e18_57, e18_58, e18_59 (kR_eq (H _)) (by simp), c_nearTo (H _) h3 (G _) (by omega)]
    simp only [mAft, Option.toList_none, List.nil_append, List.set_set]
    rw [e18_62, e18_63, e18_64, e18_65, e18_66 (kR_eq (H _)) (by simp), c_nearTo (H _) h3 (G _) (by omega)]
    simp only [mAft, Option.toList_none, List.nil_append, List.set_set]
    rw [e18_69, e18_70, e18_71, e18_72, e18_73 (kR_eq (H _)) (by simp), c_nearTo (H _) h3 (G _) (by omega)]
    simp only [mAft, Option.toList_none, List.nil_append, List.set_set]
    rw [e18_76, e18_79, oi_succ, up_loop h3 d (i + 1) _ _ (by omega) (H _) (G _), List.set_set]
    rfl
end
