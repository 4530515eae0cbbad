/-! Numbers and cells: what loops need. -/
theorem oi_int {i : Nat} (hi : i < 2 ^ 31) : (Int32.ofNat i).toInt = i := Int32.toInt_ofNat_of_lt hi
theorem oi_nat {i : Nat} (hi : i < 2 ^ 31) : (Int32.ofNat i).toNatClampNeg = i := by
  unfold Int32.toNatClampNeg; rw [oi_int hi]; rfl
theorem oi_add (i j : Nat) : Int32.ofNat (i + j) = Int32.ofNat i + Int32.ofNat j := Int32.ofNat_add i j
theorem oi_succ (i : Nat) : Int32.ofNat i + 1 = Int32.ofNat (i + 1) := (oi_add i 1).symm
theorem oi_le {i j : Nat} (hi : i < 2 ^ 31) (hj : j < 2 ^ 31) : (Int32.ofNat i ≤ Int32.ofNat j) = (i ≤ j) := by
  rw [Int32.le_iff_toInt_le, oi_int hi, oi_int hj]; simp
theorem oi_lt {i j : Nat} (hi : i < 2 ^ 31) (hj : j < 2 ^ 31) : (Int32.ofNat i < Int32.ofNat j) = (i < j) := by
  rw [Int32.lt_iff_toInt_lt, oi_int hi, oi_int hj]; simp
theorem cell_8 {h : List mCel} {a : Nat} {c : mCel} (hc : mCell h a = some c) : 8 ≤ a ∧ a - 8 < h.length := by
  unfold mCell at hc
  split at hc
  · cases hc
  · exact ⟨by omega, (List.getElem?_eq_some_iff.mp hc).1⟩
theorem cell_set {h : List mCel} {a : Nat} {c d : mCel} (hc : mCell h a = some c) : mCell (h.set (a - 8) d) a = some d := by
  obtain ⟨h1, h2⟩ := cell_8 hc
  unfold mCell
  rw [if_neg (by omega), List.getElem?_set_self h2]
theorem cell_setne {h : List mCel} {a b : Nat} {d : mCel} (hb : a ≠ b) (h8 : 8 ≤ a) : mCell (h.set (a - 8) d) b = mCell h b := by
  unfold mCell
  by_cases h1 : b < 8
  · rw [if_pos h1, if_pos h1]
  · rw [if_neg h1, if_neg h1, List.getElem?_set_ne (by omega)]
theorem cell_same {h : List mCel} {a : Nat} {c : mCel} (hc : mCell h a = some c) : h.set (a - 8) c = h := by
  obtain ⟨h1, h2⟩ := cell_8 hc
  unfold mCell at hc
  rw [if_neg (by omega)] at hc
  have h3 := (List.getElem?_eq_some_iff.mp hc).2
  rw [← h3]
  exact List.set_getElem_self h2
/-- an int row filled from a place on -/
def fillF (f : Nat → Int32) (i n : Nat) (v : Int32) : Nat → Int32 := fun j => if i ≤ j ∧ j < n then v else f j
section
variable {ro : Nat → Nat × (Nat → Int32)} {k : Nat}
theorem fill_loop {a n : Nat} {v : Int32} (hn : n < 2 ^ 31) : ∀ (d i : Nat) (f : Nat → Int32) (h : List mCel), i + d = n → mCell h a = some (.inl (0, n, .inl f)) →
    mW ro mTab 1 5 [some (.ref a), some (.int v), some (.int (Int32.ofNat i)), some (.int (Int32.ofNat n))] [] h k = some (.inl none, h.set (a - 8) (.inl (0, n, .inl (fillF f i n v))), k)
  | 0, i, f, h, hd, hc => by
    obtain rfl : i = n := by omega
    rw [e1_5, e1_6, e1_7, if_pos (Int32.le_refl _), e1_20]
    have : fillF f i i v = f := by funext j; unfold fillF; rw [if_neg (by omega)]
    rw [this, cell_same hc]
  | d + 1, i, f, h, hd, hc => by
    have hi : i < 2 ^ 31 := by omega
    have hlt : ¬ (Int32.ofNat n ≤ Int32.ofNat i) := by rw [oi_le hn hi]; omega
    have hin : 0 ≤ (Int32.ofNat i).toInt ∧ (Int32.ofNat i).toInt < n := by rw [oi_int hi]; omega
    rw [e1_5, e1_6, e1_7, if_neg hlt, e1_10, e1_11, e1_12, e1_13]
    unfold kIS
    rw [hc]
    simp only [if_pos hin, oi_nat hi]
    rw [e1_14, e1_17, oi_succ, fill_loop hn d (i + 1) _ _ (by omega) (cell_set hc), List.set_set]
    have : fillF (upd f i v) (i + 1) n v = fillF f i n v := by
      funext j; unfold fillF upd
      by_cases h1 : j = i
      · subst h1; simp; omega
      · by_cases h2 : i + 1 ≤ j ∧ j < n
        · rw [if_pos h2, if_pos (by omega)]
        · rw [if_neg h2, if_neg (show ¬ (i ≤ j ∧ j < n) by omega)]; simp [h1]
    rw [this]
/-- Arrays.fill -/
theorem c_fill {a n : Nat} {v : Int32} {f : Nat → Int32} {h : List mCel} (hn : n < 2 ^ 31) (hc : mCell h a = some (.inl (0, n, .inl f))) :
    mW ro mTab 1 0 [some (.ref a), some (.int v), none, none] [] h k = some (.inl none, h.set (a - 8) (.inl (0, n, .inl (fillF f 0 n v))), k) := by
  have h8 := (cell_8 hc).1
  rw [e1_0, e1_1, e1_2, e1_3]
  unfold kAL
  rw [if_neg (by omega), hc]
  simp only [show (0 : Nat) < 7 by decide, if_true]
  rw [e1_4]
  exact fill_loop hn n 0 f h (by omega) hc
end
