section
variable {L : Nat} {xs : Nat → Int32} {k : Nat} {h : List mCel}
theorem kIA_4 {f : Int32 → Option mOut} {g : Int32} : kIA (mRo L xs) h 4 (g &&& 7) f = f (([0, 0, 0, 0, 2, 1, -1, -1] : List Int32).getD (g &&& 7).toNatClampNeg 0) := by
  unfold kIA; exact (if_pos (by decide)).trans (if_pos (and7 g))
theorem c_secondMove {w : Nat} (hw : w < 6) : mW (mRo L xs) mTab 32 0 [some (.int (Int32.ofNat w))] [] h k = some (.inl (some (.int (Int32.ofNat (kN w 1)))), h, k) := by
  rw [e32_0, e32_3, e32_4, e32_6, e32_7, kIA_4, e32_8]
  obtain rfl | rfl | rfl | rfl | rfl | rfl : w = 0 ∨ w = 1 ∨ w = 2 ∨ w = 3 ∨ w = 4 ∨ w = 5 := by omega
  all_goals rfl
/-- the moves of a word: w its number and 1, 0 for none -/
def wMv (s : wS) : List Nat := if s.2.1 = 0 then [] else List.replicate s.2.2.1 (kN (s.2.1 - 1) 0) ++ (List.replicate s.2.2.2.1 (kN (s.2.1 - 1) 1) ++ List.replicate s.2.2.2.2 (kN (s.2.1 - 1) 2))
/-- a word as the class holds it -/
def wIn (s : wS) : Prop := s.2.1 ≤ 6 ∧ s.2.2.1 ≤ 7 ∧ s.2.2.2.1 ≤ 15 ∧ s.2.2.2.2 ≤ 7
theorem wMv_fw {s : wS} : ∀ m ∈ wMv s, m < 3 := by
  intro m hm
  unfold wMv at hm
  split at hm
  · cases hm
  · rcases List.mem_append.mp hm with hm | hm
    · rw [(List.mem_replicate.mp hm).2]; exact kN_lt _ _
    · rcases List.mem_append.mp hm with hm | hm
      · rw [(List.mem_replicate.mp hm).2]; exact kN_lt _ _
      · rw [(List.mem_replicate.mp hm).2]; exact kN_lt _ _
theorem qd_eq {n : Nat} (hn : n ≤ 6) : (qDec 1 n = -1) = (n = 0) := enc_eq (by omega)
theorem qd_succ {n : Nat} (hn : n ≠ 0) (h6 : n ≤ 6) : qDec 1 n = Int32.ofNat (n - 1) := by
  obtain rfl | rfl | rfl | rfl | rfl | rfl : n = 1 ∨ n = 2 ∨ n = 3 ∨ n = 4 ∨ n = 5 ∨ n = 6 := by omega
  all_goals decide
theorem c_wLen {a ar : Nat} {s : wS} (H : mCell h a = some (wC ar s)) (hs : wIn s) : mW (mRo L xs) mTab 29 0 [some (.ref a)] [] h k = some (.inl (some (.int (Int32.ofNat (wMv s).length))), h, k) := by
  unfold wC at H
  rw [e29_0, e29_1, kF_eq H (v := .int (qDec 1 s.2.1)) rfl, e29_4, e29_5]
  by_cases h0 : s.2.1 = 0
  · rw [if_neg (fun z => z ((qd_eq hs.1).mpr h0)), e29_8, e29_9, e29_26]
    unfold wMv
    rw [if_pos h0]
    rfl
  · rw [if_pos (fun z => h0 ((qd_eq hs.1).mp z)), e29_12, e29_13, kF_eq H (v := .int (Int32.ofNat s.2.2.1)) rfl, e29_16, e29_17, kF_eq H (v := .int (Int32.ofNat s.2.2.2.1)) rfl, e29_20, ← oi_add, e29_21, e29_22, kF_eq H (v := .int (Int32.ofNat s.2.2.2.2)) rfl, e29_25, ← oi_add, e29_26]
    unfold wMv
    rw [if_neg h0]
    simp only [List.length_append, List.length_replicate, Nat.add_assoc]
theorem c_wMove {a ar i : Nat} {s : wS} (H : mCell h a = some (wC ar s)) (hs : wIn s) {m : Nat} (hi : (wMv s)[i]? = some m) : mW (mRo L xs) mTab 30 0 [some (.ref a), some (.int (Int32.ofNat i))] [] h k = some (.inl (some (.int (Int32.ofNat m))), h, k) := by
  have H0 := H
  unfold wC at H
  unfold wMv at hi
  by_cases h0 : s.2.1 = 0
  · rw [if_pos h0] at hi; cases hi
  rw [if_neg h0] at hi
  have hil := (List.getElem?_eq_some_iff.mp hi).1
  simp only [List.length_append, List.length_replicate] at hil
  obtain ⟨b1, b2, b3, b4⟩ := hs
  have q1 := qd_succ h0 b1
  have w6 : s.2.1 - 1 < 6 := by omega
  rw [e30_0, e30_1, e30_2, kF_eq H (v := .int (Int32.ofNat s.2.2.1)) rfl, e30_5]
  simp only [oi_le (show s.2.2.1 < 2 ^ 31 by omega) (show i < 2 ^ 31 by omega)]
  rcases Nat.lt_or_ge i s.2.2.1 with h1 | h1
  · rw [if_neg (by omega), e30_8, e30_9, kF_eq H (v := .int (qDec 1 s.2.1)) rfl, q1, e30_12 (by simp), c_firstMove w6]
    simp only [mAft, Option.toList_some, List.cons_append, List.nil_append]
    rw [e30_15]
    rw [List.getElem?_append_left (by rw [List.length_replicate]; exact h1), List.getElem?_replicate, if_pos h1] at hi
    cases hi; rfl
  · rw [List.getElem?_append_right (by rw [List.length_replicate]; exact h1), List.length_replicate] at hi
    rw [if_pos h1, e30_16, e30_17, e30_18, kF_eq H (v := .int (Int32.ofNat s.2.2.1)) rfl, e30_21, e30_22, kF_eq H (v := .int (Int32.ofNat s.2.2.2.1)) rfl, e30_25, ← oi_add, e30_26]
    simp only [oi_le (show s.2.2.1 + s.2.2.2.1 < 2 ^ 31 by omega) (show i < 2 ^ 31 by omega)]
    rcases Nat.lt_or_ge i (s.2.2.1 + s.2.2.2.1) with h2 | h2
    · rw [if_neg (by omega), e30_29, e30_30, kF_eq H (v := .int (qDec 1 s.2.1)) rfl, q1, e30_33 (by simp), c_secondMove w6]
      simp only [mAft, Option.toList_some, List.cons_append, List.nil_append]
      rw [e30_36, e30_46]
      rw [List.getElem?_append_left (by rw [List.length_replicate]; omega), List.getElem?_replicate, if_pos (by omega)] at hi
      cases hi; rfl
    · rw [if_pos h2, e30_39, e30_40, kF_eq H (v := .int (qDec 1 s.2.1)) rfl, q1, e30_43 (by simp), c_thirdMove w6]
      simp only [mAft, Option.toList_some, List.cons_append, List.nil_append]
      rw [e30_46]
      rw [List.getElem?_append_right (by rw [List.length_replicate]; omega), List.length_replicate, List.getElem?_replicate, if_pos (by omega)] at hi
      cases hi; rfl
end
