section
variable {L : Nat} {xs : Nat → Int32} {k : Nat} {h : List mCel}
def aH (ar ax ay : Nat) (fX fY : Nat → Int32) (h : List mCel) : Prop := mCell h ar = some (.inr (0, [.ref ax, .ref ay])) ∧ mCell h ax = some (.inl (0, 128, .inl fX)) ∧ mCell h ay = some (.inl (0, 128, .inl fY)) ∧
  ∀ g kk n, g < 8 → (kk = 1 ∨ kk = 2) → n < 8 → fX ((g * 2 + (kk - 1)) * 8 + n) = vX g kk n ∧ fY ((g * 2 + (kk - 1)) * 8 + n) = vY g kk n
theorem ck_place : allB 8 (fun g => allB 2 fun z => allB 8 fun n => decide ((Int32.ofNat g * 2 + (if tnI (z + 1) ≤ 0 then 0 else 1)) * 8 + (Int32.ofNat n &&& 7) = Int32.ofNat ((g * 2 + z) * 8 + n))) = true := by decide +kernel
theorem c_placeOf {hh : Int32} {g kk n : Nat} (e : hh &&& 7 = Int32.ofNat g) (hg : g < 8) (hk : kk = 1 ∨ kk = 2) (hn : n < 8) : mW (mRo L xs) mTab 4 0 [some (.int hh), some (.int (tnI kk)), some (.int (Int32.ofNat n))] [] h k = some (.inl (some (.int (Int32.ofNat ((g * 2 + (kk - 1)) * 8 + n)))), h, k) := by
  have c := of_decide_eq_true (allB_get (allB_get (allB_get ck_place g hg) (kk - 1) (by omega)) n hn)
  rw [show kk - 1 + 1 = kk by omega] at c
  rw [← c, e4_0, e4_1, e4_3, e, e4_4, e4_5, e4_6, e4_7]
  by_cases z : tnI kk ≤ 0
  · rw [if_pos z, if_pos z, e4_14, e4_15, e4_16, e4_18, e4_19, e4_20, e4_22, e4_23, e4_24]
  · rw [if_neg z, if_neg z, e4_10, e4_11, e4_15, e4_16, e4_18, e4_19, e4_20, e4_22, e4_23, e4_24]
theorem c_arcX {ar ax ay : Nat} {fX fY : Nat → Int32} {hh : Int32} {g kk n : Nat} (A : aH ar ax ay fX fY h) (e : hh &&& 7 = Int32.ofNat g) (hg : g < 8) (hk : kk = 1 ∨ kk = 2) (hn : n < 8) : mW (mRo L xs) mTab 5 0 [some (.ref ar), some (.int hh), some (.int (tnI kk)), some (.int (Int32.ofNat n)), none] [] h k = some (.inl (some (.int (vX g kk n))), h, k) := by
  have hp : (g * 2 + (kk - 1)) * 8 + n < 128 := by omega
  have lt : ¬ (Int32.ofNat 128 ≤ Int32.ofNat ((g * 2 + (kk - 1)) * 8 + n)) := by rw [oi_le (by decide) (by omega)]; omega
  have hin : 0 ≤ (Int32.ofNat ((g * 2 + (kk - 1)) * 8 + n)).toInt ∧ (Int32.ofNat ((g * 2 + (kk - 1)) * 8 + n)).toInt < (128 : Nat) := by rw [oi_int (by omega)]; omega
  rw [e5_0, e5_1, e5_2, e5_3 (by simp), c_placeOf e hg hk hn]
  simp only [mAft, Option.toList_some, List.cons_append, List.nil_append]
  rw [e5_6, e5_8, e5_10, e5_11, kF_eq A.1 (v := .ref ax) rfl, e5_14, kAL_int A.2.1, e5_15, if_neg lt, e5_18, e5_19, kF_eq A.1 (v := .ref ax) rfl, e5_22, e5_24, kIA_int A.2.1 hin, oi_nat (by omega), e5_25, e5_29, (A.2.2.2 g kk n hg hk hn).1]
theorem c_arcY {ar ax ay : Nat} {fX fY : Nat → Int32} {hh : Int32} {g kk n : Nat} (A : aH ar ax ay fX fY h) (e : hh &&& 7 = Int32.ofNat g) (hg : g < 8) (hk : kk = 1 ∨ kk = 2) (hn : n < 8) : mW (mRo L xs) mTab 6 0 [some (.ref ar), some (.int hh), some (.int (tnI kk)), some (.int (Int32.ofNat n)), none] [] h k = some (.inl (some (.int (vY g kk n))), h, k) := by
  have hp : (g * 2 + (kk - 1)) * 8 + n < 128 := by omega
  have lt : ¬ (Int32.ofNat 128 ≤ Int32.ofNat ((g * 2 + (kk - 1)) * 8 + n)) := by rw [oi_le (by decide) (by omega)]; omega
  have hin : 0 ≤ (Int32.ofNat ((g * 2 + (kk - 1)) * 8 + n)).toInt ∧ (Int32.ofNat ((g * 2 + (kk - 1)) * 8 + n)).toInt < (128 : Nat) := by rw [oi_int (by omega)]; omega
  rw [e6_0, e6_1, e6_2, e6_3 (by simp), c_placeOf e hg hk hn]
  simp only [mAft, Option.toList_some, List.cons_append, List.nil_append]
  rw [e6_6, e6_8, e6_10, e6_11, kF_eq A.1 (v := .ref ay) rfl, e6_14, kAL_int A.2.2.1, e6_15, if_neg lt, e6_18, e6_19, kF_eq A.1 (v := .ref ay) rfl, e6_22, e6_24, kIA_int A.2.2.1 hin, oi_nat (by omega), e6_25, e6_29, (A.2.2.2 g kk n hg hk hn).2]
theorem kIA_3 {f : Int32 → Option mOut} {g : Int32} : kIA (mRo L xs) h 3 (g &&& 7) f = f (([1, 2, 1, 2, 1, 2, -1, -1] : List Int32).getD (g &&& 7).toNatClampNeg 0) := by
  unfold kIA; exact (if_pos (by decide)).trans (if_pos (and7 g))
theorem kIA_5 {f : Int32 → Option mOut} {g : Int32} : kIA (mRo L xs) h 5 (g &&& 7) f = f (([1, 2, 2, 1, 1, 2, -1, -1] : List Int32).getD (g &&& 7).toNatClampNeg 0) := by
  unfold kIA; exact (if_pos (by decide)).trans (if_pos (and7 g))
theorem c_firstMove {w : Nat} (hw : w < 6) : mW (mRo L xs) mTab 27 0 [some (.int (Int32.ofNat w))] [] h k = some (.inl (some (.int (Int32.ofNat (kN w 0)))), h, k) := by
  rw [e27_0, e27_3, e27_4, e27_6, e27_7, kIA_3, e27_8]
  obtain rfl | rfl | rfl | rfl | rfl | rfl : w = 0 ∨ w = 1 ∨ w = 2 ∨ w = 3 ∨ w = 4 ∨ w = 5 := by omega
  all_goals rfl
theorem c_thirdMove {w : Nat} (hw : w < 6) : mW (mRo L xs) mTab 34 0 [some (.int (Int32.ofNat w))] [] h k = some (.inl (some (.int (Int32.ofNat (kN w 2)))), h, k) := by
  rw [e34_0, e34_3, e34_4, e34_6, e34_7, kIA_5, e34_8]
  obtain rfl | rfl | rfl | rfl | rfl | rfl : w = 0 ∨ w = 1 ∨ w = 2 ∨ w = 3 ∨ w = 4 ∨ w = 5 := by omega
  all_goals rfl
theorem turn_eq {kk : Nat} (hk : kk = 1 ∨ kk = 2) : pTurn (Int32.ofNat kk) = tnI kk := by
  obtain rfl | rfl := hk <;> decide
theorem c_arcsBetween {a b t : Int32} : mW (mRo L xs) mTab 24 0 [some (.int a), some (.int b), some (.int t)] [] h k = some (.inl (some (.int ((t * (b - a)) &&& 7))), h, k) := by
  rw [e24_0, e24_1, e24_2, e24_3, e24_4, e24_5, e24_7, e24_8]
def wC (ar : Nat) (s : wS) : mCel := .inr (9, [.ref ar, .int (qDec 1 s.2.1), .int (Int32.ofNat s.2.2.1), .int (Int32.ofNat s.2.2.2.1), .int (Int32.ofNat s.2.2.2.2), .int (Int32.ofNat s.1)])
theorem c_offer {a ar w x1 x2 x3 c : Nat} {s : wS} (H : mCell h a = some (wC ar s)) (hs : s.1 ≤ 536870912) (hc : c < 536870912) :
    ∃ h', mW (mRo L xs) mTab 31 0 [some (.ref a), some (.int (Int32.ofNat w)), some (.int (Int32.ofNat x1)), some (.int (Int32.ofNat x2)), some (.int (Int32.ofNat x3)), some (.int (Int32.ofNat c))] [] h k = some (.inl none, h', k) ∧ mKeep (fun x => x = a) h h' ∧ mCell h' a = some (wC ar (wOff s w x1 x2 x3 c)) := by
  have hle : (Int32.ofNat s.1 ≤ Int32.ofNat c) = (s.1 ≤ c) := oi_le (by omega) (by omega)
  unfold wC at H
  rw [e31_0, e31_2, e31_3, kF_eq H (v := .int (Int32.ofNat s.1)) rfl, e31_6]
  simp only [hle]
  unfold wOff
  by_cases z : c < s.1
  · rw [if_neg (by omega), if_pos z]
    have l6 : ∀ (f : List Value) i, f.length = 6 → i < 6 → i < f.length := fun f i hf hi => by rw [hf]; exact hi
    rw [e31_9, e31_10, e31_11, kP_eq H (by simp), e31_14, e31_15, e31_16, kP_eq (cell_set H) (by simp), List.set_set]
    rw [e31_19, e31_20, e31_21, kP_eq (cell_set H) (by simp), List.set_set, e31_24, e31_25, e31_27, kP_eq (cell_set H) (by simp), List.set_set]
    rw [e31_30, e31_31, e31_33, kP_eq (cell_set H) (by simp), List.set_set, e31_36]
    refine ⟨_, rfl, keep_set H (by simp [hz1]) rfl, ?_⟩
    rw [cell_set H]
    unfold wC
    rw [enc_succ]
    simp only [List.set_cons_succ, List.set_cons_zero]
  · rw [if_pos (by omega), if_neg z, e31_36]
    exact ⟨h, rfl, keep_refl, H⟩
end
