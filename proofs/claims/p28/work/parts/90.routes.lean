section
variable {L : Nat} {xs : Nat → Int32} {k : Nat} {h : List mCel}
theorem kCP_eq {a b n1 n2 : Nat} {f g : Nat → Int32} {sp dp n : Int32} {q : Nat → (Nat → Int32) → (Nat → Int32) → Option mOut} (hb : mCell h b = some (.inl (0, n2, .inl f))) (ha : mCell h a = some (.inl (0, n1, .inl g)))
    (hj : (0 ≤ sp.toInt ∧ 0 ≤ dp.toInt ∧ 0 ≤ n.toInt) ∧ sp.toNatClampNeg + n.toNatClampNeg ≤ n2 ∧ dp.toNatClampNeg + n.toNatClampNeg ≤ n1) : kCP h a b sp dp n q = q n1 f g := by
  unfold kCP
  rw [hb, ha]
  exact if_pos hj
/-- Arrays.copyOf to a greater length -/
theorem c_copyOf {a n m : Nat} {f : Nat → Int32} (hc : mCell h a = some (.inl (0, n, .inl f))) (hnm : n < m) (hm : m ≤ 1000000) :
    mW (mRo L xs) mTab 0 0 [some (.ref a), some (.int (Int32.ofNat m)), none] [] h k = some (.inl (some (.ref (8 + h.length))), h ++ [.inl (0, m, .inl (va_cpy f (fun _ => 0) 0 0 n))], k) := by
  have a8 := cell_8 hc
  have n1 : ¬ Int32.ofNat m = Int32.ofNat n := fun z => by
    have := congrArg Int32.toInt z
    rw [oi_int (by omega), oi_int (by omega)] at this
    omega
  have n2 : Int32.ofNat n < Int32.ofNat m := by rw [oi_lt (by omega) (by omega)]; exact hnm
  have n3 : ¬ (Int32.ofNat m < Int32.ofNat n) := by rw [oi_lt (by omega) (by omega)]; omega
  have hm' : 0 ≤ (Int32.ofNat m).toInt ∧ (Int32.ofNat m).toInt ≤ 1000000 := by rw [oi_int (by omega)]; omega
  have c1 : mCell (h ++ [.inl (0, mZero (mTy 0) (Int32.ofNat m).toNatClampNeg)]) a = some (.inl (0, n, .inl f)) := (ap_old (by omega)).trans hc
  have c2 : mCell (h ++ [.inl (0, mZero (mTy 0) (Int32.ofNat m).toNatClampNeg)]) (8 + h.length) = some (.inl (0, m, .inl fun _ => 0)) := by
    rw [ap_0, oi_nat (by omega)]; rfl
  have z0 : (0 : Int32).toNatClampNeg = 0 := rfl
  rw [e0_0, e0_1, e0_2, kAL_int hc, e0_3, if_pos n1, e0_14, e0_15 hm', e0_17, e0_18, e0_19, e0_20, e0_21, e0_22, e0_23, kAL_int c1, e0_24, e0_25 (by simp [Value.category]), if_neg n3, e0_28 (by simp)]
  rw [kCP_eq c1 c2 (by rw [oi_int (by omega), oi_nat (by omega), z0]; refine ⟨⟨Int.le_refl _, Int.le_refl _, by omega⟩, by omega, by omega⟩), e0_31, e0_32, oi_nat (show m < 2 ^ 31 by omega), oi_nat (show n < 2 ^ 31 by omega), z0]
  have e1 : (h ++ [(.inl (0, mZero (mTy 0) m) : mCel)]).set (8 + h.length - 8) (.inl (0, m, .inl (va_cpy f (fun _ => 0) 0 0 n))) = h ++ [.inl (0, m, .inl (va_cpy f (fun _ => 0) 0 0 n))] := by
    rw [show 8 + h.length - 8 = h.length by omega, List.set_append_right _ _ (Nat.le_refl _), Nat.sub_self]
    rfl
  rw [e1]
/-- a route in the heap -/
def tG (rt pa ma n c : Nat) (fp fm : Nat → Int32) (h : List mCel) : Prop := mCell h rt = some (.inr (6, [.ref pa, .ref ma, .int (Int32.ofNat c)])) ∧ mCell h pa = some (.inl (0, n, .inl fp)) ∧ mCell h ma = some (.inl (0, n, .inl fm)) ∧ pa ≠ ma
variable {rt pa ma n c : Nat} {fp fm : Nat → Int32}
theorem g_poseAt (T : tG rt pa ma n c fp fm h) (hn : n ≤ 131072) (hc : c < n) {i : Nat} (hi : i ≤ c) : mW (mRo L xs) mTab 137 0 [some (.ref rt), some (.int (Int32.ofNat i))] [] h k = some (.inl (some (.int (fp i))), h, k) := by
  have hin : 0 ≤ (Int32.ofNat i).toInt ∧ (Int32.ofNat i).toInt < n := by rw [oi_int (by omega)]; omega
  have a1 : ¬ (Int32.ofNat c < Int32.ofNat i) := by rw [oi_lt (by omega) (by omega)]; omega
  have a2 : ¬ (Int32.ofNat n ≤ Int32.ofNat i) := by rw [oi_le (by omega) (by omega)]; omega
  rw [e137_0, e137_1, if_neg (oi_nneg (by omega)), e137_4, e137_5, e137_6, kF_eq T.1 (v := .int (Int32.ofNat c)) rfl, e137_9, if_neg a1, e137_12, e137_13, e137_14, kF_eq T.1 (v := .ref pa) rfl, e137_17, kAL_int T.2.1, e137_18, if_neg a2, e137_21, e137_22, kF_eq T.1 (v := .ref pa) rfl, e137_25, e137_26, kIA_int T.2.1 hin, oi_nat (by omega), e137_27, e137_31]
theorem g_poseOut (T : tG rt pa ma n c fp fm h) (hn : n ≤ 131072) (hc : c < n) {i : Int32} (hi : i < 0 ∨ Int32.ofNat c < i) : mW (mRo L xs) mTab 137 0 [some (.ref rt), some (.int i)] [] h k = some (.inl (some (.int (-1))), h, k) := by
  rw [e137_0, e137_1]
  by_cases h0 : i < 0
  · rw [if_pos h0, e137_30, e137_31]
  · rw [if_neg h0, e137_4, e137_5, e137_6, kF_eq T.1 (v := .int (Int32.ofNat c)) rfl, e137_9, if_pos (hi.resolve_left h0), e137_30, e137_31]
theorem g_moveAt (T : tG rt pa ma n c fp fm h) (hn : n ≤ 131072) (hc : c < n) {i : Nat} (hi : i < c) : mW (mRo L xs) mTab 136 0 [some (.ref rt), some (.int (Int32.ofNat i))] [] h k = some (.inl (some (.int (fm i))), h, k) := by
  have hin : 0 ≤ (Int32.ofNat i).toInt ∧ (Int32.ofNat i).toInt < n := by rw [oi_int (by omega)]; omega
  have a1 : ¬ (Int32.ofNat c ≤ Int32.ofNat i) := by rw [oi_le (by omega) (by omega)]; omega
  have a2 : ¬ (Int32.ofNat n ≤ Int32.ofNat i) := by rw [oi_le (by omega) (by omega)]; omega
  rw [e136_0, e136_1, if_neg (oi_nneg (by omega)), e136_4, e136_5, e136_6, kF_eq T.1 (v := .int (Int32.ofNat c)) rfl, e136_9, if_neg a1, e136_12, e136_13, e136_14, kF_eq T.1 (v := .ref ma) rfl, e136_17, kAL_int T.2.2.1, e136_18, if_neg a2, e136_21, e136_22, kF_eq T.1 (v := .ref ma) rfl, e136_25, e136_26, kIA_int T.2.2.1 hin, oi_nat (by omega), e136_27, e136_31]
theorem g_moveOut (T : tG rt pa ma n c fp fm h) {i : Int32} (hi : i < 0 ∨ Int32.ofNat c ≤ i) : mW (mRo L xs) mTab 136 0 [some (.ref rt), some (.int i)] [] h k = some (.inl (some (.int (-1))), h, k) := by
  rw [e136_0, e136_1]
  by_cases h0 : i < 0
  · rw [if_pos h0, e136_30, e136_31]
  · rw [if_neg h0, e136_4, e136_5, e136_6, kF_eq T.1 (v := .int (Int32.ofNat c)) rfl, e136_9, if_pos (hi.resolve_left h0), e136_30, e136_31]
theorem g_growNot (T : tG rt pa ma n c fp fm h) (hn : n ≤ 131072) (hc : c + 1 < n) : mW (mRo L xs) mTab 131 0 [some (.ref rt)] [] h k = some (.inl none, h, k) := by
  have a1 : Int32.ofNat (c + 1) < Int32.ofNat n := by rw [oi_lt (by omega) (by omega)]; exact hc
  rw [e131_0, e131_1, kF_eq T.1 (v := .int (Int32.ofNat c)) rfl, e131_4, e131_5, oi_succ, e131_6, e131_7, kF_eq T.1 (v := .ref pa) rfl, e131_10, kAL_int T.2.1, e131_11, if_pos a1, e131_42, e131_43, kF_eq T.1 (v := .int (Int32.ofNat c)) rfl, e131_46, e131_47, oi_succ, e131_48, e131_49, kF_eq T.1 (v := .ref ma) rfl, e131_52, kAL_int T.2.2.1, e131_53, if_pos a1, e131_84]
theorem g_grow (T : tG rt pa ma n c fp fm h) (hn : n ≤ 65536) (hc : c + 1 = n) : ∃ h', mW (mRo L xs) mTab 131 0 [some (.ref rt)] [] h k = some (.inl none, h', k) ∧
    tG rt (8 + h.length) (8 + h.length + 1) (2 * n) c (va_cpy fp (fun _ => 0) 0 0 n) (va_cpy fm (fun _ => 0) 0 0 n) h' ∧ h'.length = h.length + 2 ∧ hz h' = hz h + 4 * n ∧ ∀ a, a < 8 + h.length → a ≠ rt → mCell h' a = mCell h a := by
  obtain ⟨t1, t2, t3, t4⟩ := id T
  have r8 := cell_8 t1
  have p8 := cell_8 t2
  have m8 := cell_8 t3
  have rp : rt ≠ pa := cell_ne t1 t2 (fun z => by cases z)
  have rm : rt ≠ ma := cell_ne t1 t3 (fun z => by cases z)
  have a1 : ¬ Int32.ofNat (c + 1) < Int32.ofNat n := by rw [oi_lt (by omega) (by omega)]; omega
  have a2 : ¬ (65536 : Int32) < Int32.ofNat n := by
    rw [show (65536 : Int32) = Int32.ofNat 65536 from rfl, oi_lt (by decide) (by omega)]; omega
  have e2 : (2 : Int32) * Int32.ofNat n = Int32.ofNat (2 * n) := (oi_mul 2 n).symm
  -- behind the first copy
  let P : mCel := .inl (0, 2 * n, .inl (va_cpy fp (fun _ => 0) 0 0 n))
  let M : mCel := .inl (0, 2 * n, .inl (va_cpy fm (fun _ => 0) 0 0 n))
  have u1 : mCell (h ++ [P]) rt = some (.inr (6, [.ref pa, .ref ma, .int (Int32.ofNat c)])) := (ap_old (by omega)).trans t1
  let h1 : List mCel := (h ++ [P]).set (rt - 8) (.inr (6, [.ref (8 + h.length), .ref ma, .int (Int32.ofNat c)]))
  have l1 : h1.length = h.length + 1 := by simp [h1]
  have v1 : mCell h1 rt = some (.inr (6, [.ref (8 + h.length), .ref ma, .int (Int32.ofNat c)])) := cell_set u1
  have v2 : mCell h1 ma = some (.inl (0, n, .inl fm)) := (cell_setne rm r8.1).trans ((ap_old (by omega)).trans t3)
  have v3 : mCell h1 (8 + h.length) = some P := (cell_setne (by omega) r8.1).trans ap_0
  have w1 : mCell (h1 ++ [M]) rt = some (.inr (6, [.ref (8 + h.length), .ref ma, .int (Int32.ofNat c)])) := (ap_old (by omega)).trans v1
  refine ⟨(h1 ++ [M]).set (rt - 8) (.inr (6, [.ref (8 + h.length), .ref (8 + h.length + 1), .int (Int32.ofNat c)])), ?_, ⟨cell_set w1, ?_, ?_, by omega⟩, ?_, ?_, ?_⟩
  · rw [e131_0, e131_1, kF_eq t1 (v := .int (Int32.ofNat c)) rfl, e131_4, e131_5, oi_succ, e131_6, e131_7, kF_eq t1 (v := .ref pa) rfl, e131_10, kAL_int t2, e131_11, if_neg a1, e131_14, e131_15, kF_eq t1 (v := .ref pa) rfl, e131_18, kAL_int t2, e131_19, e131_21, if_neg a2, e131_24, e131_25, e131_26, kF_eq t1 (v := .ref pa) rfl, e131_29, e131_30, e131_31, kF_eq t1 (v := .ref pa) rfl, e131_34, kAL_int t2, e131_35, e2, e131_36 (by simp [Value.category]), c_copyOf t2 (by omega) (by omega)]
    simp only [mAft, Option.toList_some, List.cons_append, List.nil_append]
    rw [e131_39, kP_eq u1 (Nat.succ_pos _)]
    show mW (mRo L xs) mTab 131 42 [some (.ref rt)] [] h1 k = _
    rw [e131_42, e131_43, kF_eq v1 (v := .int (Int32.ofNat c)) rfl, e131_46, e131_47, oi_succ, e131_48, e131_49, kF_eq v1 (v := .ref ma) rfl, e131_52, kAL_int v2, e131_53, if_neg a1, e131_56, e131_57, kF_eq v1 (v := .ref ma) rfl, e131_60, kAL_int v2, e131_61, e131_63, if_neg a2, e131_66, e131_67, e131_68, kF_eq v1 (v := .ref ma) rfl, e131_71, e131_72, e131_73, kF_eq v1 (v := .ref ma) rfl, e131_76, kAL_int v2, e131_77, e2, e131_78 (by simp [Value.category]), c_copyOf v2 (by omega) (by omega)]
    simp only [mAft, Option.toList_some, List.cons_append, List.nil_append]
    rw [e131_81, kP_eq w1 (Nat.succ_lt_succ (Nat.succ_pos _)), e131_84, l1]
    rfl
  · exact (cell_setne (by omega) r8.1).trans ((ap_old (by omega)).trans v3)
  · refine (cell_setne (by omega) r8.1).trans ?_
    rw [show 8 + h.length + 1 = 8 + h1.length by omega]
    exact ap_0
  · rw [List.length_set, List.length_append, l1]; rfl
  · have z1 : hz h1 = hz h + 2 * n := by
      have := hz_set (h ++ [P]) (rt - 8) (.inr (6, [.ref (8 + h.length), .ref ma, .int (Int32.ofNat c)])) _ (xW_cell (κ := id) (ρ := id) u1).2.2 rfl
      rw [hz_app] at this
      exact this
    have := hz_set (h1 ++ [M]) (rt - 8) (.inr (6, [.ref (8 + h.length), .ref (8 + h.length + 1), .int (Int32.ofNat c)])) _ (xW_cell (κ := id) (ρ := id) w1).2.2 rfl
    rw [hz_app, z1] at this
    rw [this]
    show hz h + 2 * n + 2 * n = _
    omega
  · intro a ha hne
    exact (cell_setne (Ne.symm hne) r8.1).trans ((ap_old (by omega)).trans ((cell_setne (Ne.symm hne) r8.1).trans (ap_old ha)))
end
