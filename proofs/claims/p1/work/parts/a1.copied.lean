section
variable {L : Nat} {xs : Nat → Int32}
theorem addFrom_loop {rt pa ma rt2 pa2 ma2 c : Nat} {fp fm : Nat → Int32} (hc : c ≤ 60) (hd : ∀ x, tA rt2 pa2 ma2 x → ¬ tA rt pa ma x) (d : Nat) : ∀ (i : Nat) (gp gm : Nat → Int32) (h : List mCel), i + d = c → tH rt pa ma c fp fm h → tH rt2 pa2 ma2 i gp gm h →
    ∃ h', mW (mRo L xs) mTab 200 8 [some (.ref rt2), some (.ref rt), some (.int 0), some (.int (Int32.ofNat c)), some (.int (Int32.ofNat i))] [] h 0 = some (.inl none, h', 0) ∧ mKeep (tA rt2 pa2 ma2) h h' ∧ ∃ cc gp' gm', tH rt2 pa2 ma2 cc gp' gm' h' := by
  induction d with
  | zero =>
    intro i gp gm h hi T T2
    obtain rfl : i = c := by omega
    exact ⟨h, by rw [e200_8, e200_10, e200_11, if_pos (Int32.le_refl _), e200_38], keep_refl, _, _, _, T2⟩
  | succ d IH =>
    intro i gp gm h hi T T2
    have n1 : ¬ (Int32.ofNat c ≤ Int32.ofNat i) := by rw [oi_le (by omega) (by omega)]; omega
    obtain ⟨h1, A1, A2, A3⟩ := t_add (L := L) (xs := xs) (k := 0) T2 (by omega) (m := fm i) (e := fp (i + 1))
    have T1 : tH rt pa ma c fp fm h1 := ⟨(A2.2.2 _ (fun z => hd _ z (Or.inl rfl))).trans T.1, (A2.2.2 _ (fun z => hd _ z (Or.inr (Or.inl rfl)))).trans T.2.1, (A2.2.2 _ (fun z => hd _ z (Or.inr (Or.inr rfl)))).trans T.2.2.1, T.2.2.2⟩
    obtain ⟨h2, B1, B2, B3⟩ := IH (i + 1) _ _ h1 (by omega) T1 A3
    refine ⟨h2, ?_, keep_trans A2 B2, B3⟩
    rw [e200_8, e200_10, e200_11, if_neg n1, e200_14, e200_15, e200_16, e200_18 (kR_eq T.1) (by simp [Value.category]), t_moveAt T (by omega) (by omega)]
    simp only [mAft, Option.toList_some, List.cons_append, List.nil_append]
    rw [e200_21, e200_22, e200_24, e200_25, oi_succ, e200_26 (kR_eq T.1) (by simp [Value.category]), t_poseAt T (by omega) (by omega)]
    simp only [mAft, Option.toList_some, List.cons_append, List.nil_append]
    rw [e200_29 (kR_eq T2.1) (by simp), A1]
    simp only [mAft, Option.toList_none, List.nil_append]
    rw [e200_32, oi_succ, e200_35]
    exact B1
/-- a copy of a route that has at most 60 moves -/
theorem c_copied {rt pa ma c : Nat} {fp fm : Nat → Int32} {h : List mCel} (T : tH rt pa ma c fp fm h) (hc : c ≤ 60) :
    ∃ h', mW (mRo L xs) mTab 202 0 [some (.ref rt), none] [] h 0 = some (.inl (some (.ref (8 + h.length))), h', 0) ∧ h'.length = h.length + 3 ∧ hz h' = hz h + 131 ∧ (∀ a, a < 8 + h.length → mCell h' a = mCell h a) ∧ ∃ fs, mCell h' (8 + h.length) = some (.inr (6, fs)) := by
  have lt : ∀ a c, mCell h a = some c → a < 8 + h.length := fun a c hc => by have := (cell_8 hc); omega
  have r1 := lt _ _ T.1
  have p1 := lt _ _ T.2.1
  have m1 := lt _ _ T.2.2.1
  have T1 : tH rt pa ma c fp fm (h ++ [.inr (6, [.ref (8 + h.length + 1), .ref (8 + h.length + 2), .int 0]), zI 64, zI 64]) := ⟨(ap_old r1).trans T.1, (ap_old p1).trans T.2.1, (ap_old m1).trans T.2.2.1, T.2.2.2⟩
  have U : tH (8 + h.length) (8 + h.length + 1) (8 + h.length + 2) 0 (fun _ => 0) (fun _ => 0) (h ++ [.inr (6, [.ref (8 + h.length + 1), .ref (8 + h.length + 2), .int 0]), zI 64, zI 64]) := ⟨ap_0, ap_cell 1, ap_cell 2, by omega⟩
  obtain ⟨h1, A1, A2, A3⟩ := t_restart (L := L) (xs := xs) (k := 0) U (p := fp 0)
  have hd : ∀ x, tA (8 + h.length) (8 + h.length + 1) (8 + h.length + 2) x → ¬ tA rt pa ma x := by
    intro x hx hy
    unfold tA at hx hy
    omega
  have T2 : tH rt pa ma c fp fm h1 := ⟨(A2.2.2 _ (fun z => hd _ z (Or.inl rfl))).trans T1.1, (A2.2.2 _ (fun z => hd _ z (Or.inr (Or.inl rfl)))).trans T1.2.1, (A2.2.2 _ (fun z => hd _ z (Or.inr (Or.inr rfl)))).trans T1.2.2.1, T.2.2.2⟩
  obtain ⟨h2, B1, B2, cc, gp', gm', B4⟩ := addFrom_loop (L := L) (xs := xs) hc hd c 0 _ _ h1 (by omega) T2 A3
  have KK := keep_trans A2 B2
  have hz3 : hz (h ++ [.inr (6, [.ref (8 + h.length + 1), .ref (8 + h.length + 2), .int 0]), zI 64, zI 64]) = hz h + 131 := by
    rw [show h ++ [.inr (6, [.ref (8 + h.length + 1), .ref (8 + h.length + 2), .int 0]), zI 64, zI 64] = ((h ++ [.inr (6, [.ref (8 + h.length + 1), .ref (8 + h.length + 2), .int 0])]) ++ [zI 64]) ++ [zI 64] by simp, hz_app, hz_app, hz_app]
    show hz h + 3 + 64 + 64 = hz h + 131
    omega
  have P0 : mW (mRo L xs) mTab 212 0 [some (.ref rt), some (.int 0)] [] (h ++ [.inr (6, [.ref (8 + h.length + 1), .ref (8 + h.length + 2), .int 0]), zI 64, zI 64]) 0 = some (.inl (some (.int (fp 0))), (h ++ [.inr (6, [.ref (8 + h.length + 1), .ref (8 + h.length + 2), .int 0]), zI 64, zI 64]), 0) := t_poseAt T1 (by omega) (Nat.zero_le _)
  refine ⟨h2, ?_, by rw [KK.1, List.length_append]; rfl, by rw [KK.2.1, hz3], ?_, _, B4.1⟩
  · rw [e202_0, e202_3r, e202_4 kR_new (by simp [Value.category]), c_Route]
    simp only [mAft, Option.toList_none, List.nil_append]
    rw [e202_7, e202_8, e202_9, e202_10, e202_11 (kR_eq T1.1) (by simp [Value.category]), P0]
    simp only [mAft, Option.toList_some, List.cons_append, List.nil_append]
    rw [e202_14 (kR_eq U.1) (by simp), A1]
    simp only [mAft, Option.toList_none, List.nil_append]
    rw [e202_17, e202_18, e202_19, e202_20 (kR_eq A3.1) (by simp), e200_0, e200_1 (kR_eq T2.1) (by simp), e203_0, e203_1, kF_eq T2.1 (v := .int (Int32.ofNat c)) rfl, e203_4]
    simp only [mAft, Option.toList_some, List.cons_append, List.nil_append]
    rw [e200_4, e200_5, e200_6]
    rw [show mW (mRo L xs) mTab 200 8 [some (.ref (8 + h.length)), some (.ref rt), some (.int 0), some (.int (Int32.ofNat c)), some (.int 0)] [] h1 0 = _ from B1]
    simp only [mAft, Option.toList_none, List.nil_append]
    rw [e202_23, e202_24]
  · intro a ha
    rw [KK.2.2 a (fun z => by unfold tA at z; omega), ap_old ha]
end
