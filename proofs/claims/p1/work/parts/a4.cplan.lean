section
variable {xs : Nat → Int32} {k : Nat} {h h1 h2 : List mCel} {fX fY fc fo fcl fcan : Nat → Int32}
theorem cx_13 {a1 a2 a3 a4 a5 a6 rv : Int32} (hc : pNum a1 a2 a3 = -1 ∨ pNum a4 a5 a6 = -1) : mW (mRo 8 xs) mTab 54 0 [some (.ref 8), some (.int a1), some (.int a2), some (.int a3), some (.int a4), some (.int a5), some (.int a6), some (.int rv), none, none] [] (hL fX fY fc fo fcl fcan) 0 = some (.inr 2, hL fX fY fc fo fcl fcan, 1) := by
  rw [e54_0, e54_1, e54_2, e54_3 (by simp), c_reqPose]
  by_cases a : pNum a1 a2 a3 = -1
  · rw [if_pos a]; rfl
  · rw [if_neg a]
    simp only [mAft, Option.toList_some, List.cons_append, List.nil_append]
    rw [e54_6, e54_8, e54_10, e54_12, e54_14 (by simp), c_reqPose, if_pos (hc.resolve_left a)]
    rfl
theorem c_room : mW (mRo 8 xs) mTab 62 0 [some (.ref 8)] [] (hL fX fY fc fo fcl fcan) k = some (.inl none, hL fX fY fc fo fcl fcan, k) := by
  rw [e62_0, e62_1, kF_eq x8 (v := .int 0) rfl, e62_4, e62_6, if_pos (by decide), e62_20]
theorem wt_10 (p m q : Nat) : 10 ≤ wtF p m q := by
  unfold wtF wtN
  repeat' split
  all_goals omega
theorem tA_n {a : Nat} (ha : a ≠ 24 ∧ a ≠ 25 ∧ a ≠ 26) : ¬ tA 24 25 26 a := fun z => by unfold tA at z; omega
/-- the class's plan on a fresh object, where there is a way -/
theorem cn_13 {a1 a2 a3 a4 a5 a6 : Int32} {p q rv m : Nat} {N : Nat → Nat → Nat} (hf : ∀ j, j < 2048 → fo j = p1Fo j) (h16 : all16 fc) (hrv : rv < 2) (hp : p < 2048) (hq : q < 2048) (e1 : pNum a1 a2 a3 = Int32.ofNat p) (n1 : ¬ pNum a1 a2 a3 = -1) (e2 : pNum a4 a5 a6 = Int32.ofNat q) (n2 : ¬ pNum a4 a5 a6 = -1)
    (E : mW (mRo 8 xs) mTab 225 0 [some (.ref 18), some (.int (Int32.ofNat q)), some (.int (Int32.ofNat p)), some (.int (Int32.ofNat rv)), some (.int (Int32.ofNat 1)), none, none, none, none] [] (hL fX fY fc fo fcl fcan) 0 = some (.inl (some (.int (qDec 1 (m + 1)))), h1, 0)) (hm : m ≤ 600)
    (K : mKeep (qAd qad) (hL fX fY fc fo fcl fcan) h1) (Q : qH qad N h1) (o : qOk N) (hs : ∃ s, goalS p s = true ∧ N 0 s = m) :
    ∃ h2, mW (mRo 8 xs) mTab 54 0 [some (.ref 8), some (.int a1), some (.int a2), some (.int a3), some (.int a4), some (.int a5), some (.int a6), some (.int (Int32.ofNat rv)), none, none] [] (hL fX fY fc fo fcl fcan) 0 = some (.inl (some (.int 0)), h2, 0) ∧ h2.length = (hL fX fY fc fo fcl fcan).length + 3 ∧ hz h2 = hz (hL fX fY fc fo fcl fcan) + 131 ∧ ∀ a, 42 ≤ a → a < 64 → mCell h2 a = mCell (hL fX fY fc fo fcl fcan) a := by
  have kq : ∀ {a c}, (a < 19 ∨ 24 ≤ a) → mCell (hL fX fY fc fo fcl fcan) a = some c → mCell h1 a = some c := fun ha hc => (K.2.2 _ (qad_n ha)).trans hc
  have W : wH qad 18 12 17 16 15 [.ref 12, .ref 17, .ref 19, .ref 24] [.ref 13, .int 0, .ref 14, .ref 15, .ref 16, .int 1, .int 1] (Int32.ofNat 20) 0 fo fc h1 := w_keep w_fresh K
  have T : tH 24 25 26 0 (fun _ => 0) (fun _ => 0) h1 := ⟨kq (by decide) x24, kq (by decide) x25, kq (by decide) x26, by decide⟩
  obtain ⟨g1, A1, A2, A3⟩ := t_restart (L := 8) (xs := xs) (k := 0) T (p := Int32.ofNat p)
  have hqt : ∀ r, r < 5 → ¬ tA 24 25 26 (qad r) := by
    intro r hr
    obtain rfl | rfl | rfl | rfl | rfl : r = 0 ∨ r = 1 ∨ r = 2 ∨ r = 3 ∨ r = 4 := by omega
    all_goals exact tA_n (by decide)
  have Q1 := q_keep Q A2 hqt
  have W1 : wH qad 18 12 17 16 15 [.ref 12, .ref 17, .ref 19, .ref 24] [.ref 13, .int 0, .ref 14, .ref 15, .ref 16, .int 1, .int 1] (Int32.ofNat 20) 0 fo fc g1 := by
    obtain ⟨⟨b1, b2⟩, ⟨b3, b4⟩, cP, cO, cC, nn⟩ := W
    exact ⟨⟨(A2.2.2 _ (tA_n (by decide))).trans b1, b2⟩, ⟨(A2.2.2 _ (tA_n (by decide))).trans b3, b4⟩, (A2.2.2 _ (tA_n (by decide))).trans cP, (A2.2.2 _ (tA_n (by decide))).trans cO, (A2.2.2 _ (tA_n (by decide))).trans cC, nn⟩
  -- what is left at the start
  have lft : ∃ left, left ≤ 600 ∧ (if Int32.ofNat (N 0 (p + 2048)) < Int32.ofNat (N 0 p) then Int32.ofNat (N 0 (p + 2048)) else Int32.ofNat (N 0 p)) = Int32.ofNat left := by
    obtain ⟨s, s1, s2⟩ := hs
    have gg := goal_iff.1 s1
    have o1 := (o p (by omega)).1
    have o2 := (o (p + 2048) (by omega)).1
    simp only [oi_lt o2 o1]
    by_cases y : N 0 (p + 2048) < N 0 p
    · refine ⟨N 0 (p + 2048), ?_, if_pos y⟩
      have : s = p ∨ s = p + 2048 := by omega
      rcases this with z | z <;> rw [z] at s2 <;> omega
    · refine ⟨N 0 p, ?_, if_neg y⟩
      have : s = p ∨ s = p + 2048 := by omega
      rcases this with z | z <;> rw [z] at s2 <;> omega
  obtain ⟨left, l1, l2⟩ := lft
  obtain ⟨g2, c', fp', fm', B1, B2, B3, B4⟩ := trace_loop (L := 8) (xs := xs) (k := 0) (wt := wtF) (p0 := p) (q := Int32.ofNat q) (geo_E hf) (geo_W h16) wt_10 (show 20 ≤ 100 by decide) hrv o (rt := 24) (pa := 25) (ma := 26) rfl hqt ⟨tA_n (by decide), tA_n (by decide), tA_n (by decide), tA_n (by decide), tA_n (by decide)⟩ left 0 p left _ _ g1 none none (Nat.le_refl _) (by omega) hp (by unfold upd; rw [if_pos rfl]) A3 Q1 W1
  obtain ⟨g3, D1, D2, D3, D4, fs6, D5⟩ := c_copied (L := 8) (xs := xs) B3 B4
  have KT := keep_trans A2 B2
  have len2 : g2.length = 56 := by rw [KT.1, K.1]; simp [hL]
  have c8 : mCell g2 8 = some (.inr (10, [.ref 12, .ref 17, .ref 18, .ref 27, .ref 28, .ref 33, .ref 35, .int 0, .ref 36, .int 0, .ref 39])) := (KT.2.2 _ (tA_n (by decide))).trans (kq (by decide) x8)
  have c35 : mCell g2 35 = some (.inl (6, mZero (mTy 6) 12)) := (KT.2.2 _ (tA_n (by decide))).trans (kq (by decide) x35)
  rw [len2] at D1 D4 D5
  have d8 := (D4 8 (by decide)).trans c8
  have d35 := (D4 35 (by decide)).trans c35
  have S : ∀ qq : Nat → Nat → (Nat → Option Nat) → Option mOut, kAS g3 35 (8 + 56) 0 qq = qq 6 12 (fun _ => none) := by
    intro qq; unfold kAS; rw [d35, D5]; exact if_pos ⟨Or.inr ⟨rfl, rfl⟩, by decide, by decide⟩
  have AL : ∀ qq : Int32 → Option mOut, kAL (mRo 8 xs) g2 35 qq = qq 12 := by
    intro qq; unfold kAL; rw [if_neg (by decide), c35]; rfl
  have f8 := (cell_setne (d := .inl (6, 12, .inr (.inr (.inr (.inr (va_up (fun _ => none) (Int32.toNatClampNeg 0) (some (8 + 56)))))))) (show 35 ≠ 8 by decide) (by decide)).trans d8
  have K1 : mKeep (fun x => x = 35 ∨ x = 8) g3 ((g3.set (35 - 8) (.inl (6, 12, .inr (.inr (.inr (.inr (va_up (fun _ => none) (Int32.toNatClampNeg 0) (some (8 + 56)))))))))) := keep_set d35 rfl (Or.inl rfl)
  have K2 : mKeep (fun x => x = 35 ∨ x = 8) _ _ := keep_set (d := .inr (10, [.ref 12, .ref 17, .ref 18, .ref 27, .ref 28, .ref 33, .ref 35, .int 1, .ref 36, .int 0, .ref 39])) f8 rfl (Or.inr rfl)
  have KK := keep_trans K1 K2
  refine ⟨_, ?_, by rw [KK.1, D2, KT.1, K.1], by rw [KK.2.1, D3, KT.2.1, K.2.1], ?_⟩
  · have TR : mW (mRo 8 xs) mTab 229 0 [some (.ref 18), some (.int (Int32.ofNat p)), some (.int (Int32.ofNat q)), some (.int (Int32.ofNat rv)), none, none, none, none] [] h1 0 = some (.inl (some (.ref 24)), g2, 0) := by
      have s0 : (if (0 : Int32) = 0 then Int32.ofNat p else Int32.ofNat p + 2048) = Int32.ofNat p := if_pos rfl
      have s1 : (if (1 : Int32) = 0 then Int32.ofNat p else Int32.ofNat p + 2048) = Int32.ofNat (p + 2048) := by rw [if_neg (by decide), oi_add]; rfl
      rw [e229_0, e229_1, kF_eq W.1.1 (v := .ref 24) rfl, e229_4, e229_5 (kR_eq T.1) (by simp), A1]
      simp only [mAft, Option.toList_none, List.nil_append]
      rw [e229_8, e229_9, kF_eq W1.1.1 (v := .ref 19) rfl, e229_12, e229_13, e229_14 (by simp [Value.category]), c_stateOf, s0]
      simp only [mAft, Option.toList_some, List.cons_append, List.nil_append]
      rw [e229_17 (show kR (mCell g1 19) 5 = true from q_R Q1) (by simp), show mW (mRo 8 xs) mTab 192 0 [some (.ref 19), some (.int (Int32.ofNat p))] [] g1 0 = _ from c_qCost Q1 (by omega)]
      simp only [mAft, Option.toList_some, List.cons_append, List.nil_append]
      rw [e229_20, e229_21, kF_eq W1.1.1 (v := .ref 19) rfl, e229_24, e229_25, e229_26 (by simp [Value.category]), c_stateOf, s1]
      simp only [mAft, Option.toList_some, List.cons_append, List.nil_append]
      rw [e229_29 (show kR (mCell g1 19) 5 = true from q_R Q1) (by simp [Value.category]), show mW (mRo 8 xs) mTab 192 0 [some (.ref 19), some (.int (Int32.ofNat (p + 2048)))] [] g1 0 = _ from c_qCost Q1 (by omega)]
      simp only [mAft, Option.toList_some, List.cons_append, List.nil_append]
      rw [e229_32 (by simp), l2, e229_35, e229_37, e229_38]
      exact B1
    have kx8 := kq (a := 8) (by decide) x8
    have kx18 := kq (a := 18) (by decide) x18
    have ne : ¬ (qDec 1 (m + 1) = -1) := by rw [enc_eq (by omega)]; omega
    rw [e54_0, e54_1, e54_2, e54_3 (by simp), c_reqPose, if_neg n1, e1]
    simp only [mAft, Option.toList_some, List.cons_append, List.nil_append]
    rw [e54_6, e54_8, e54_10, e54_12, e54_14 (by simp), c_reqPose, if_neg n2, e2]
    simp only [mAft, Option.toList_some, List.cons_append, List.nil_append]
    rw [e54_17, e54_19, e54_20 (kR_eq x8) (by simp), c_room]
    simp only [mAft, Option.toList_none, List.nil_append]
    rw [e54_23, e54_24, kF_eq x8 (v := .ref 18) rfl, e54_27, e54_29, e54_31, e54_33 (kR_eq x18) (by simp), c_fromEnd E]
    simp only [mAft, Option.toList_some, List.cons_append, List.nil_append]
    rw [e54_36, e54_37, if_pos ne, e54_50, e54_51, e54_52, kF_eq kx8 (v := .ref 18) rfl, e54_55, e54_57, e54_59, e54_61 (kR_eq kx18) (by simp [Value.category]), TR]
    simp only [mAft, Option.toList_some, List.cons_append, List.nil_append]
    rw [e54_64 (kR_eq c8) (by simp), e37_0, e37_1, kF_eq c8 (v := .int 0) rfl, e37_4, e37_5, e37_6, if_neg (by decide), e37_9, e37_10, e37_11, kF_eq c8 (v := .ref 35) rfl, e37_14, AL, e37_15, if_neg (by decide), e37_18, e37_19, kF_eq c8 (v := .ref 35) rfl, e37_22, e37_23, e37_24 (kR_eq B3.1) (by simp [Value.category]), D1]
    simp only [mAft, Option.toList_some, List.cons_append, List.nil_append]
    rw [e37_27, S, e37_28, e37_29r, e37_30, kF_eq f8 (v := .int 0) rfl, e37_33, e37_34, e37_35, kP_eq f8 (by decide), e37_38, e37_39]
    simp only [mAft, Option.toList_some, List.cons_append, List.nil_append]
    rw [e54_67]
    rfl
  · intro a h42 h64
    rw [KK.2.2 a (fun z => by omega), D4 a (by omega), KT.2.2 a (tA_n (by omega)), K.2.2 a (qad_n (by omega))]
end
