section
variable {L : Nat} {xs : Nat → Int32} {k : Nat} {ad : Nat → Nat} {w F P op cl cu rt pa ma : Nat} {fw fF : List Value} {mg : Int32} {fo fc : Nat → Int32}
/-- a move that can be driven leads where it ends -/
theorem ended_eq {p m : Int32} (h : ¬ pDr fo p m = -1) : pEnded p m = pDr fo p m := by
  unfold pDr at h ⊢
  unfold pEnded
  by_cases c : ¬ pOpen fo p ∨ ¬ pOpen fo (pStepped p (pWay m))
  · rw [if_pos c] at h; exact absurd rfl h
  · rw [if_neg c] at h ⊢
    have c2 : pOpen fo (pStepped p (pWay m)) := Classical.byContradiction fun z => c (Or.inr z)
    have ne : ¬ pStepped p (pWay m) = -1 := fun z => by rw [z] at c2; exact open_neg c2
    have ew : (if m < 3 then (1 : Int32) else -1) = pWay m := rfl
    rw [ew]
    by_cases s : m = 0 ∨ m = 3
    · rw [if_pos s, if_pos (Or.inr s)]
    · rw [if_neg s] at h ⊢
      rw [if_neg (fun z => z.elim ne s)]
      by_cases o : pOpen fo (pTurned (pStepped p (pWay m)) m) ∧ pOpen fo (pStepped (pTurned (pStepped p (pWay m)) m) (pWay m))
      · rw [if_pos o]
      · rw [if_neg o] at h; exact absurd rfl h
theorem low_loop {e : Nat → Nat → Nat} {wt : Nat → Nat → Nat → Nat} {N : Nat → Nat → Nat} {p left c : Nat} {fp fm : Nat → Int32} {h : List mCel} {l2 : Option Value} {mv : Nat} (HE : geoE fo e) (HW : geoW fc mg wt) (h10 : ∀ p m q, 10 ≤ wt p m q) (hcu : cu ≤ 100) (hp : p < 2048) (hl : left < 1000000) (hmv : mv ≤ 6) (Q : qH ad N h) (o : qOk N) (W : wH ad w F P op cl fw fF (Int32.ofNat cu) mg fo fc h) (hrt : fw[3]? = some (.ref rt)) (T : tH rt pa ma c fp fm h) (hc : c < 64) (d : Nat) :
    ∀ (i : Nat) (l6 l7 : Option Value), i + d = mv →
    ∃ v, v ≤ 6 ∧ mW (mRo L xs) mTab 224 23 [some (.ref w), some (.int (Int32.ofNat left)), l2, some (.int (Int32.ofNat p)), some (.int (Int32.ofNat mv)), some (.int (Int32.ofNat i)), l6, l7] [] h k = some (.inl (some (.int (qDec 1 v))), h, k) ∧ (v ≠ 0 → 0 < e p (v - 1) ∧ v - 1 < 6 ∧ N 0 (e p (v - 1) - 1 + 2048 * gear (v - 1)) + 10 ≤ left) := by
  obtain ⟨⟨a1, a2, a3, a4⟩, ⟨b1, b2, b3⟩, cP, cO, cC, nn⟩ := id W
  induction d with
  | zero =>
    intro i l6 l7 hi
    obtain rfl : i = mv := by omega
    refine ⟨0, by omega, ?_, fun z => absurd rfl z⟩
    rw [e224_23, e224_25, e224_27, if_pos (Int32.le_refl _), e224_112, e224_113, enc_zero]
  | succ d IH =>
    intro i l6 l7 hi
    have hlt : ¬ (Int32.ofNat mv ≤ Int32.ofNat i) := by rw [oi_le (by omega) (by omega)]; omega
    obtain ⟨E1, E2⟩ := HE p i hp (by omega)
    rw [e224_23, e224_25, e224_27, if_neg hlt, e224_30, e224_31, kF_eq a1 a2, e224_34, e224_35, e224_37 (kR_eq b1) (by simp [Value.category]), c_driven b1 b3 cO, E1]
    simp only [mAft, Option.toList_some, List.cons_append, List.nil_append]
    rw [e224_40, e224_42, e224_44, e224_45]
    simp only [enc_eq (show e p i ≤ 4096 by omega)]
    by_cases z : e p i = 0
    · rw [if_pos z, e224_106, e224_109, oi_succ]
      exact IH (i + 1) _ _ (by omega)
    · rw [if_neg z]
      obtain ⟨W1, W2⟩ := HW p i (e p i - 1) hp (by omega) (by omega)
      have C1 := c_ofMove (L := L) (xs := xs) (k := k) (p := Int32.ofNat p) (m := Int32.ofNat i) (q := Int32.ofNat (e p i - 1)) cP rfl rfl b1 b2 cC
      rw [W1] at C1
      obtain ⟨lm, LM⟩ := t_lastMove (L := L) (xs := xs) (k := k) T hc
      obtain ⟨tu, htu, TU⟩ := c_turnaround (L := L) (xs := xs) (k := k) (a := lm) (b := Int32.ofNat i) cP
      have hgb : (if Int32.ofNat i < 3 then (0 : Int32) else 1) = Int32.ofNat (gear i) := by
        simp only [oi_lt3 (show i < 2 ^ 31 by omega)]; unfold gear; split <;> rfl
      have hg := gear_lt i
      have s8 : e p i - 1 + 2048 * gear i < 4096 := by omega
      have o8 := (o _ s8).1
      have w10 := h10 p i (e p i - 1)
      rw [dec_put (by omega : 0 < e p i), e224_48, e224_49, kF_eq a1 a3, e224_52, e224_53, e224_55, e224_57 (kR_eq cP) (by simp [Value.category]), C1]
      simp only [mAft, Option.toList_some, List.cons_append, List.nil_append]
      rw [e224_60, e224_61, kF_eq a1 a3, e224_64, e224_65, kF_eq a1 hrt, e224_68 (kR_eq T.1) (by simp [Value.category]), LM]
      simp only [mAft, Option.toList_some, List.cons_append, List.nil_append]
      rw [e224_71, e224_73 (kR_eq cP) (by simp [Value.category]), TU]
      simp only [mAft, Option.toList_some, List.cons_append, List.nil_append]
      rw [e224_76, ← oi_add, e224_77, e224_79, e224_81, e224_82, kF_eq a1 a4, e224_85, e224_87, e224_89 (by simp [Value.category]), c_isBack, hgb]
      simp only [mAft, Option.toList_some, List.cons_append, List.nil_append]
      rw [e224_92 (by simp [Value.category]), c_stateOf, st_of hg]
      simp only [mAft, Option.toList_some, List.cons_append, List.nil_append]
      rw [e224_95 (q_R Q) (by simp [Value.category]), c_qCost Q s8]
      simp only [mAft, Option.toList_some, List.cons_append, List.nil_append]
      rw [e224_98, ← oi_add, e224_99, e224_100]
      by_cases y : Int32.ofNat (wt p i (e p i - 1) + tu + N 0 (e p i - 1 + 2048 * gear i)) = Int32.ofNat left
      · rw [if_neg (not_not_intro y), e224_103, e224_105]
        refine ⟨i + 1, by omega, by rw [enc_succ], fun _ => ?_⟩
        rw [Nat.add_sub_cancel]
        refine ⟨by omega, by omega, ?_⟩
        -- the sum may be past the numbers' end only where it can't be what is left
        have big : wt p i (e p i - 1) + tu + N 0 (e p i - 1 + 2048 * gear i) < 2 ^ 32 := by omega
        have e2 : (Int32.ofNat (wt p i (e p i - 1) + tu + N 0 (e p i - 1 + 2048 * gear i))).toBitVec.toNat = (Int32.ofNat left).toBitVec.toNat := by rw [y]
        have f1 : ∀ n, n < 2 ^ 32 → (Int32.ofNat n).toBitVec.toNat = n := fun n hn => by
          rw [show (Int32.ofNat n).toBitVec = BitVec.ofNat 32 n from rfl, BitVec.toNat_ofNat, Nat.mod_eq_of_lt hn]
        rw [f1 _ big, f1 _ (by omega)] at e2
        omega
      · rw [if_pos y, e224_106, e224_109, oi_succ]
        exact IH (i + 1) _ _ (by omega)
theorem c_lowest {e : Nat → Nat → Nat} {wt : Nat → Nat → Nat → Nat} {N : Nat → Nat → Nat} {p left c rv : Nat} {fp fm : Nat → Int32} {h : List mCel} (HE : geoE fo e) (HW : geoW fc mg wt) (h10 : ∀ p m q, 10 ≤ wt p m q) (hcu : cu ≤ 100) (hp : p < 2048) (hl : left < 1000000) (hrv : rv < 2) (Q : qH ad N h) (o : qOk N) (W : wH ad w F P op cl fw fF (Int32.ofNat cu) mg fo fc h) (hrt : fw[3]? = some (.ref rt)) (T : tH rt pa ma c fp fm h) (hc : c < 64) (hpc : fp c = Int32.ofNat p) :
    ∃ v, v ≤ 6 ∧ mW (mRo L xs) mTab 224 0 [some (.ref w), some (.int (Int32.ofNat left)), some (.int (Int32.ofNat rv)), none, none, none, none, none] [] h k = some (.inl (some (.int (qDec 1 v))), h, k) ∧ (v ≠ 0 → 0 < e p (v - 1) ∧ v - 1 < 6 ∧ N 0 (e p (v - 1) - 1 + 2048 * gear (v - 1)) + 10 ≤ left) := by
  obtain ⟨v, v1, v2, v3⟩ := low_loop (L := L) (xs := xs) (k := k) (l2 := some (.int (Int32.ofNat rv))) HE HW h10 hcu hp hl (show 3 + 3 * rv ≤ 6 by omega) Q o W hrt T hc (3 + 3 * rv) 0 none none (by omega)
  refine ⟨v, v1, ?_, v3⟩
  rw [e224_0, e224_1, kF_eq W.1.1 hrt, e224_4 (kR_eq T.1) (by simp), t_lastPose T hc, hpc]
  simp only [mAft, Option.toList_some, List.cons_append, List.nil_append]
  rw [e224_7, e224_8, e224_9]
  obtain rfl | rfl : rv = 0 ∨ rv = 1 := by omega
  · rw [if_pos (by decide), e224_17, e224_18, e224_20, e224_21]; exact v2
  · rw [if_neg (by decide), e224_12, e224_14, e224_18, e224_20, e224_21]; exact v2
theorem trace_loop {e : Nat → Nat → Nat} {wt : Nat → Nat → Nat → Nat} {N : Nat → Nat → Nat} {rv p0 : Nat} {q : Int32} (HE : geoE fo e) (HW : geoW fc mg wt) (h10 : ∀ p m q, 10 ≤ wt p m q) (hcu : cu ≤ 100) (hrv : rv < 2) (o : qOk N) (hrt : fw[3]? = some (.ref rt)) (ho : ∀ r, r < 5 → ¬ tA rt pa ma (ad r)) (hw : ¬ tA rt pa ma w ∧ ¬ tA rt pa ma F ∧ ¬ tA rt pa ma P ∧ ¬ tA rt pa ma op ∧ ¬ tA rt pa ma cl) (n : Nat) :
    ∀ (i p left : Nat) (fp fm : Nat → Int32) (h : List mCel) (l6 l7 : Option Value), left ≤ n → i * 10 + left ≤ 600 → p < 2048 → fp i = Int32.ofNat p → tH rt pa ma i fp fm h → qH ad N h → wH ad w F P op cl fw fF (Int32.ofNat cu) mg fo fc h →
    ∃ h' c' fp' fm', mW (mRo L xs) mTab 229 40 [some (.ref w), some (.int (Int32.ofNat p0)), some (.int q), some (.int (Int32.ofNat rv)), some (.int (Int32.ofNat left)), some (.int (Int32.ofNat i)), l6, l7] [] h k = some (.inl (some (.ref rt)), h', k) ∧ mKeep (tA rt pa ma) h h' ∧ tH rt pa ma c' fp' fm' h' ∧ c' ≤ 60 := by
  have base : ∀ (i p left : Nat) (fp fm : Nat → Int32) (h : List mCel) (l6 l7 : Option Value), i * 10 + left ≤ 600 → p < 2048 → fp i = Int32.ofNat p → tH rt pa ma i fp fm h → qH ad N h → wH ad w F P op cl fw fF (Int32.ofNat cu) mg fo fc h →
      (∃ h' c' fp' fm', mW (mRo L xs) mTab 229 40 [some (.ref w), some (.int (Int32.ofNat p0)), some (.int q), some (.int (Int32.ofNat rv)), some (.int (Int32.ofNat left)), some (.int (Int32.ofNat i)), l6, l7] [] h k = some (.inl (some (.ref rt)), h', k) ∧ mKeep (tA rt pa ma) h h' ∧ tH rt pa ma c' fp' fm' h' ∧ c' ≤ 60) ∨
      ∃ v, 0 < v ∧ 0 < e p (v - 1) ∧ v - 1 < 6 ∧ N 0 (e p (v - 1) - 1 + 2048 * gear (v - 1)) + 10 ≤ left ∧ mW (mRo L xs) mTab 229 40 [some (.ref w), some (.int (Int32.ofNat p0)), some (.int q), some (.int (Int32.ofNat rv)), some (.int (Int32.ofNat left)), some (.int (Int32.ofNat i)), l6, l7] [] h k = mW (mRo L xs) mTab 229 79 [some (.ref w), some (.int (Int32.ofNat p0)), some (.int q), some (.int (Int32.ofNat rv)), some (.int (Int32.ofNat left)), some (.int (Int32.ofNat i)), some (.int (qDec 1 v)), l7] [] h k := by
    intro i p left fp fm h l6 l7 hs hp hpi T Q W
    have hi : i < 64 := by omega
    have n1 : ¬ ((2048 : Int32) ≤ Int32.ofNat i) := by
      rw [show (2048 : Int32) = Int32.ofNat 2048 from rfl, oi_le (by decide) (by omega)]; omega
    obtain ⟨v, v1, v2, v3⟩ := c_lowest (L := L) (xs := xs) (k := k) HE HW h10 hcu hp (show left < 1000000 by omega) hrv Q o W hrt T hi hpi
    rw [e229_40, e229_42, e229_45, if_neg n1, e229_48, e229_49, kF_eq W.1.1 hrt, e229_52 (kR_eq T.1) (by simp), t_lastPose T hi]
    simp only [mAft, Option.toList_some, List.cons_append, List.nil_append]
    rw [e229_55, e229_56]
    by_cases y : fp i = q
    · left
      rw [if_pos y, e229_129, e229_130, kF_eq W.1.1 hrt, e229_133]
      exact ⟨h, i, fp, fm, rfl, keep_refl, T, by omega⟩
    · rw [if_neg y, e229_59, e229_60, e229_62, e229_63 (kR_eq W.1.1) (by simp), v2]
      simp only [mAft, Option.toList_some, List.cons_append, List.nil_append]
      rw [e229_66, e229_68, e229_70, e229_71]
      simp only [enc_eq (show v ≤ 4096 by omega)]
      by_cases z : v = 0
      · left
        rw [if_neg (not_not_intro z), e229_74, e229_75, kF_eq W.1.1 hrt, e229_78]
        exact ⟨h, i, fp, fm, rfl, keep_refl, T, by omega⟩
      · right
        obtain ⟨v4, v5, v6⟩ := v3 z
        exact ⟨v, by omega, v4, v5, v6, by rw [if_pos z]⟩
  induction n with
  | zero =>
    intro i p left fp fm h l6 l7 hn hs hp hpi T Q W
    rcases base i p left fp fm h l6 l7 hs hp hpi T Q W with b | ⟨v, v0, v1, v2, v3, _⟩
    · exact b
    · omega
  | succ n IH =>
    intro i p left fp fm h l6 l7 hn hs hp hpi T Q W
    rcases base i p left fp fm h l6 l7 hs hp hpi T Q W with b | ⟨v, v0, v1, v2, v3, B⟩
    · exact b
    · have hi : i < 64 := by omega
      obtain ⟨E1, E2⟩ := HE p (v - 1) hp v2
      have en : pEnded (Int32.ofNat p) (Int32.ofNat (v - 1)) = Int32.ofNat (e p (v - 1) - 1) := by
        rw [ended_eq (fo := fo) (by rw [E1, enc_eq (by omega)]; omega), E1, dec_put v1]
      obtain ⟨h1, A1, A2, A3⟩ := t_add (L := L) (xs := xs) (k := k) T (by omega) (m := Int32.ofNat (v - 1)) (e := Int32.ofNat (e p (v - 1) - 1))
      have Q1 := q_keep Q A2 ho
      have W1 : wH ad w F P op cl fw fF (Int32.ofNat cu) mg fo fc h1 := by
        obtain ⟨⟨a1, a2⟩, ⟨b1, b2⟩, cP, cO, cC, nn⟩ := W
        exact ⟨⟨(A2.2.2 _ hw.1).trans a1, a2⟩, ⟨(A2.2.2 _ hw.2.1).trans b1, b2⟩, (A2.2.2 _ hw.2.2.1).trans cP, (A2.2.2 _ hw.2.2.2.1).trans cO, (A2.2.2 _ hw.2.2.2.2).trans cC, nn⟩
      have hgb : (if Int32.ofNat (v - 1) < 3 then (0 : Int32) else 1) = Int32.ofNat (gear (v - 1)) := by
        simp only [oi_lt3 (show v - 1 < 2 ^ 31 by omega)]; unfold gear; split <;> rfl
      have hg := gear_lt (v - 1)
      have s8 : e p (v - 1) - 1 + 2048 * gear (v - 1) < 4096 := by omega
      obtain ⟨h2, c', fp', fm', I1, I2, I3, I4⟩ := IH (i + 1) (e p (v - 1) - 1) (N 0 (e p (v - 1) - 1 + 2048 * gear (v - 1))) _ _ h1 (some (.int (Int32.ofNat (v - 1)))) (some (.int (Int32.ofNat (e p (v - 1) - 1)))) (by omega) (by omega) (by omega) (by unfold upd; rw [if_pos rfl]) A3 Q1 W1
      refine ⟨h2, c', fp', fm', ?_, keep_trans A2 I2, I3, I4⟩
      rw [B, dec_put v0, e229_79, e229_80, kF_eq W.1.1 hrt, e229_83 (kR_eq T.1) (by simp), t_lastPose T hi, hpi]
      simp only [mAft, Option.toList_some, List.cons_append, List.nil_append]
      rw [e229_86, e229_88 (by simp), c_ended, en]
      simp only [mAft, Option.toList_some, List.cons_append, List.nil_append]
      rw [e229_91, e229_93, e229_94, kF_eq W.1.1 hrt, e229_97, e229_99, e229_101 (kR_eq T.1) (by simp), A1]
      simp only [mAft, Option.toList_none, List.nil_append]
      rw [e229_104, e229_105, kF_eq W1.1.1 W1.1.2.2.2, e229_108, e229_110, e229_112 (by simp [Value.category]), c_isBack, hgb]
      simp only [mAft, Option.toList_some, List.cons_append, List.nil_append]
      rw [e229_115 (by simp [Value.category]), c_stateOf, st_of hg]
      simp only [mAft, Option.toList_some, List.cons_append, List.nil_append]
      rw [e229_118 (q_R Q1) (by simp), c_qCost Q1 s8]
      simp only [mAft, Option.toList_some, List.cons_append, List.nil_append]
      rw [e229_121, e229_123, oi_succ, e229_126]
      exact I1
end
