section
variable {L : Nat} {xs : Nat → Int32} {k : Nat} {ad : Nat → Nat} {w F P op cl cu rt pa ma e0 p0 : Nat} {fw fF : List Value} {mg : Int32} {fo fc : Nat → Int32} {E : List (Nat × Nat)}
theorem rt_lastMove {h : List mCel} (R : RT rt pa ma e0 p0 E h) : mW (mRo L xs) mTab 134 0 [some (.ref rt)] [] h k = some (.inl (some (.int (oI (Sho.lst none E)))), h, k) := by
  have t := R.2.choose_spec.choose_spec.1
  rw [e134_0, e134_1, e134_2, kF_eq t.1 (v := .int (Int32.ofNat E.length)) rfl, e134_5, e134_6, e134_7 (kR_eq t.1) (by simp [Value.category]), rt_prev R (E := E) (B := []) (by simp)]
  simp only [mAft, Option.toList_some, List.cons_append, List.nil_append]
  rw [e134_10]
/-- a move that goes on with what is left -/
def fitM (e : Nat → Nat → Nat) (wt : Nat → Nat → Nat → Nat) (cu : Nat) (N : Nat → Nat → Nat) (l : Option Nat) (p left j : Nat) : Prop := 0 < e p j ∧ wt p j (e p j - 1) + tcN cu l (some j) + N 0 (e p j - 1 + 2048 * gear j) = left
theorem lowest_loop {e : Nat → Nat → Nat} {wt : Nat → Nat → Nat → Nat} {N : Nat → Nat → Nat} {p left : Nat} {h : List mCel} {l2 : Option Value} {mv : Nat} (HE : geoE fo e) (HW : geoW fc mg wt) (hcu : cu ≤ 100) (hp : p < 2048) (hl : left < 1000000) (hmv : mv ≤ 6) (Q : qH ad N h) (o : qOk N)
    (W : wH ad w F P op cl fw fF (Int32.ofNat cu) mg fo fc h) (hrt : fw[3]? = some (.ref rt)) (R : RT rt pa ma e0 p0 E h) (hE : ∀ x ∈ E, x.1 < 6 ∧ x.2 < 2048) (d : Nat) :
    ∀ (i : Nat) (l6 l7 : Option Value), i + d = mv →
    ∃ v, v ≤ 6 ∧ mW (mRo L xs) mTab 149 23 [some (.ref w), some (.int (Int32.ofNat left)), l2, some (.int (Int32.ofNat p)), some (.int (Int32.ofNat mv)), some (.int (Int32.ofNat i)), l6, l7] [] h k = some (.inl (some (.int (qDec 1 v))), h, k) ∧
      (v = 0 → ∀ j, i ≤ j → j < mv → ¬ fitM e wt cu N (Sho.lst none E) p left j) ∧ (v ≠ 0 → v - 1 < mv ∧ fitM e wt cu N (Sho.lst none E) p left (v - 1)) := by
  obtain ⟨⟨a1, a2, a3, a4⟩, ⟨b1, b2, b3⟩, cP, cO, cC, nn⟩ := id W
  have PH : pcH P F cl cu mg fF fc h := ⟨cP, b1, b2, cC⟩
  have rk := kR_eq R.2.choose_spec.choose_spec.1.1
  induction d with
  | zero =>
    intro i l6 l7 hi
    obtain rfl : i = mv := by omega
    refine ⟨0, by omega, ?_, fun _ j h1 h2 => by omega, fun z => absurd rfl z⟩
    rw [e149_23, e149_25, e149_27, if_pos (Int32.le_refl _), e149_112, e149_113, enc_zero]
  | succ d IH =>
    intro i l6 l7 hi
    have hlt : ¬ (Int32.ofNat mv ≤ Int32.ofNat i) := by rw [oi_le (by omega) (by omega)]; omega
    obtain ⟨E1, E2⟩ := HE p i hp (by omega)
    have more : ∀ (l6 l7 : Option Value), ¬ fitM e wt cu N (Sho.lst none E) p left i → ∃ v, v ≤ 6 ∧ mW (mRo L xs) mTab 149 23 [some (.ref w), some (.int (Int32.ofNat left)), l2, some (.int (Int32.ofNat p)), some (.int (Int32.ofNat mv)), some (.int (Int32.ofNat (i + 1))), l6, l7] [] h k = some (.inl (some (.int (qDec 1 v))), h, k) ∧
        (v = 0 → ∀ j, i ≤ j → j < mv → ¬ fitM e wt cu N (Sho.lst none E) p left j) ∧ (v ≠ 0 → v - 1 < mv ∧ fitM e wt cu N (Sho.lst none E) p left (v - 1)) := by
      intro l6 l7 hn
      obtain ⟨v, v1, v2, v3, v4⟩ := IH (i + 1) l6 l7 (by omega)
      refine ⟨v, v1, v2, fun z j h1 h2 => ?_, v4⟩
      by_cases y : j = i
      · rw [y]; exact hn
      · exact v3 z j (by omega) h2
    rw [e149_23, e149_25, e149_27, if_neg hlt, e149_30, e149_31, kF_eq a1 a2, e149_34, e149_35, e149_37 (kR_eq b1) (by simp [Value.category]), c_driven b1 b3 cO, E1]
    simp only [mAft, Option.toList_some, List.cons_append, List.nil_append]
    rw [e149_40, e149_42, e149_44, e149_45]
    simp only [enc_eq (show e p i ≤ 4096 by omega)]
    by_cases z : e p i = 0
    · rw [if_pos z, e149_106, e149_109, oi_succ]
      exact more _ _ (fun y => by have := y.1; omega)
    · rw [if_neg z]
      obtain ⟨W1, W2⟩ := HW p i (e p i - 1) hp (by omega) (by omega)
      have C1 := c_ofMove (L := L) (xs := xs) (k := k) (p := Int32.ofNat p) (m := Int32.ofNat i) (q := Int32.ofNat (e p i - 1)) cP rfl rfl b1 b2 cC
      rw [W1] at C1
      have LM := rt_lastMove (L := L) (xs := xs) (k := k) R
      have TU := c_tcN (L := L) (xs := xs) (k := k) (a := Sho.lst none E) (b := some i) (lst_lt hE) (fun m hm => by cases hm; omega) PH
      have htu := tcN_le (cu := cu) (a := Sho.lst none E) (b := some i)
      have hgb : (if Int32.ofNat i < 3 then (0 : Int32) else 1) = Int32.ofNat (gear i) := by
        simp only [oi_lt3 (show i < 2 ^ 31 by omega)]; unfold gear; split <;> rfl
      have hg := gear_lt i
      have s8 : e p i - 1 + 2048 * gear i < 4096 := by omega
      have o8 := (o _ s8).1
      rw [dec_put (by omega : 0 < e p i), e149_48, e149_49, kF_eq a1 a3, e149_52, e149_53, e149_55, e149_57 (kR_eq cP) (by simp [Value.category]), C1]
      simp only [mAft, Option.toList_some, List.cons_append, List.nil_append]
      rw [e149_60, e149_61, kF_eq a1 a3, e149_64, e149_65, kF_eq a1 hrt, e149_68 rk (by simp [Value.category]), LM]
      simp only [mAft, Option.toList_some, List.cons_append, List.nil_append]
      rw [e149_71, e149_73 (kR_eq cP) (by simp [Value.category]), show Int32.ofNat i = oI (some i) from rfl, TU]
      simp only [mAft, Option.toList_some, List.cons_append, List.nil_append]
      rw [show oI (some i) = Int32.ofNat i from rfl, e149_76, ← oi_add, e149_77, e149_79, e149_81, e149_82, kF_eq a1 a4, e149_85, e149_87, e149_89 (by simp [Value.category]), c_isBack, hgb]
      simp only [mAft, Option.toList_some, List.cons_append, List.nil_append]
      rw [e149_92 (by simp [Value.category]), c_stateOf, st_of hg]
      simp only [mAft, Option.toList_some, List.cons_append, List.nil_append]
      rw [e149_95 (q_R Q) (by simp [Value.category]), c_qCost Q s8]
      simp only [mAft, Option.toList_some, List.cons_append, List.nil_append]
      rw [e149_98, ← oi_add, e149_99, e149_100]
      have big : wt p i (e p i - 1) + tcN cu (Sho.lst none E) (some i) + N 0 (e p i - 1 + 2048 * gear i) < 2 ^ 32 := by omega
      by_cases y : Int32.ofNat (wt p i (e p i - 1) + tcN cu (Sho.lst none E) (some i) + N 0 (e p i - 1 + 2048 * gear i)) = Int32.ofNat left
      · rw [if_neg (not_not_intro y), e149_103, e149_105]
        refine ⟨i + 1, by omega, by rw [enc_succ], fun z => by omega, fun _ => ?_⟩
        rw [Nat.add_sub_cancel]
        refine ⟨by omega, by omega, ?_⟩
        -- the sum may be past the numbers' end only where it can't be what is left
        have e2 : (Int32.ofNat (wt p i (e p i - 1) + tcN cu (Sho.lst none E) (some i) + N 0 (e p i - 1 + 2048 * gear i))).toBitVec.toNat = (Int32.ofNat left).toBitVec.toNat := by rw [y]
        have f1 : ∀ n, n < 2 ^ 32 → (Int32.ofNat n).toBitVec.toNat = n := fun n hn => by
          rw [show (Int32.ofNat n).toBitVec = BitVec.ofNat 32 n from rfl, BitVec.toNat_ofNat, Nat.mod_eq_of_lt hn]
        rw [f1 _ big, f1 _ (by omega)] at e2
        exact e2
      · rw [if_pos y, e149_106, e149_109, oi_succ]
        exact more _ _ (fun f => y (by rw [f.2]))
theorem c_lowestM {e : Nat → Nat → Nat} {wt : Nat → Nat → Nat → Nat} {N : Nat → Nat → Nat} {p left rv : Nat} {h : List mCel} (HE : geoE fo e) (HW : geoW fc mg wt) (hcu : cu ≤ 100) (hp : p < 2048) (hl : left < 1000000) (hrv : rv < 2) (Q : qH ad N h) (o : qOk N) (W : wH ad w F P op cl fw fF (Int32.ofNat cu) mg fo fc h) (hrt : fw[3]? = some (.ref rt))
    (R : RT rt pa ma e0 p0 E h) (hE : ∀ x ∈ E, x.1 < 6 ∧ x.2 < 2048) (hpc : Sho.fin p0 E = p) :
    ∃ v, v ≤ 6 ∧ mW (mRo L xs) mTab 149 0 [some (.ref w), some (.int (Int32.ofNat left)), some (.int (Int32.ofNat rv)), none, none, none, none, none] [] h k = some (.inl (some (.int (qDec 1 v))), h, k) ∧
      (v = 0 → ∀ j, j < 3 + 3 * rv → ¬ fitM e wt cu N (Sho.lst none E) p left j) ∧ (v ≠ 0 → v - 1 < 3 + 3 * rv ∧ fitM e wt cu N (Sho.lst none E) p left (v - 1)) := by
  obtain ⟨v, v1, v2, v3, v4⟩ := lowest_loop (L := L) (xs := xs) (k := k) (l2 := some (.int (Int32.ofNat rv))) HE HW hcu hp hl (show 3 + 3 * rv ≤ 6 by omega) Q o W hrt R hE (3 + 3 * rv) 0 none none (by omega)
  refine ⟨v, v1, ?_, fun z j hj => v3 z j (Nat.zero_le _) hj, v4⟩
  rw [e149_0, e149_1, kF_eq W.1.1 hrt, e149_4 (kR_eq R.2.choose_spec.choose_spec.1.1) (by simp), rt_lastPose R, hpc]
  simp only [mAft, Option.toList_some, List.cons_append, List.nil_append]
  rw [e149_7, e149_8, e149_9]
  obtain rfl | rfl : rv = 0 ∨ rv = 1 := by omega
  · rw [if_pos (by decide), e149_17, e149_18, e149_20, e149_21]; exact v2
  · rw [if_neg (by decide), e149_12, e149_14, e149_18, e149_20, e149_21]; exact v2
end
