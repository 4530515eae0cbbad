theorem ck_pos : allP (fun p => allB 1 fun _ => decide (pH (Int32.ofNat p) = Int32.ofNat (p / 256) ∧ pX (Int32.ofNat p) = Int32.ofNat (p % 16) ∧ pY (Int32.ofNat p) = Int32.ofNat (p / 16 % 16))) = true := by decide +kernel
section
variable {L : Nat} {xs : Nat → Int32} {k : Nat}
theorem ph_eq {p : Nat} (hp : p < 2048) : pH (Int32.ofNat p) = Int32.ofNat (p / 256) ∧ pX (Int32.ofNat p) = Int32.ofNat (p % 16) ∧ pY (Int32.ofNat p) = Int32.ofNat (p / 16 % 16) := by
  have ck := of_decide_eq_true (allB_get (allP_get ck_pos hp) 0 (by decide))
  exact ck
theorem a_keep {ar ax ay : Nat} {fX fY : Nat → Int32} {h h' : List mCel} {P : Nat → Prop} (A : aH ar ax ay fX fY h) (K : mKeep P h h') (h1 : ¬ P ar) (h2 : ¬ P ax) (h3 : ¬ P ay) : aH ar ax ay fX fY h' :=
  ⟨(K.2.2 _ h1).trans A.1, (K.2.2 _ h2).trans A.2.1, (K.2.2 _ h3).trans A.2.2.1, A.2.2.2⟩
theorem c_straights {a ar ax ay w b p q : Nat} {fX fY : Nat → Int32} {s : wS} {h : List mCel} (A : aH ar ax ay fX fY h) (H : mCell h a = some (wC ar s)) (hs : wGood s) (hw : w < 4) (hb : b < 8) (hp : p < 2048) (hq : q < 2048) :
    ∃ h', mW (mRo L xs) mTab 36 0 [some (.ref a), some (.int (Int32.ofNat w)), some (.int (Int32.ofNat b)), some (.int (Int32.ofNat p)), some (.int (Int32.ofNat q)), none, none, none, none, none, none, none, none, none] [] h k = some (.inl none, h', k) ∧ mKeep (fun x => x = a) h h' ∧
      mCell h' a = some (wC ar (bF (q / 256) (Int32.ofNat (q % 16) - Int32.ofNat (p % 16)) (Int32.ofNat (q / 16 % 16) - Int32.ofNat (p / 16 % 16)) w b (0 + vX (p / 256) (kN w 0) b) (0 + vY (p / 256) (kN w 0) b) (hdN (p / 256) (kN w 0) b) (0 + vC (p / 256) (kN w 0) b) 16 0 s)) := by
  obtain ⟨p1, p2, p3⟩ := ph_eq hp
  obtain ⟨q1, q2, q3⟩ := ph_eq hq
  have hg : p / 256 < 8 := by omega
  have hg2 : q / 256 < 8 := by omega
  obtain ⟨k0, k2⟩ := kN_02 w
  obtain ⟨l1, l2, l3, l4, l5, l6⟩ := al_eq hg k0 hb
  have hH := hdN_lt (k := kN w 0) hg b
  have hc := cB_lt (hdN (p / 256) (kN w 0) b) (q / 256) (kN w 2)
  have hbh := bh_eq (k2 := kN w 2) hg k0 hb hg2 k2
  have l0 : Int32.ofNat (p / 256) &&& 7 = Int32.ofNat (p / 256) := by
    have := (al_eq (a := 0) hg k0 (by decide)).1
    rw [show Int32.ofNat 0 = 0 from rfl, Int32.mul_zero, Int32.add_zero] at this
    exact this
  have b2 := (al_eq hH k2 hc).2.2.2.2
  have sX : -15 ≤ (Int32.ofNat (q % 16) - Int32.ofNat (p % 16)).toInt ∧ (Int32.ofNat (q % 16) - Int32.ofNat (p % 16)).toInt ≤ 15 := by
    rw [Int32.toInt_sub, oi_int (by omega), oi_int (by omega), bmod_small (by omega) (by omega)]; omega
  have sY : -15 ≤ (Int32.ofNat (q / 16 % 16) - Int32.ofNat (p / 16 % 16)).toInt ∧ (Int32.ofNat (q / 16 % 16) - Int32.ofNat (p / 16 % 16)).toInt ≤ 15 := by
    rw [Int32.toInt_sub, oi_int (by omega), oi_int (by omega), bmod_small (by omega) (by omega)]; omega
  have X1 := sm_sub sX l5 (by decide)
  have X2 := sm_sub X1 b2.1 (by decide)
  have Y1 := sm_sub sY l6 (by decide)
  have Y2 := sm_sub Y1 b2.2 (by decide)
  rw [e36_0, e36_1 (by simp), c_headingOf, p1]
  simp only [mAft, Option.toList_some, List.cons_append, List.nil_append]
  rw [e36_4, e36_6, e36_7 (by simp), c_firstMove (by omega)]
  simp only [mAft, Option.toList_some, List.cons_append, List.nil_append]
  rw [e36_10 (by simp), c_turnOf, turn_eq k0]
  simp only [mAft, Option.toList_some, List.cons_append, List.nil_append]
  rw [e36_13, e36_15, e36_16 (by simp), c_thirdMove (by omega)]
  simp only [mAft, Option.toList_some, List.cons_append, List.nil_append]
  rw [e36_19 (by simp), c_turnOf, turn_eq k2]
  simp only [mAft, Option.toList_some, List.cons_append, List.nil_append]
  rw [e36_22, e36_24, e36_26, e36_28, e36_29, e36_30, e36_31, e36_33, e36_35, e36_37 (by simp [Value.category]), c_headingOf, q1]
  simp only [mAft, Option.toList_some, List.cons_append, List.nil_append]
  rw [e36_40, e36_42 (by simp), c_arcsBetween, hbh]
  simp only [mAft, Option.toList_some, List.cons_append, List.nil_append]
  rw [e36_45, e36_47, e36_49 (by simp), c_xOf, q2]
  simp only [mAft, Option.toList_some, List.cons_append, List.nil_append]
  rw [e36_52, e36_53 (by simp [Value.category]), c_xOf, p2]
  simp only [mAft, Option.toList_some, List.cons_append, List.nil_append]
  rw [e36_56, e36_57, e36_58, kF_eq H (v := .ref ar) rfl, e36_61, e36_63, e36_65, e36_66 (kR_eq A.1) (by simp [Value.category]), c_arcX A l0 hg k0 hb]
  simp only [mAft, Option.toList_some, List.cons_append, List.nil_append]
  rw [e36_69, e36_70, e36_71, kF_eq H (v := .ref ar) rfl, e36_74, e36_76, e36_78, e36_80 (kR_eq A.1) (by simp [Value.category]), c_arcX A l1 hH k2 hc]
  simp only [mAft, Option.toList_some, List.cons_append, List.nil_append]
  rw [e36_83, e36_84, e36_86, e36_88 (by simp), c_yOf, q3]
  simp only [mAft, Option.toList_some, List.cons_append, List.nil_append]
  rw [e36_91, e36_92 (by simp [Value.category]), c_yOf, p3]
  simp only [mAft, Option.toList_some, List.cons_append, List.nil_append]
  rw [e36_95, e36_96, e36_97, kF_eq H (v := .ref ar) rfl, e36_100, e36_102, e36_104, e36_105 (kR_eq A.1) (by simp [Value.category]), c_arcY A l0 hg k0 hb]
  simp only [mAft, Option.toList_some, List.cons_append, List.nil_append]
  rw [e36_108, e36_109, e36_110, kF_eq H (v := .ref ar) rfl, e36_113, e36_115, e36_117, e36_119 (kR_eq A.1) (by simp [Value.category]), c_arcY A l1 hH k2 hc]
  simp only [mAft, Option.toList_some, List.cons_append, List.nil_append]
  rw [e36_122, e36_123, e36_125, e36_127 (by simp), e36_130, e36_132 (by simp [Value.category]), e36_135 (by simp), e36_138, e36_140, e36_142, e36_144]
  have z0 : ∀ u : Int32, 0 + u = u := fun u => Int32.zero_add u
  have key := straight_eq (g2 := q / 256) (X := Int32.ofNat (q % 16) - Int32.ofNat (p % 16)) (Y := Int32.ofNat (q / 16 % 16) - Int32.ofNat (p / 16 % 16)) (xa := 0 + vX (p / 256) (kN w 0) b) (ya := 0 + vY (p / 256) (kN w 0) b) (w := w) (a := b) (Ca := 0 + vC (p / 256) (kN w 0) b) (s := s) hw hH hg2 rfl rfl
    (by rw [z0]; omega) (by rw [z0]; omega)
  rw [z0, z0] at key ⊢
  generalize hx : Int32.ofNat (q % 16) - Int32.ofNat (p % 16) - vX (p / 256) (kN w 0) b - vX (hdN (p / 256) (kN w 0) b) (kN w 2) (cB (hdN (p / 256) (kN w 0) b) (q / 256) (kN w 2)) = x at key ⊢
  generalize hy : Int32.ofNat (q / 16 % 16) - Int32.ofNat (p / 16 % 16) - vY (p / 256) (kN w 0) b - vY (hdN (p / 256) (kN w 0) b) (kN w 2) (cB (hdN (p / 256) (kN w 0) b) (q / 256) (kN w 2)) = y at key ⊢
  rw [show (if (if 0 ≤ x then x else 0 - x) < (if 0 ≤ y then y else 0 - y) then (if 0 ≤ y then y else 0 - y) else (if 0 ≤ x then x else 0 - x)) = pMax x y from rfl]
  rcases key with ⟨st, hst, e, c, r⟩ | ⟨c, r⟩
  · have eC := (cB_eq (g2 := 0) hg (by decide) k0 hb).2
    have hsc := sc1_le (hdN (p / 256) (kN w 0) b) 0
    have hm : st * sc1 (hdN (p / 256) (kN w 0) b) 0 ≤ 16 * 24 := Nat.mul_le_mul (by omega) hsc
    have hcost : (Int32.ofNat b + Int32.ofNat (cB (hdN (p / 256) (kN w 0) b) (q / 256) (kN w 2))) * 24 + Int32.ofNat st * Int32.ofNat (sc1 (hdN (p / 256) (kN w 0) b) 0) = Int32.ofNat (0 + vC (p / 256) (kN w 0) b + st * sc1 (hdN (p / 256) (kN w 0) b) 0 + 24 * cB (hdN (p / 256) (kN w 0) b) (q / 256) (kN w 2)) := by
      rw [show (24 : Int32) = Int32.ofNat 24 from rfl, ← oi_add, ← oi_mul, ← oi_mul, ← oi_add, eC]
      congr 1; rw [Nat.add_mul]; omega
    obtain ⟨h1, O1, O2, O3⟩ := c_offer (L := L) (xs := xs) (k := k) (w := w) (x1 := b) (x2 := st) (x3 := cB (hdN (p / 256) (kN w 0) b) (q / 256) (kN w 2)) (c := 0 + vC (p / 256) (kN w 0) b + st * sc1 (hdN (p / 256) (kN w 0) b) 0 + 24 * cB (hdN (p / 256) (kN w 0) b) (q / 256) (kN w 2)) H hs.2.1 (by omega)
    refine ⟨h1, ?_, O2, by rw [r]; exact O3⟩
    rw [if_neg c.1, e36_147, e36_149, e36_151, e36_153 (by simp [Value.category]), c_stepX, l2]
    simp only [mAft, Option.toList_some, List.cons_append, List.nil_append]
    rw [e36_156, e36_157, if_neg (not_not_intro c.2.1), e36_160, e36_162, e36_164, e36_166 (by simp [Value.category]), c_stepY, l3]
    simp only [mAft, Option.toList_some, List.cons_append, List.nil_append]
    rw [e36_169, e36_170, if_neg (not_not_intro c.2.2), e36_173, e36_175, e36_177, e36_178 (by simp [Value.category]), c_stepsCost, l4]
    simp only [mAft, Option.toList_some, List.cons_append, List.nil_append]
    rw [e, e36_181, e36_182, e36_184, e36_185, e36_186, e36_187, e36_189, e36_191, e36_192, e36_194, e36_195, e36_197, e36_198, e36_200, hcost, e36_201 (kR_eq H) (by simp), O1]
    simp only [mAft, Option.toList_none, List.nil_append]
    rw [e36_204]
  · rw [r]
    refine ⟨h, ?_, keep_refl, H⟩
    by_cases c1 : 15 < pMax x y
    · rw [if_pos c1, e36_204]
    · rw [if_neg c1, e36_147, e36_149, e36_151, e36_153 (by simp [Value.category]), c_stepX, l2]
      simp only [mAft, Option.toList_some, List.cons_append, List.nil_append]
      rw [e36_156, e36_157]
      by_cases c2 : x = pMax x y * pSx (Int32.ofNat (hdN (p / 256) (kN w 0) b))
      · rw [if_neg (not_not_intro c2), e36_160, e36_162, e36_164, e36_166 (by simp [Value.category]), c_stepY, l3]
        simp only [mAft, Option.toList_some, List.cons_append, List.nil_append]
        rw [e36_169, e36_170, if_pos (fun c3 => c ⟨c1, c2, c3⟩), e36_204]
      · rw [if_pos c2, e36_204]
end
