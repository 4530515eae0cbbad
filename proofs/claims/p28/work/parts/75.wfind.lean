section
variable {L : Nat} {xs : Nat → Int32} {k : Nat}
theorem ring_eq2 {u v w z : Int32} : (u + v + w = z) ↔ z - u = v + w := by
  constructor
  · intro h; rw [← h, Int32.add_assoc, Int32.add_comm u, Int32.add_sub_cancel]
  · intro h; rw [Int32.add_assoc, ← h, Int32.add_comm, Int32.sub_add_cancel]
theorem arcs_loop {a ar ax ay w b p q : Nat} {fX fY : Nat → Int32} {x y : Int32} (hw : w < 6) (hw4 : ¬ w < 4) (hb : b < 8) (hq : q < 2048) (hp : p < 2048)
    (hx : x = Int32.ofNat (q % 16) - Int32.ofNat (p % 16) - vX (p / 256) (kN w 0) b) (hy : y = Int32.ofNat (q / 16 % 16) - Int32.ofNat (p / 16 % 16) - vY (p / 256) (kN w 0) b) (d : Nat) :
    ∀ (i : Nat) (s : wS) (h : List mCel) (l11 l12 : Option Value), i + d = 8 → aH ar ax ay fX fY h → mCell h a = some (wC ar s) → wGood s →
    ∃ h', mW (mRo L xs) mTab 35 77 [some (.ref a), some (.int (Int32.ofNat w)), some (.int (Int32.ofNat b)), some (.int (Int32.ofNat p)), some (.int (Int32.ofNat q)), some (.int (Int32.ofNat (p / 256))), some (.int (tnI (kN w 0))), some (.int (Int32.ofNat (p / 256) + tnI (kN w 0) * Int32.ofNat b)), some (.int x), some (.int y), some (.int (Int32.ofNat i)), l11, l12] [] h k = some (.inl none, h', k) ∧ mKeep (fun x => x = a) h h' ∧
      mCell h' a = some (wC ar (bF (q / 256) (Int32.ofNat (q % 16) - Int32.ofNat (p % 16)) (Int32.ofNat (q / 16 % 16) - Int32.ofNat (p / 16 % 16)) w b (0 + vX (p / 256) (kN w 0) b) (0 + vY (p / 256) (kN w 0) b) (hdN (p / 256) (kN w 0) b) (0 + vC (p / 256) (kN w 0) b) d i s)) := by
  have hg : p / 256 < 8 := by omega
  have hg2 : q / 256 < 8 := by omega
  obtain ⟨k0, k2⟩ := kN_02 w
  have hH := hdN_lt (k := kN w 0) hg b
  have kk1 : kN w 1 = 3 - kN w 0 := by
    obtain rfl | rfl : w = 4 ∨ w = 5 := by omega
    all_goals rfl
  have kk2 : kN w 2 = kN w 0 := by
    obtain rfl | rfl : w = 4 ∨ w = 5 := by omega
    all_goals rfl
  have k1 : kN w 1 = 1 ∨ kN w 1 = 2 := by omega
  obtain ⟨l1, _, _, _, _, _⟩ := al_eq hg k0 hb
  obtain ⟨q1, q2, q3⟩ := ph_eq hq
  have eb := (cB_eq (g2 := 0) hg (by decide) k0 hb).2
  have neg : -tnI (kN w 0) = tnI (kN w 1) := by
    obtain rfl | rfl : w = 4 ∨ w = 5 := by omega
    all_goals decide
  induction d with
  | zero =>
    intro i s h l11 l12 hi A H hs
    obtain rfl : i = 8 := by omega
    rw [e35_77, e35_79, e35_81, if_pos (by decide), e35_200]
    exact ⟨h, rfl, keep_refl, H⟩
  | succ d IH =>
    intro i s h l11 l12 hi A H hs
    have n7 : ¬ (7 < Int32.ofNat i) := by
      rw [show (7 : Int32) = Int32.ofNat 7 from rfl, oi_lt (by decide) (by omega)]; omega
    have hi8 : i < 8 := by omega
    have la := last_eq hg k0 hb hi8
    have lb := lb_eq hg k0 hb hi8 hg2
    have hH2 := hdN_lt (k := kN w 1) hH i
    have hc := cB_lt (hdN (hdN (p / 256) (kN w 0) b) (kN w 1) i) (q / 256) (kN w 2)
    rw [← kk1] at la lb
    rw [show cB (hdN (hdN (p / 256) (kN w 0) b) (kN w 1) i) (q / 256) (kN w 0) = cB (hdN (hdN (p / 256) (kN w 0) b) (kN w 1) i) (q / 256) (kN w 2) by rw [kk2]] at lb
    have ei := (cB_eq (g2 := 0) hH (by decide) k1 hi8).2
    have ax1 := c_arcX (L := L) (xs := xs) (k := k) A l1 hH k1 hi8
    have ay1 := c_arcY (L := L) (xs := xs) (k := k) A l1 hH k1 hi8
    have ax2 := c_arcX (L := L) (xs := xs) (k := k) A la hH2 k0 hc
    have ay2 := c_arcY (L := L) (xs := xs) (k := k) A la hH2 k0 hc
    rw [show bF (q / 256) (Int32.ofNat (q % 16) - Int32.ofNat (p % 16)) (Int32.ofNat (q / 16 % 16) - Int32.ofNat (p / 16 % 16)) w b (0 + vX (p / 256) (kN w 0) b) (0 + vY (p / 256) (kN w 0) b) (hdN (p / 256) (kN w 0) b) (0 + vC (p / 256) (kN w 0) b) (d + 1) i s =
      bF (q / 256) (Int32.ofNat (q % 16) - Int32.ofNat (p % 16)) (Int32.ofNat (q / 16 % 16) - Int32.ofNat (p / 16 % 16)) w b (0 + vX (p / 256) (kN w 0) b) (0 + vY (p / 256) (kN w 0) b) (hdN (p / 256) (kN w 0) b) (0 + vC (p / 256) (kN w 0) b) d (i + 1)
        (cF (q / 256) (Int32.ofNat (q % 16) - Int32.ofNat (p % 16)) (Int32.ofNat (q / 16 % 16) - Int32.ofNat (p / 16 % 16)) w b i (0 + vX (p / 256) (kN w 0) b + vX (hdN (p / 256) (kN w 0) b) (kN w 1) i) (0 + vY (p / 256) (kN w 0) b + vY (hdN (p / 256) (kN w 0) b) (kN w 1) i) (hdN (hdN (p / 256) (kN w 0) b) (kN w 1) i) (0 + vC (p / 256) (kN w 0) b + vC (hdN (p / 256) (kN w 0) b) (kN w 1) i) (kN w 2) 8 0 s) from rfl, cF_eq hH2 hg2 k2]
    rw [Int32.zero_add, Int32.zero_add]
    have c1 : (vX (p / 256) (kN w 0) b + vX (hdN (p / 256) (kN w 0) b) (kN w 1) i + vX (hdN (hdN (p / 256) (kN w 0) b) (kN w 1) i) (kN w 2) (cB (hdN (hdN (p / 256) (kN w 0) b) (kN w 1) i) (q / 256) (kN w 2)) = Int32.ofNat (q % 16) - Int32.ofNat (p % 16)) = (x = vX (hdN (p / 256) (kN w 0) b) (kN w 1) i + vX (hdN (hdN (p / 256) (kN w 0) b) (kN w 1) i) (kN w 0) (cB (hdN (hdN (p / 256) (kN w 0) b) (kN w 1) i) (q / 256) (kN w 2))) := by
      apply propext; rw [ring_eq2, ← hx, kk2]
    have c2 : (vY (p / 256) (kN w 0) b + vY (hdN (p / 256) (kN w 0) b) (kN w 1) i + vY (hdN (hdN (p / 256) (kN w 0) b) (kN w 1) i) (kN w 2) (cB (hdN (hdN (p / 256) (kN w 0) b) (kN w 1) i) (q / 256) (kN w 2)) = Int32.ofNat (q / 16 % 16) - Int32.ofNat (p / 16 % 16)) = (y = vY (hdN (p / 256) (kN w 0) b) (kN w 1) i + vY (hdN (hdN (p / 256) (kN w 0) b) (kN w 1) i) (kN w 0) (cB (hdN (hdN (p / 256) (kN w 0) b) (kN w 1) i) (q / 256) (kN w 2))) := by
      apply propext; rw [ring_eq2, ← hy, kk2]
    simp only [c1, c2]
    rw [e35_77, e35_79, e35_81, if_neg n7, e35_84, e35_86, e35_88, e35_90, e35_91, e35_92, e35_94, e35_96, e35_98 (by simp [Value.category]), c_headingOf, q1]
    simp only [mAft, Option.toList_some, List.cons_append, List.nil_append]
    rw [e35_101, e35_103 (by simp), c_arcsBetween, lb]
    simp only [mAft, Option.toList_some, List.cons_append, List.nil_append]
    rw [e35_106, e35_108, e35_110, e35_111, kF_eq H (v := .ref ar) rfl, e35_114, e35_116, e35_118, e35_119, neg, e35_121 (kR_eq A.1) (by simp [Value.category]), ax1]
    simp only [mAft, Option.toList_some, List.cons_append, List.nil_append]
    rw [e35_124, e35_125, kF_eq H (v := .ref ar) rfl, e35_128, e35_130, e35_132, e35_134 (kR_eq A.1) (by simp [Value.category]), ax2]
    simp only [mAft, Option.toList_some, List.cons_append, List.nil_append]
    rw [e35_137, e35_138]
    have next : ∀ (t : wS) (h1 : List mCel) (l12' : Option Value), wGood t → mKeep (fun x => x = a) h h1 → mCell h1 a = some (wC ar t) →
        ∃ h', mW (mRo L xs) mTab 35 194 [some (.ref a), some (.int (Int32.ofNat w)), some (.int (Int32.ofNat b)), some (.int (Int32.ofNat p)), some (.int (Int32.ofNat q)), some (.int (Int32.ofNat (p / 256))), some (.int (tnI (kN w 0))), some (.int (Int32.ofNat (p / 256) + tnI (kN w 0) * Int32.ofNat b)), some (.int x), some (.int y), some (.int (Int32.ofNat i)), some (.int (Int32.ofNat (p / 256) + tnI (kN w 0) * Int32.ofNat b - tnI (kN w 0) * Int32.ofNat i)), l12'] [] h1 k = some (.inl none, h', k) ∧ mKeep (fun x => x = a) h h' ∧
          mCell h' a = some (wC ar (bF (q / 256) (Int32.ofNat (q % 16) - Int32.ofNat (p % 16)) (Int32.ofNat (q / 16 % 16) - Int32.ofNat (p / 16 % 16)) w b (vX (p / 256) (kN w 0) b) (vY (p / 256) (kN w 0) b) (hdN (p / 256) (kN w 0) b) (0 + vC (p / 256) (kN w 0) b) d (i + 1) t)) := by
      intro t h1 l12' ht K1 H1
      have nar : ¬ ar = a := cell_ne A.1 H (fun z => by simp [wC] at z)
      have nax : ¬ ax = a := cell_ne A.2.1 H (fun z => by simp [wC] at z)
      have nay : ¬ ay = a := cell_ne A.2.2.1 H (fun z => by simp [wC] at z)
      obtain ⟨h2, R1, R2, R3⟩ := IH (i + 1) t h1 (some (.int (Int32.ofNat (p / 256) + tnI (kN w 0) * Int32.ofNat b - tnI (kN w 0) * Int32.ofNat i))) l12' (by omega) (a_keep A K1 nar nax nay) H1 ht
      rw [Int32.zero_add, Int32.zero_add] at R3
      exact ⟨h2, by rw [e35_194, oi_succ, e35_197]; exact R1, keep_trans K1 R2, R3⟩
    by_cases z1 : x = vX (hdN (p / 256) (kN w 0) b) (kN w 1) i + vX (hdN (hdN (p / 256) (kN w 0) b) (kN w 1) i) (kN w 0) (cB (hdN (hdN (p / 256) (kN w 0) b) (kN w 1) i) (q / 256) (kN w 2))
    · rw [if_neg (not_not_intro z1), e35_141, e35_143, e35_144, kF_eq H (v := .ref ar) rfl, e35_147, e35_149, e35_151, e35_152, neg, e35_154 (kR_eq A.1) (by simp [Value.category]), ay1]
      simp only [mAft, Option.toList_some, List.cons_append, List.nil_append]
      rw [e35_157, e35_158, kF_eq H (v := .ref ar) rfl, e35_161, e35_163, e35_165, e35_167 (kR_eq A.1) (by simp [Value.category]), ay2]
      simp only [mAft, Option.toList_some, List.cons_append, List.nil_append]
      rw [e35_170, e35_171]
      by_cases z2 : y = vY (hdN (p / 256) (kN w 0) b) (kN w 1) i + vY (hdN (hdN (p / 256) (kN w 0) b) (kN w 1) i) (kN w 0) (cB (hdN (hdN (p / 256) (kN w 0) b) (kN w 1) i) (q / 256) (kN w 2))
      · have hcost : (Int32.ofNat b + Int32.ofNat i + Int32.ofNat (cB (hdN (hdN (p / 256) (kN w 0) b) (kN w 1) i) (q / 256) (kN w 2))) * 24 = Int32.ofNat (0 + vC (p / 256) (kN w 0) b + vC (hdN (p / 256) (kN w 0) b) (kN w 1) i + 24 * cB (hdN (hdN (p / 256) (kN w 0) b) (kN w 1) i) (q / 256) (kN w 2)) := by
          rw [show (24 : Int32) = Int32.ofNat 24 from rfl, ← oi_add, ← oi_add, ← oi_mul, eb, ei]
          congr 1; omega
        obtain ⟨h1, O1, O2, O3⟩ := c_offer (L := L) (xs := xs) (k := k) (w := w) (x1 := b) (x2 := i) (x3 := cB (hdN (hdN (p / 256) (kN w 0) b) (kN w 1) i) (q / 256) (kN w 2)) (c := 0 + vC (p / 256) (kN w 0) b + vC (hdN (p / 256) (kN w 0) b) (kN w 1) i + 24 * cB (hdN (hdN (p / 256) (kN w 0) b) (kN w 1) i) (q / 256) (kN w 2)) H hs.2.1 (by omega)
        rw [if_neg (not_not_intro z2), if_pos ⟨z1, z2⟩, e35_174, e35_175, e35_176, e35_177, e35_179, e35_181, e35_182, e35_184, e35_185, e35_187, e35_188, e35_190, hcost, e35_191 (kR_eq H) (by simp), O1]
        simp only [mAft, Option.toList_none, List.nil_append]
        exact next _ h1 _ (good_off hs hw) O2 O3
      · rw [if_pos z2, if_neg (fun z => z2 z.2)]
        exact next s h _ hs keep_refl H
    · rw [if_pos z1, if_neg (fun z => z1 z.1)]
      exact next s h _ hs keep_refl H
theorem c_tryArcs {a ar ax ay w b p q : Nat} {fX fY : Nat → Int32} {s : wS} {h : List mCel} (A : aH ar ax ay fX fY h) (H : mCell h a = some (wC ar s)) (hs : wGood s) (hw : w < 6) (hw4 : ¬ w < 4) (hb : b < 8) (hp : p < 2048) (hq : q < 2048) :
    ∃ h', mW (mRo L xs) mTab 35 0 [some (.ref a), some (.int (Int32.ofNat w)), some (.int (Int32.ofNat b)), some (.int (Int32.ofNat p)), some (.int (Int32.ofNat q)), none, none, none, none, none, none, none, none] [] h k = some (.inl none, h', k) ∧ mKeep (fun x => x = a) h h' ∧
      mCell h' a = some (wC ar (bF (q / 256) (Int32.ofNat (q % 16) - Int32.ofNat (p % 16)) (Int32.ofNat (q / 16 % 16) - Int32.ofNat (p / 16 % 16)) w b (0 + vX (p / 256) (kN w 0) b) (0 + vY (p / 256) (kN w 0) b) (hdN (p / 256) (kN w 0) b) (0 + vC (p / 256) (kN w 0) b) 8 0 s)) := by
  obtain ⟨p1, p2, p3⟩ := ph_eq hp
  obtain ⟨q1, q2, q3⟩ := ph_eq hq
  have hg : p / 256 < 8 := by omega
  obtain ⟨k0, k2⟩ := kN_02 w
  have l0 : Int32.ofNat (p / 256) &&& 7 = Int32.ofNat (p / 256) := by
    have := (al_eq (a := 0) hg k0 (by decide)).1
    rw [show Int32.ofNat 0 = 0 from rfl, Int32.mul_zero, Int32.add_zero] at this
    exact this
  obtain ⟨h1, R1, R2, R3⟩ := arcs_loop (L := L) (xs := xs) (k := k) hw hw4 hb hq hp rfl rfl 8 0 s h none none rfl A H hs
  refine ⟨h1, ?_, R2, R3⟩
  rw [e35_0, e35_1 (by simp), c_headingOf, p1]
  simp only [mAft, Option.toList_some, List.cons_append, List.nil_append]
  rw [e35_4, e35_6, e35_7 (by simp), c_firstMove hw]
  simp only [mAft, Option.toList_some, List.cons_append, List.nil_append]
  rw [e35_10 (by simp), c_turnOf, turn_eq k0]
  simp only [mAft, Option.toList_some, List.cons_append, List.nil_append]
  rw [e35_13, e35_15, e35_17, e35_19, e35_20, e35_21, e35_22, e35_24, e35_26 (by simp), c_xOf, q2]
  simp only [mAft, Option.toList_some, List.cons_append, List.nil_append]
  rw [e35_29, e35_30 (by simp [Value.category]), c_xOf, p2]
  simp only [mAft, Option.toList_some, List.cons_append, List.nil_append]
  rw [e35_33, e35_34, e35_35, kF_eq H (v := .ref ar) rfl, e35_38, e35_40, e35_42, e35_43 (kR_eq A.1) (by simp [Value.category]), c_arcX A l0 hg k0 hb]
  simp only [mAft, Option.toList_some, List.cons_append, List.nil_append]
  rw [e35_46, e35_47, e35_49, e35_51 (by simp), c_yOf, q3]
  simp only [mAft, Option.toList_some, List.cons_append, List.nil_append]
  rw [e35_54, e35_55 (by simp [Value.category]), c_yOf, p3]
  simp only [mAft, Option.toList_some, List.cons_append, List.nil_append]
  rw [e35_58, e35_59, e35_60, kF_eq H (v := .ref ar) rfl, e35_63, e35_65, e35_67, e35_68 (kR_eq A.1) (by simp [Value.category]), c_arcY A l0 hg k0 hb]
  simp only [mAft, Option.toList_some, List.cons_append, List.nil_append]
  rw [e35_71, e35_72, e35_74, e35_75]
  exact R1
/-- the counts of first arcs of one word, as far as they can cost less -/
theorem count_loop {a ar ax ay w p q : Nat} {fX fY : Nat → Int32} (hw : w < 6) (hp : p < 2048) (hq : q < 2048) (d : Nat) :
    ∀ (i : Nat) (s : wS) (h : List mCel), i + d = 8 → aH ar ax ay fX fY h → mCell h a = some (wC ar s) → wGood s →
    ∃ h' l4, mW (mRo L xs) mTab 26 22 [some (.ref a), some (.int (Int32.ofNat p)), some (.int (Int32.ofNat q)), some (.int (Int32.ofNat w)), some (.int (Int32.ofNat i))] [] h k = mW (mRo L xs) mTab 26 73 [some (.ref a), some (.int (Int32.ofNat p)), some (.int (Int32.ofNat q)), some (.int (Int32.ofNat w)), l4] [] h' k ∧ mKeep (fun x => x = a) h h' ∧
      mCell h' a = some (wC ar (aF (q / 256) (Int32.ofNat (q % 16) - Int32.ofNat (p % 16)) (Int32.ofNat (q / 16 % 16) - Int32.ofNat (p / 16 % 16)) w (p / 256) d i s)) := by
  induction d with
  | zero =>
    intro i s h hi A H hs
    obtain rfl : i = 8 := by omega
    exact ⟨h, some (.int (Int32.ofNat 8)), by rw [e26_22, e26_24, e26_26, if_pos (by decide)], keep_refl, H⟩
  | succ d IH =>
    intro i s h hi A H hs
    have n7 : ¬ (7 < Int32.ofNat i) := by
      rw [show (7 : Int32) = Int32.ofNat 7 from rfl, oi_lt (by decide) (by omega)]; omega
    have h24 : Int32.ofNat i * 24 = Int32.ofNat (i * 24) := (oi_mul i 24).symm
    have hb := hs.2.1
    have hle : (Int32.ofNat s.1 ≤ Int32.ofNat (i * 24)) = (s.1 ≤ i * 24) := oi_le (by omega) (by omega)
    have H' := H
    unfold wC at H
    rw [e26_22, e26_24, e26_26, if_neg n7, e26_29, e26_31, e26_33, h24, e26_34, e26_35, kF_eq H (v := .int (Int32.ofNat s.1)) rfl, e26_38]
    simp only [hle]
    by_cases z : s.1 ≤ i * 24
    · rw [if_pos z, aF_skip (by omega) (d + 1) i s (by omega) (by omega)]
      exact ⟨h, _, rfl, keep_refl, H'⟩
    · rw [if_neg z, e26_41, e26_42, e26_43]
      have hw4 : (4 ≤ Int32.ofNat w) = (4 ≤ w) := oi_le (by decide) (by omega)
      simp only [hw4]
      have nar : ¬ ar = a := cell_ne A.1 H' (fun z => by simp [wC] at z)
      have nax : ¬ ax = a := cell_ne A.2.1 H' (fun z => by simp [wC] at z)
      have nay : ¬ ay = a := cell_ne A.2.2.1 H' (fun z => by simp [wC] at z)
      have fin : ∀ h1, mKeep (fun x => x = a) h h1 → mCell h1 a = some (wC ar (bF (q / 256) (Int32.ofNat (q % 16) - Int32.ofNat (p % 16)) (Int32.ofNat (q / 16 % 16) - Int32.ofNat (p / 16 % 16)) w i (0 + vX (p / 256) (kN w 0) i) (0 + vY (p / 256) (kN w 0) i) (hdN (p / 256) (kN w 0) i) (0 + vC (p / 256) (kN w 0) i) (if w < 4 then 16 else 8) 0 s)) →
          ∃ h' l4, mW (mRo L xs) mTab 26 67 [some (.ref a), some (.int (Int32.ofNat p)), some (.int (Int32.ofNat q)), some (.int (Int32.ofNat w)), some (.int (Int32.ofNat i))] [] h1 k = mW (mRo L xs) mTab 26 73 [some (.ref a), some (.int (Int32.ofNat p)), some (.int (Int32.ofNat q)), some (.int (Int32.ofNat w)), l4] [] h' k ∧ mKeep (fun x => x = a) h h' ∧
            mCell h' a = some (wC ar (aF (q / 256) (Int32.ofNat (q % 16) - Int32.ofNat (p % 16)) (Int32.ofNat (q / 16 % 16) - Int32.ofNat (p / 16 % 16)) w (p / 256) (d + 1) i s)) := by
        intro h1 K1 H1
        obtain ⟨h2, l4, R1, R2, R3⟩ := IH (i + 1) _ h1 (by omega) (a_keep A K1 nar nax nay) H1 (good_bF hw _ 0 s hs)
        exact ⟨h2, l4, by rw [e26_67, oi_succ, e26_70]; exact R1, keep_trans K1 R2, R3⟩
      by_cases y : w < 4
      · obtain ⟨h1, S1, S2, S3⟩ := c_straights (L := L) (xs := xs) (k := k) A H' hs y (show i < 8 by omega) hp hq
        rw [if_neg (by omega), e26_46, e26_47, e26_48, e26_50, e26_51, e26_52 (kR_eq H) (by simp), S1]
        simp only [mAft, Option.toList_none, List.nil_append]
        rw [e26_55]
        exact fin h1 S2 (by rw [if_pos y]; exact S3)
      · obtain ⟨h1, S1, S2, S3⟩ := c_tryArcs (L := L) (xs := xs) (k := k) A H' hs hw y (show i < 8 by omega) hp hq
        rw [if_pos (by omega), e26_58, e26_59, e26_60, e26_62, e26_63, e26_64 (kR_eq H) (by simp), S1]
        simp only [mAft, Option.toList_none, List.nil_append]
        exact fin h1 S2 (by rw [if_neg y]; exact S3)
theorem word_loop {a ar ax ay p q : Nat} {fX fY : Nat → Int32} (hp : p < 2048) (hq : q < 2048) (d : Nat) :
    ∀ (i : Nat) (s : wS) (h : List mCel) (l4 : Option Value), i + d = 6 → aH ar ax ay fX fY h → mCell h a = some (wC ar s) → wGood s →
    ∃ h', mW (mRo L xs) mTab 26 13 [some (.ref a), some (.int (Int32.ofNat p)), some (.int (Int32.ofNat q)), some (.int (Int32.ofNat i)), l4] [] h k = some (.inl none, h', k) ∧ mKeep (fun x => x = a) h h' ∧
      mCell h' a = some (wC ar (wF (q / 256) (Int32.ofNat (q % 16) - Int32.ofNat (p % 16)) (Int32.ofNat (q / 16 % 16) - Int32.ofNat (p / 16 % 16)) (p / 256) d i s)) := by
  induction d with
  | zero =>
    intro i s h l4 hi A H hs
    obtain rfl : i = 6 := by omega
    exact ⟨h, by rw [e26_13, e26_14, e26_16, if_pos (by decide), e26_79], keep_refl, H⟩
  | succ d IH =>
    intro i s h l4 hi A H hs
    have n6 : ¬ ((6 : Int32) ≤ Int32.ofNat i) := by
      rw [show (6 : Int32) = Int32.ofNat 6 from rfl, oi_le (by decide) (by omega)]; omega
    have nar : ¬ ar = a := cell_ne A.1 H (fun z => by simp [wC] at z)
    have nax : ¬ ax = a := cell_ne A.2.1 H (fun z => by simp [wC] at z)
    have nay : ¬ ay = a := cell_ne A.2.2.1 H (fun z => by simp [wC] at z)
    obtain ⟨h1, l4', C1, C2, C3⟩ := count_loop (L := L) (xs := xs) (k := k) (show i < 6 by omega) hp hq 8 0 s h rfl A H hs
    obtain ⟨h2, D1, D2, D3⟩ := IH (i + 1) _ h1 l4' (by omega) (a_keep A C2 nar nax nay) C3 (good_aF (by omega) 8 0 s hs)
    refine ⟨h2, ?_, keep_trans C2 D2, D3⟩
    rw [e26_13, e26_14, e26_16, if_neg n6, e26_19, e26_20, show (0 : Int32) = Int32.ofNat 0 from rfl, C1, e26_73, oi_succ, e26_76, D1]
theorem c_find {a ar ax ay p q : Nat} {fX fY : Nat → Int32} {s : wS} {h : List mCel} (hp : p < 2048) (hq : q < 2048) (A : aH ar ax ay fX fY h) (H : mCell h a = some (wC ar s)) :
    ∃ h', mW (mRo L xs) mTab 26 0 [some (.ref a), some (.int (Int32.ofNat p)), some (.int (Int32.ofNat q)), none, none] [] h k = some (.inl none, h', k) ∧ mKeep (fun x => x = a) h h' ∧
      mCell h' a = some (wC ar (wF (q / 256) (Int32.ofNat (q % 16) - Int32.ofNat (p % 16)) (Int32.ofNat (q / 16 % 16) - Int32.ofNat (p / 16 % 16)) (p / 256) 6 0 (536870912, 0, s.2.2))) := by
  have nar : ¬ ar = a := cell_ne A.1 H (fun z => by simp [wC] at z)
  have nax : ¬ ax = a := cell_ne A.2.1 H (fun z => by simp [wC] at z)
  have nay : ¬ ay = a := cell_ne A.2.2.1 H (fun z => by simp [wC] at z)
  have h0 : wGood (536870912, 0, s.2.2) := ⟨fun _ => rfl, Nat.le_refl _, Nat.zero_le _⟩
  have H' := H
  unfold wC at H
  have K : mKeep (fun x => x = a) h (h.set (a - 8) (wC ar (536870912, 0, s.2.2))) := keep_set H' (by simp [hz1, wC]) rfl
  obtain ⟨h1, D1, D2, D3⟩ := word_loop (L := L) (xs := xs) (k := k) hp hq 6 0 (536870912, 0, s.2.2) _ none rfl (a_keep A K nar nax nay) (cell_set H') h0
  refine ⟨h1, ?_, keep_trans K D2, D3⟩
  rw [e26_0, e26_1, e26_2, kP_eq H (by simp), e26_5, e26_6, e26_8, kP_eq (cell_set H) (by simp), List.set_set, e26_11, e26_12, ← enc_zero]
  exact D1
end
