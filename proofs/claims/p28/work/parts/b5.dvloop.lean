section
variable {L : Nat} {xs : Nat → Int32} {k : Nat} {h : List mCel}
theorem two_add {n : Nat} : (2 : Int32) + Int32.ofNat n = Int32.ofNat (2 + n) := (oi_add 2 n).symm

variable {oc np fr be cu mg st ar fa sl isr rq : Nat} {rT : List (Nat × Nat)} {gone : Nat → Bool} {pl : List (Nat × List (Nat × Nat))} {s : wS} {cov fcl fop fg fz fe : Nat → Int32}

theorem dv_head {x y : Int32} : ∃ p, p < 2048 ∧ mW (mRo L xs) mTab 165 0 [some (.ref 8), some (.ref 42), some (.ref 44), some (.int x), some (.int y), none, none, none, none, none, none, none, none, none] [] h k = mW (mRo L xs) mTab 165 33 [some (.ref 8), some (.ref 42), some (.ref 44), some (.int x), some (.int y), some (.int (Int32.ofNat (p % 16))), some (.int (Int32.ofNat (p / 16 % 16))), some (.int (Int32.ofNat (p / 256))), none, none, none, none, none, none] [] h k := by
  have a1 : lw x 12 < 12 := lw_lt (by decide)
  have a2 : lw (x >>> (4 &&& 31)) 12 < 12 := lw_lt (by decide)
  have a3 : lw (x >>> (8 &&& 31)) 8 < 8 := lw_lt (by decide)
  have head : mW (mRo L xs) mTab 165 0 [some (.ref 8), some (.ref 42), some (.ref 44), some (.int x), some (.int y), none, none, none, none, none, none, none, none, none] [] h k = mW (mRo L xs) mTab 165 33 [some (.ref 8), some (.ref 42), some (.ref 44), some (.int x), some (.int y), some (.int (Int32.ofNat (2 + lw x 12))), some (.int (Int32.ofNat (2 + lw (x >>> (4 &&& 31)) 12))), some (.int (Int32.ofNat (lw (x >>> (8 &&& 31)) 8))), none, none, none, none, none, none] [] h k := by
    rw [e165_0, e165_1, e165_2, show (.int 12 : Value) = .int (Int32.ofNat 12) from rfl, e165_4 (by simp [Value.category]), (c_low (n := 12) (by decide) (by decide))]
    simp only [mAft, Option.toList_some, List.cons_append, List.nil_append]
    rw [e165_7, two_add, e165_8, e165_10, e165_11, e165_12, e165_13, e165_14, show (.int 12 : Value) = .int (Int32.ofNat 12) from rfl, e165_16 (by simp [Value.category]), (c_low (n := 12) (by decide) (by decide))]
    simp only [mAft, Option.toList_some, List.cons_append, List.nil_append]
    rw [e165_19, two_add, e165_20, e165_22, e165_23, e165_25, e165_26, show (.int 8 : Value) = .int (Int32.ofNat 8) from rfl, e165_28 (by simp [Value.category]), (c_low (n := 8) (by decide) (by decide))]
    simp only [mAft, Option.toList_some, List.cons_append, List.nil_append]
    rw [e165_31]
  generalize lw x 12 = ax at *
  generalize lw (x >>> (4 &&& 31)) 12 = ay at *
  generalize lw (x >>> (8 &&& 31)) 8 = ah at *
  refine ⟨256 * ah + 16 * (2 + ay) + (2 + ax), by omega, ?_⟩
  rw [head, show (256 * ah + 16 * (2 + ay) + (2 + ax)) % 16 = 2 + ax by omega, show (256 * ah + 16 * (2 + ay) + (2 + ax)) / 16 % 16 = 2 + ay by omega, show (256 * ah + 16 * (2 + ay) + (2 + ax)) / 256 = ah by omega]

theorem nbig {n : Nat} (hn : n < 1000000) : ¬ Int32.ofNat n = -1000003 := fun z => by
  have := congrArg Int32.toInt z
  rw [oi_int (by omega)] at this
  have h2 : (-1000003 : Int32).toInt = -1000003 := rfl
  omega
theorem dv_loop {x y : Int32} {p : Nat} : ∀ (d j k : Nat) (rT : List (Nat × Nat)) (h : List mCel) (l12 l13 : Option Value), j + d = 10 → rT.length ≤ j → Sho.Val (drE (eG (oF fop))) p rT → SH oc np fr be cu mg st ar fa sl 1 p rT gone pl s cov fcl fop fg fz fe h →
    ∃ h' rT' k' l11 l12' l13', mW (mRo L xs) mTab 165 89 [some (.ref 8), some (.ref 42), some (.ref 44), some (.int x), some (.int y), some (.int (Int32.ofNat (p % 16))), some (.int (Int32.ofNat (p / 16 % 16))), some (.int (Int32.ofNat (p / 256))), some (.int 1), some (.int (Int32.ofNat rT.length)), some (.int 1), some (.int (Int32.ofNat j)), l12, l13] [] h k = mW (mRo L xs) mTab 165 193 [some (.ref 8), some (.ref 42), some (.ref 44), some (.int x), some (.int y), some (.int (Int32.ofNat (p % 16))), some (.int (Int32.ofNat (p / 16 % 16))), some (.int (Int32.ofNat (p / 256))), some (.int 1), some (.int (Int32.ofNat rT'.length)), some (.int 1), l11, l12', l13'] [] h' k' ∧ k' ≤ k + d ∧ SH oc np fr be cu mg st ar fa sl 1 p rT' gone pl s cov fcl fop fg fz fe h' ∧ rT'.length ≤ 10 ∧ Sho.Val (drE (eG (oF fop))) p rT' := by
  intro d
  induction d with
  | zero =>
    intro j k rT h l12 l13 hj hl hV H
    refine ⟨h, rT, k, some (.int (Int32.ofNat j)), l12, l13, ?_, Nat.le_refl _, H, by omega, hV⟩
    rw [e165_89, e165_91, e165_93, if_pos (by rw [show (10 : Int32) = Int32.ofNat 10 from rfl, oi_le (by decide) (by omega)]; omega)]
  | succ d IH =>
    intro j k rT h l12 l13 hj hl hV H
    have m8 : lw (y >>> (3 * Int32.ofNat j &&& 31)) 8 < 8 := lw_lt (by decide)
    by_cases m5 : lw (y >>> (3 * Int32.ofNat j &&& 31)) 8 ≤ 5
    · have dv := sh_drive (L := L) (xs := xs) (k := k) H (m := lw (y >>> (3 * Int32.ofNat j &&& 31)) 8) (by omega) rfl (by omega)
      by_cases z : eG (oF fop) (Sho.fin p rT) (lw (y >>> (3 * Int32.ofNat j &&& 31)) 8) = 0
      · rw [if_pos z] at dv
        obtain ⟨h', rT', k', r11, r12, r13, e, kk, H', r10, V'⟩ := IH (j + 1) (k + 1) rT h (some (.int (Int32.ofNat (lw (y >>> (3 * Int32.ofNat j &&& 31)) 8)))) (some (.int (-1000003))) (by omega) (by omega) hV H
        refine ⟨h', rT', k', r11, r12, r13, ?_, by omega, H', r10, V'⟩
        rw [e165_89, e165_91, e165_93, if_neg (by rw [show (10 : Int32) = Int32.ofNat 10 from rfl, oi_le (by decide) (by omega)]; omega), e165_96, e165_98, if_neg (by decide), e165_101, e165_103, if_neg (by decide), e165_106, e165_108, e165_109, e165_111, e165_112, e165_113, show (.int 8 : Value) = .int (Int32.ofNat 8) from rfl, e165_115 (by simp [Value.category]), (c_low (n := 8) (by decide) (by decide))]
        simp only [mAft, Option.toList_some, List.cons_append, List.nil_append]
        rw [e165_118, e165_120, e165_121, e165_123 (by simp [Value.category]), dv]
        simp only [mAft, Option.toList_some, List.cons_append, List.nil_append]
        rw [e165_126, e165_128, e165_130, e165_131, if_pos (show Int32.ofNat _ ≤ (5 : Int32) from le_lit (n := 5) (by omega) (by decide)), e165_149, e165_151, e165_153, if_pos rfl, e165_165, e165_166, e165_170, e165_172, e165_174, e165_176, if_pos (by decide), e165_183, e165_184, Int32.add_zero, e165_185, e165_187, oi_succ, e165_190]
        exact e
      · rw [if_neg z] at dv
        obtain ⟨h1, dv, H1⟩ := dv
        have V1 := val_snoc rT p (lw (y >>> (3 * Int32.ofNat j &&& 31)) 8) (eG (oF fop) (Sho.fin p rT) (lw (y >>> (3 * Int32.ofNat j &&& 31)) 8) - 1) hV (by unfold drE; rw [if_neg z])
        have ln : (rT ++ [(lw (y >>> (3 * Int32.ofNat j &&& 31)) 8, eG (oF fop) (Sho.fin p rT) (lw (y >>> (3 * Int32.ofNat j &&& 31)) 8) - 1)]).length = rT.length + 1 := by simp
        obtain ⟨h', rT', k', r11, r12, r13, e, kk, H', r10, V'⟩ := IH (j + 1) k _ h1 (some (.int (Int32.ofNat (lw (y >>> (3 * Int32.ofNat j &&& 31)) 8)))) (some (.int (Int32.ofNat (rT.length + 1)))) (by omega) (by omega) V1 H1
        refine ⟨h', rT', k', r11, r12, r13, ?_, by omega, H', r10, V'⟩
        rw [ln] at e
        rw [e165_89, e165_91, e165_93, if_neg (by rw [show (10 : Int32) = Int32.ofNat 10 from rfl, oi_le (by decide) (by omega)]; omega), e165_96, e165_98, if_neg (by decide), e165_101, e165_103, if_neg (by decide), e165_106, e165_108, e165_109, e165_111, e165_112, e165_113, show (.int 8 : Value) = .int (Int32.ofNat 8) from rfl, e165_115 (by simp [Value.category]), (c_low (n := 8) (by decide) (by decide))]
        simp only [mAft, Option.toList_some, List.cons_append, List.nil_append]
        rw [e165_118, e165_120, e165_121, e165_123 (by simp [Value.category]), dv]
        simp only [mAft, Option.toList_some, List.cons_append, List.nil_append]
        rw [e165_126, e165_128, e165_130, e165_131, if_pos (show Int32.ofNat _ ≤ (5 : Int32) from le_lit (n := 5) (by omega) (by decide)), e165_149, e165_151, e165_153, if_neg (nbig (by omega)), e165_156, e165_158, e165_160, e165_161, oi_i1, e165_162, if_neg (not_not_intro rfl), e165_165, e165_166, e165_170, e165_172, e165_174, e165_176, if_neg (show ¬ Int32.ofNat _ ≤ (0 : Int32) from nle_lit (n := 0) (by omega) (by omega)), e165_179, e165_180, e165_184, oi_i1, e165_185, e165_187, oi_succ, e165_190]
        exact e
    · have dv := sh_driveOut (L := L) (xs := xs) (k := k) H (m := lw (y >>> (3 * Int32.ofNat j &&& 31)) 8) (by omega) (by omega)
      obtain ⟨h', rT', k', r11, r12, r13, e, kk, H', r10, V'⟩ := IH (j + 1) (k + 1) rT h (some (.int (Int32.ofNat (lw (y >>> (3 * Int32.ofNat j &&& 31)) 8)))) (some (.int (-1000001))) (by omega) (by omega) hV H
      refine ⟨h', rT', k', r11, r12, r13, ?_, by omega, H', r10, V'⟩
      rw [e165_89, e165_91, e165_93, if_neg (by rw [show (10 : Int32) = Int32.ofNat 10 from rfl, oi_le (by decide) (by omega)]; omega), e165_96, e165_98, if_neg (by decide), e165_101, e165_103, if_neg (by decide), e165_106, e165_108, e165_109, e165_111, e165_112, e165_113, show (.int 8 : Value) = .int (Int32.ofNat 8) from rfl, e165_115 (by simp [Value.category]), (c_low (n := 8) (by decide) (by decide))]
      simp only [mAft, Option.toList_some, List.cons_append, List.nil_append]
      rw [e165_118, e165_120, e165_121, e165_123 (by simp [Value.category]), dv]
      simp only [mAft, Option.toList_some, List.cons_append, List.nil_append]
      rw [e165_126, e165_128, e165_130, e165_131, if_neg (show ¬ Int32.ofNat _ ≤ (5 : Int32) from nle_lit (n := 5) (by omega) (by omega)), e165_134, e165_136, e165_138, if_neg (fun z => z rfl), e165_141, e165_142, e165_170, e165_172, e165_174, e165_176, if_pos (by decide), e165_183, e165_184, Int32.add_zero, e165_185, e165_187, oi_succ, e165_190]
      exact e
end
