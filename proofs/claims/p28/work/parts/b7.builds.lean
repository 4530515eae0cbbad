section
variable {L : Nat} {xs : Nat → Int32} {k : Nat} {h : List mCel}

variable {oc np fr be cu mg st ar fa sl isr rq : Nat} {rT : List (Nat × Nat)} {gone : Nat → Bool} {pl : List (Nat × List (Nat × Nat))} {s : wS} {cov fcl fop fg fz fe : Nat → Int32}

theorem bd_loop {x y : Int32} {many c : Nat} (hm : many ≤ 4) : ∀ (d j k oc : Nat) (fg : Nat → Int32) (h : List mCel), j + d = many → SH oc np fr be cu mg st ar fa sl isr rq rT gone pl s cov fcl fop fg fz fe h → LG oc np c pl gone fg fz fe →
    ∃ h' oc' fg' k' l7', mW (mRo L xs) mTab 158 108 [some (.ref 8), some (.ref 42), some (.ref 43), some (.int x), some (.int y), some (.int 1), some (.int (Int32.ofNat many)), some (.int (Int32.ofNat j)), none] [] h k = mW (mRo L xs) mTab 158 203 [some (.ref 8), some (.ref 42), some (.ref 43), some (.int x), some (.int y), some (.int 1), some (.int (Int32.ofNat many)), l7', none] [] h' k' ∧ k' ≤ k + d ∧ SH oc' np fr be cu mg st ar fa sl isr rq rT gone pl s cov fcl fop fg' fz fe h' ∧ LG oc' np c pl gone fg' fz fe := by
  intro d
  induction d with
  | zero =>
    intro j k oc fg h hj H G0
    refine ⟨h, oc, fg, k, some (.int (Int32.ofNat j)), ?_, Nat.le_refl _, H, G0⟩
    rw [e158_108, e158_110, e158_112, if_pos (by rw [oi_le (by omega) (by omega)]; omega)]
  | succ d IH =>
    intro j k oc fg h hj H G0
    have b6 := (sh_bd H).1.2.2.2
    have g42 := (sh_g H).1
    have g0 := G0.1
    have u17 : lw (y >>> (3 * Int32.ofNat j &&& 31)) 17 < 17 := lw_lt (by decide)
    have v17 : lw (y >>> (3 * Int32.ofNat j + 5 &&& 31)) 17 < 17 := lw_lt (by decide)
    by_cases z : oc = 6
    · subst z
      have cr := sh_cornerFull (L := L) (xs := xs) (k := k) H (x := lw (y >>> (3 * Int32.ofNat j &&& 31)) 17) (y := lw (y >>> (3 * Int32.ofNat j + 5 &&& 31)) 17) (by omega) (by omega) rfl
      have H1 := sh_setG H (upd fg (0 : Int32).toNatClampNeg (fg 0 + 0))
      have G1 : LG 6 np c pl gone (upd fg (0 : Int32).toNatClampNeg (fg 0 + 0)) fz fe := by
        rw [show (0 : Int32).toNatClampNeg = 0 from rfl]
        exact ⟨by rw [upd_at, Int32.add_zero]; exact g0, (upd_ne (by decide)).trans G0.2.1, (upd_ne (by decide)).trans G0.2.2.1, (upd_ne (by decide)).trans G0.2.2.2.1, G0.2.2.2.2⟩
      obtain ⟨h', oc', fg', k', l7', e, kk, H', G'⟩ := IH (j + 1) (k + 1) 6 _ _ (by omega) H1 G1
      refine ⟨h', oc', fg', k', l7', ?_, by omega, H', G'⟩
      rw [e158_108, e158_110, e158_112, if_neg (by rw [oi_le (by omega) (by omega)]; omega), e158_115, e158_117, if_neg (by decide), e158_120, e158_121, e158_123, e158_124, e158_126, e158_127, e158_128, show (.int 17 : Value) = .int (Int32.ofNat 17) from rfl, e158_130 (by simp [Value.category]), (c_low (n := 17) (by decide) (by decide))]
      simp only [mAft, Option.toList_some, List.cons_append, List.nil_append]
      rw [e158_133, e158_135, e158_136, e158_138, e158_139, e158_140, e158_141, e158_142, show (.int 17 : Value) = .int (Int32.ofNat 17) from rfl, e158_144 (by simp [Value.category]), (c_low (n := 17) (by decide) (by decide))]
      simp only [mAft, Option.toList_some, List.cons_append, List.nil_append]
      rw [e158_147 (by simp [Value.category]), cr]
      simp only [mAft, Option.toList_some, List.cons_append, List.nil_append]
      rw [e158_150, e158_151, e158_152, rd (J := 0) (j := 0) g42 rfl (by decide) (by decide), e158_153, e158_155, if_neg (by rw [g0]; exact fun z => z rfl), e158_158, e158_160, e158_168, if_neg (fun z => z rfl), e158_171, e158_172, e158_176, e158_178, e158_179, e158_180, e158_181, rd (J := 0) (j := 0) g42 rfl (by decide) (by decide), e158_182, e158_183, e158_184, rd (J := 0) (j := 0) g42 rfl (by decide) (by decide), e158_185, e158_187, if_pos (by rw [g0]; exact Int32.le_refl _), e158_194, e158_195, e158_196, wr (J := 0) (j := 0) g42 rfl (by decide) (by decide), e158_197, oi_succ, e158_200]
      exact e
    · obtain ⟨h1, cr, H0⟩ := sh_corner (L := L) (xs := xs) (k := k) H (x := lw (y >>> (3 * Int32.ofNat j &&& 31)) 17) (y := lw (y >>> (3 * Int32.ofNat j + 5 &&& 31)) 17) (by omega) (by omega) (by omega)
      have g42 := (sh_g H0).1
      have H1 := sh_setG H0 (upd fg (0 : Int32).toNatClampNeg (fg 0 + 1))
      have G1 : LG (oc + 1) np c pl gone (upd fg (0 : Int32).toNatClampNeg (fg 0 + 1)) fz fe := by
        rw [show (0 : Int32).toNatClampNeg = 0 from rfl]
        exact ⟨by rw [upd_at, g0]; exact oi_i1, (upd_ne (by decide)).trans G0.2.1, (upd_ne (by decide)).trans G0.2.2.1, (upd_ne (by decide)).trans G0.2.2.2.1, G0.2.2.2.2⟩
      obtain ⟨h', oc', fg', k', l7', e, kk, H', G'⟩ := IH (j + 1) k (oc + 1) _ _ (by omega) H1 G1
      refine ⟨h', oc', fg', k', l7', ?_, by omega, H', G'⟩
      rw [e158_108, e158_110, e158_112, if_neg (by rw [oi_le (by omega) (by omega)]; omega), e158_115, e158_117, if_neg (by decide), e158_120, e158_121, e158_123, e158_124, e158_126, e158_127, e158_128, show (.int 17 : Value) = .int (Int32.ofNat 17) from rfl, e158_130 (by simp [Value.category]), (c_low (n := 17) (by decide) (by decide))]
      simp only [mAft, Option.toList_some, List.cons_append, List.nil_append]
      rw [e158_133, e158_135, e158_136, e158_138, e158_139, e158_140, e158_141, e158_142, show (.int 17 : Value) = .int (Int32.ofNat 17) from rfl, e158_144 (by simp [Value.category]), (c_low (n := 17) (by decide) (by decide))]
      simp only [mAft, Option.toList_some, List.cons_append, List.nil_append]
      rw [e158_147 (by simp [Value.category]), cr]
      simp only [mAft, Option.toList_some, List.cons_append, List.nil_append]
      rw [e158_150, e158_151, e158_152, rd (J := 0) (j := 0) g42 rfl (by decide) (by decide), e158_153, e158_155, if_pos (by rw [g0, show (6 : Int32) = Int32.ofNat 6 from rfl, oi_eq (by omega) (by decide)]; omega), e158_163, e158_164, e158_165, rd (J := 0) (j := 0) g42 rfl (by decide) (by decide), e158_166, e158_167, e158_168, if_neg (by rw [g0, oi_i1]; exact fun z => z rfl), e158_171, e158_172, e158_176, e158_178, e158_179, e158_180, e158_181, rd (J := 0) (j := 0) g42 rfl (by decide) (by decide), e158_182, e158_183, e158_184, rd (J := 0) (j := 0) g42 rfl (by decide) (by decide), e158_185, e158_187, if_neg (by rw [g0, show (6 : Int32) = Int32.ofNat 6 from rfl, oi_le (by decide) (by omega)]; omega), e158_190, e158_191, e158_195, e158_196, wr (J := 0) (j := 0) g42 rfl (by decide) (by decide), e158_197, oi_succ, e158_200]
      exact e

theorem bd_end (H : SH oc np fr be cu mg st ar fa sl isr rq rT gone pl s cov fcl fop fg fz fe h) {x y : Int32} {many c : Nat} (G0 : LG oc np c pl gone fg fz fe) (hc : c ≤ 16) {l7 : Option Value} : ∃ h' k', mW (mRo L xs) mTab 158 203 [some (.ref 8), some (.ref 42), some (.ref 43), some (.int x), some (.int y), some (.int 1), some (.int (Int32.ofNat many)), l7, none] [] h k = some (.inl (some (.int 1)), h', k') ∧ k' ≤ k + 1 ∧ ST h' := by
  have bd := (sh_bd H).1
  by_cases z2 : lw (x >>> (4 &&& 31)) 2 = 0
  · refine ⟨h, k, ?_, by omega, ⟨_, _, _, _, _, _, _, _, _, _, _, _, _, _, _, _, _, _, _, _, _, _, c, H, G0, hc⟩⟩
    rw [e158_203, e158_204, e158_205, e158_206, show (.int 2 : Value) = .int (Int32.ofNat 2) from rfl, e158_207 (by simp [Value.category]), (c_low (n := 2) (by decide) (by decide))]
    simp only [mAft, Option.toList_some, List.cons_append, List.nil_append]
    rw [e158_210, if_neg (by rw [z2]; exact fun z => z rfl), e158_213, e158_215 (Or.inr rfl)]
  have l2b : lw (x >>> (4 &&& 31)) 2 < 2 := lw_lt (by decide)
  by_cases can : 3 ≤ oc ∧ np < 8
  · obtain ⟨h1, cov1, fcl1, fop1, pg, H1⟩ := sh_polygon (L := L) (xs := xs) (k := k) H can.1 can.2
    have g42 := (sh_g H1).1
    have kr := (sh_g H1).2.2.2
    obtain ⟨h2, fo, H2⟩ := sh_forget (L := L) (xs := xs) (k := k) H1
    have g42b := (sh_g H2).1
    have H3 := sh_setG H2 (upd fg (1 : Int32).toNatClampNeg (fg 1 + 1))
    have g42c := (sh_g H3).1
    have H4 := sh_setG H3 (upd (upd fg (1 : Int32).toNatClampNeg (fg 1 + 1)) (0 : Int32).toNatClampNeg 0)
    refine ⟨_, k, ?_, by omega, ⟨_, _, _, _, _, _, _, _, _, _, _, _, _, _, _, _, _, _, _, _, _, _, c, H4, ?_, hc⟩⟩
    rotate_left
    · rw [show (0 : Int32).toNatClampNeg = 0 from rfl, show (1 : Int32).toNatClampNeg = 1 from rfl]
      refine ⟨upd_at, ?_, ?_, ?_, fun i hi => ?_, G0.2.2.2.2.2⟩
      · rw [upd_ne (by decide), upd_at, G0.2.1]
        exact oi_i1
      · rw [upd_ne (by decide), upd_ne (by decide)]; exact G0.2.2.1
      · rw [upd_ne (by decide), upd_ne (by decide)]; exact G0.2.2.2.1
      · rw [G0.2.2.2.2.1 i hi]
        by_cases e : i = np
        · rw [if_neg (by omega), if_neg]
          rintro ⟨_, w⟩
          have : (if i = np then false else gone i) = true := w
          rw [if_pos e] at this
          cases this
        · have e2 : (i < np + 1 ∧ (if i = np then false else gone i) = true) ↔ (i < np ∧ gone i = true) := by
            rw [if_neg e]
            exact ⟨fun w => ⟨by omega, w.2⟩, fun w => ⟨by omega, w.2⟩⟩
          by_cases w : i < np ∧ gone i = true
          · rw [if_pos w, if_pos (e2.mpr w)]
          · rw [if_neg w, if_neg (fun u => w (e2.mp u))]
    rw [e158_203, e158_204, e158_205, e158_206, show (.int 2 : Value) = .int (Int32.ofNat 2) from rfl, e158_207 (by simp [Value.category]), (c_low (n := 2) (by decide) (by decide))]
    simp only [mAft, Option.toList_some, List.cons_append, List.nil_append]
    rw [e158_210, if_pos (fun z => z2 (by have := congrArg Int32.toInt z; rw [oi_int (by omega)] at this; have h2 : (0 : Int32).toInt = 0 := rfl; omega)), e158_216, e158_217 (by simp [Value.category]), pg]
    simp only [mAft, Option.toList_some, List.cons_append, List.nil_append]
    rw [e158_220]
    rw [e158_222, e158_223, e158_224, rd (J := 0) (j := 0) g42 rfl (by decide) (by decide), e158_225, e158_226, if_neg (by rw [G0.1, show (2 : Int32) = Int32.ofNat 2 from rfl, oi_le (by omega) (by decide)]; omega), e158_229, e158_230, e158_231, rd (J := 1) (j := 1) g42 rfl (by decide) (by decide), e158_232, e158_234, if_neg (by rw [G0.2.1, show (8 : Int32) = Int32.ofNat 8 from rfl, oi_le (by decide) (by omega)]; omega), e158_237, e158_238, e158_242, e158_244, e158_246, if_pos (by decide), e158_281, e158_283, if_neg (by decide), e158_286, e158_288, e158_289, e158_290, rd (J := 1) (j := 1) g42 rfl (by decide) (by decide), e158_291, if_neg (by rw [G0.2.1]; exact fun z => z rfl), e158_294, e158_295 kr (by simp [Value.category]), fo]
    simp only [mAft, Option.toList_some, List.cons_append, List.nil_append]
    rw [e158_298, if_neg (show ¬ ¬ Int32.ofNat 0 = 0 from fun z => z rfl), e158_301, e158_302, e158_306, e158_308, e158_309, e158_310, e158_311, rd (J := 1) (j := 1) g42b rfl (by decide) (by decide), e158_312, e158_313, e158_314, wr (J := 1) (j := 1) g42b rfl (by decide) (by decide), e158_315, e158_316, e158_317, e158_318, wr (J := 0) (j := 0) g42c rfl (by decide) (by decide), e158_319, e158_321 (Or.inr rfl)]
  · have pg := sh_polygonNot (L := L) (xs := xs) (k := k) H can
    have g42 := (sh_g H).1
    have kr := (sh_g H).2.2.2
    obtain ⟨h2, fo, H2⟩ := sh_forget (L := L) (xs := xs) (k := k + 1) H
    have g42b := (sh_g H2).1
    have H3 := sh_setG H2 (upd fg (0 : Int32).toNatClampNeg 0)
    refine ⟨_, k + 1, ?_, by omega, ⟨_, _, _, _, _, _, _, _, _, _, _, _, _, _, _, _, _, _, _, _, _, _, c, H3, ?_, hc⟩⟩
    rotate_left
    · rw [show (0 : Int32).toNatClampNeg = 0 from rfl]
      exact ⟨upd_at, (upd_ne (by decide)).trans G0.2.1, (upd_ne (by decide)).trans G0.2.2.1, (upd_ne (by decide)).trans G0.2.2.2.1, G0.2.2.2.2⟩
    have t : mW (mRo L xs) mTab 158 222 [some (.ref 8), some (.ref 42), some (.ref 43), some (.int x), some (.int y), some (.int 1), some (.int (Int32.ofNat many)), some (.int (-1000003)), none] [] h (k + 1) = mW (mRo L xs) mTab 158 244 [some (.ref 8), some (.ref 42), some (.ref 43), some (.int x), some (.int y), some (.int 1), some (.int (Int32.ofNat many)), some (.int (-1000003)), some (.int 0)] [] h (k + 1) := by
      by_cases z3 : oc ≤ 2
      · rw [e158_222, e158_223, e158_224, rd (J := 0) (j := 0) g42 rfl (by decide) (by decide), e158_225, e158_226, if_pos (by rw [G0.1, show (2 : Int32) = Int32.ofNat 2 from rfl, oi_le (by omega) (by decide)]; omega), e158_241, e158_242]
      · rw [e158_222, e158_223, e158_224, rd (J := 0) (j := 0) g42 rfl (by decide) (by decide), e158_225, e158_226, if_neg (by rw [G0.1, show (2 : Int32) = Int32.ofNat 2 from rfl, oi_le (by omega) (by decide)]; omega), e158_229, e158_230, e158_231, rd (J := 1) (j := 1) g42 rfl (by decide) (by decide), e158_232, e158_234, if_pos (by rw [G0.2.1, show (8 : Int32) = Int32.ofNat 8 from rfl, oi_le (by decide) (by omega)]; omega), e158_241, e158_242]
    rw [e158_203, e158_204, e158_205, e158_206, show (.int 2 : Value) = .int (Int32.ofNat 2) from rfl, e158_207 (by simp [Value.category]), (c_low (n := 2) (by decide) (by decide))]
    simp only [mAft, Option.toList_some, List.cons_append, List.nil_append]
    rw [e158_210, if_pos (fun z => z2 (by have := congrArg Int32.toInt z; rw [oi_int (by omega)] at this; have h2 : (0 : Int32).toInt = 0 := rfl; omega)), e158_216, e158_217 (by simp [Value.category]), pg]
    simp only [mAft, Option.toList_some, List.cons_append, List.nil_append]
    rw [e158_220]
    rw [t]
    rw [e158_244, e158_246, if_neg (fun z => z rfl), e158_249, e158_251, if_neg (by decide), e158_254, e158_256, e158_258, if_neg (fun z => z rfl), e158_261, e158_262 kr (by simp [Value.category]), fo]
    simp only [mAft, Option.toList_some, List.cons_append, List.nil_append]
    rw [e158_265, e158_266, e158_267, rd (J := 0) (j := 0) g42b rfl (by decide) (by decide), e158_268, if_neg (by rw [G0.1]; exact fun z => z rfl), e158_271, e158_272, e158_276, e158_278, e158_315, e158_316, e158_317, e158_318, wr (J := 0) (j := 0) g42b rfl (by decide) (by decide), e158_319, e158_321 (Or.inr rfl)]

theorem one_add {n : Nat} : (1 : Int32) + Int32.ofNat n = Int32.ofNat (1 + n) := (oi_add 1 n).symm
theorem law_builds (H : SH oc np fr be cu mg st ar fa sl isr rq rT gone pl s cov fcl fop fg fz fe h) {c : Nat} (G0 : LG oc np c pl gone fg fz fe) (hc : c ≤ 16) {x y : Int32} : ∃ h' k', mW (mRo L xs) mTab 158 0 [some (.ref 8), some (.ref 42), some (.ref 43), some (.int x), some (.int y), none, none, none, none] [] h k = some (.inl (some (.int 1)), h', k') ∧ k' ≤ k + 17 ∧ ST h' := by
  have bd := (sh_bd H).1
  have l4 : lw x 4 < 4 := lw_lt (by decide)
  by_cases z4 : lw x 4 = 0
  · have i9 : lw y 9 < 9 := lw_lt (by decide)
    by_cases zi : np ≤ lw y 9
    · have ta := sh_takeOut (L := L) (xs := xs) (k := k) H zi (by omega)
      have g42 := (sh_g H).1
      refine ⟨h, k + 1, ?_, by omega, ⟨_, _, _, _, _, _, _, _, _, _, _, _, _, _, _, _, _, _, _, _, _, _, c, H, G0, hc⟩⟩
      rw [e158_0, e158_1, show (.int 4 : Value) = .int (Int32.ofNat 4) from rfl, e158_2 (by simp [Value.category]), (c_low (n := 4) (by decide) (by decide))]
      simp only [mAft, Option.toList_some, List.cons_append, List.nil_append]
      rw [e158_5, if_neg (by rw [z4]; exact fun z => z rfl), e158_8, e158_10, show (.int 9 : Value) = .int (Int32.ofNat 9) from rfl, e158_12 (by simp [Value.category]), (c_low (n := 9) (by decide) (by decide))]
      simp only [mAft, Option.toList_some, List.cons_append, List.nil_append]
      rw [e158_15, e158_17, e158_18, e158_20 (by simp [Value.category]), ta]
      simp only [mAft, Option.toList_some, List.cons_append, List.nil_append]
      rw [e158_23]
      rw [e158_25, e158_27, e158_28, e158_29, rd (J := 1) (j := 1) g42 rfl (by decide) (by decide), e158_30, if_pos (by rw [G0.2.1, oi_le (by omega) (by omega)]; exact zi), e158_41, e158_43, e158_45, e158_46, e158_47, rd (J := 1) (j := 1) g42 rfl (by decide) (by decide), e158_48, if_neg (by rw [G0.2.1, oi_lt (by omega) (by omega)]; omega), e158_51, e158_53, e158_58, if_neg (fun z => z rfl), e158_61, e158_62, e158_66 (Or.inr rfl)]
    · have ta := sh_takeAway (L := L) (xs := xs) (k := k) H (i := lw y 9) (by omega)
      have fzi := G0.2.2.2.2.1 (lw y 9) i9
      by_cases zg : gone (lw y 9) = true
      · rw [if_pos zg] at ta
        rw [if_pos ⟨by omega, zg⟩] at fzi
        have g42 := (sh_g H).1
        have g43 := (sh_g H).2.1
        refine ⟨h, k + 1, ?_, by omega, ⟨_, _, _, _, _, _, _, _, _, _, _, _, _, _, _, _, _, _, _, _, _, _, c, H, G0, hc⟩⟩
        rw [e158_0, e158_1, show (.int 4 : Value) = .int (Int32.ofNat 4) from rfl, e158_2 (by simp [Value.category]), (c_low (n := 4) (by decide) (by decide))]
        simp only [mAft, Option.toList_some, List.cons_append, List.nil_append]
        rw [e158_5, if_neg (by rw [z4]; exact fun z => z rfl), e158_8, e158_10, show (.int 9 : Value) = .int (Int32.ofNat 9) from rfl, e158_12 (by simp [Value.category]), (c_low (n := 9) (by decide) (by decide))]
        simp only [mAft, Option.toList_some, List.cons_append, List.nil_append]
        rw [e158_15, e158_17, e158_18, e158_20 (by simp [Value.category]), ta]
        simp only [mAft, Option.toList_some, List.cons_append, List.nil_append]
        rw [e158_23]
        rw [e158_25, e158_27, e158_28, e158_29, rd (J := 1) (j := 1) g42 rfl (by decide) (by decide), e158_30, if_neg (by rw [G0.2.1, oi_le (by omega) (by omega)]; exact zi), e158_33, e158_34, e158_36, rd g43 rfl (by omega) (by decide), e158_37, e158_38, if_neg (by rw [fzi]; exact fun z => z rfl), e158_41, e158_43, e158_45, e158_46, e158_47, rd (J := 1) (j := 1) g42 rfl (by decide) (by decide), e158_48, if_pos (by rw [G0.2.1, oi_lt (by omega) (by omega)]; omega), e158_56, e158_58, if_neg (fun z => z rfl), e158_61, e158_62, e158_66 (Or.inr rfl)]
      · rw [if_neg zg] at ta
        rw [if_neg (fun w => zg w.2)] at fzi
        obtain ⟨h1, cov1, fcl1, fop1, b, ta, hb, H1⟩ := ta
        have g42 := (sh_g H1).1
        have g43 := (sh_g H1).2.1
        have H2 := sh_setZ H1 (upd fz (Int32.ofNat (lw y 9)).toNatClampNeg 1)
        refine ⟨_, k, ?_, by omega, ⟨_, _, _, _, _, _, _, _, _, _, _, _, _, _, _, _, _, _, _, _, _, _, c, H2, ⟨G0.1, G0.2.1, G0.2.2.1, G0.2.2.2.1, fun j hj => ?_, G0.2.2.2.2.2⟩, hc⟩⟩
        rotate_left
        · rw [oi_nat (by omega)]
          by_cases e : j = lw y 9
          · rw [e, upd_at, if_pos]
            exact ⟨by omega, if_pos rfl⟩
          · rw [upd_ne e, G0.2.2.2.2.1 j hj]
            have e2 : (if j = lw y 9 then true else gone j) = gone j := if_neg e
            simp only [e2]
        rw [e158_0, e158_1, show (.int 4 : Value) = .int (Int32.ofNat 4) from rfl, e158_2 (by simp [Value.category]), (c_low (n := 4) (by decide) (by decide))]
        simp only [mAft, Option.toList_some, List.cons_append, List.nil_append]
        rw [e158_5, if_neg (by rw [z4]; exact fun z => z rfl), e158_8, e158_10, show (.int 9 : Value) = .int (Int32.ofNat 9) from rfl, e158_12 (by simp [Value.category]), (c_low (n := 9) (by decide) (by decide))]
        simp only [mAft, Option.toList_some, List.cons_append, List.nil_append]
        rw [e158_15, e158_17, e158_18, e158_20 (by simp [Value.category]), ta]
        simp only [mAft, Option.toList_some, List.cons_append, List.nil_append]
        rw [e158_23]
        rw [e158_25, e158_27, e158_28, e158_29, rd (J := 1) (j := 1) g42 rfl (by decide) (by decide), e158_30, if_neg (by rw [G0.2.1, oi_le (by omega) (by omega)]; exact zi), e158_33, e158_34, e158_36, rd g43 rfl (by omega) (by decide), e158_37, e158_38, if_pos (by rw [fzi]; decide), e158_67, e158_68, e158_70, e158_71, wr g43 rfl (by omega) (by decide), e158_72, e158_74, if_neg (oi_nneg (by omega)), e158_77, e158_79, e158_82, if_neg (show ¬ (256 : Int32) < Int32.ofNat b from (by rw [show (256 : Int32) = Int32.ofNat 256 from rfl, oi_lt (by decide) (by omega)]; omega)), e158_85, e158_86, e158_90 (Or.inr rfl)]
  · have l4b : lw (x >>> (2 &&& 31)) 4 < 4 := lw_lt (by decide)
    obtain ⟨h1, oc1, fg1, k1, l7, e, kk, H1, G1⟩ := bd_loop (L := L) (xs := xs) (x := x) (y := y) (many := 1 + lw (x >>> (2 &&& 31)) 4) (by omega) (1 + lw (x >>> (2 &&& 31)) 4) 0 k oc fg h (by omega) H G0
    obtain ⟨h2, k2, e2, kk2, S2⟩ := bd_end (L := L) (xs := xs) (k := k1) H1 (x := x) (y := y) (many := 1 + lw (x >>> (2 &&& 31)) 4) G1 hc (l7 := l7)
    refine ⟨h2, k2, ?_, by omega, S2⟩
    rw [e158_0, e158_1, show (.int 4 : Value) = .int (Int32.ofNat 4) from rfl, e158_2 (by simp [Value.category]), (c_low (n := 4) (by decide) (by decide))]
    simp only [mAft, Option.toList_some, List.cons_append, List.nil_append]
    rw [e158_5, if_pos (fun z => z4 (by have := congrArg Int32.toInt z; rw [oi_int (by omega)] at this; have h2 : (0 : Int32).toInt = 0 := rfl; omega)), e158_91, e158_92, e158_94, e158_95, e158_96, e158_97, e158_98, show (.int 4 : Value) = .int (Int32.ofNat 4) from rfl, e158_99 (by simp [Value.category]), (c_low (n := 4) (by decide) (by decide))]
    simp only [mAft, Option.toList_some, List.cons_append, List.nil_append]
    rw [e158_102, one_add, e158_103, e158_105, e158_106]
    exact e.trans e2
end
