section
variable {L : Nat} {xs : Nat → Int32} {k : Nat} {h : List mCel}
theorem nmb {p : Nat} (hp : p < 2 ^ 31) : ¬ Int32.ofNat p = -1 := fun z => by
  have := congrArg Int32.toInt z
  rw [oi_int hp] at this
  have h2 : (-1 : Int32).toInt = -1 := rfl
  omega
theorem oi_eq {a b : Nat} (ha : a < 2 ^ 31) (hb : b < 2 ^ 31) : (Int32.ofNat a = Int32.ofNat b) ↔ a = b := by
  refine ⟨fun z => ?_, fun z => by rw [z]⟩
  have := congrArg Int32.toInt z
  rw [oi_int ha, oi_int hb] at this
  omega

variable {oc np fr be cu mg st ar fa sl isr rq : Nat} {rT : List (Nat × Nat)} {gone : Nat → Bool} {pl : List (Nat × List (Nat × Nat))} {s : wS} {cov fcl fop fg fz fe : Nat → Int32}

theorem word_end1 (H : SH oc np fr be cu mg st ar fa sl isr rq rT gone pl s cov fcl fop fg fz fe h) {p q : Nat} (hp : p < 2048) (hq : q < 2048) {l1 l2 l11 l12 l13 l14 l15 l16 l17 : Option Value} {co kd : Nat} (hk : kd < 6) (hs : s.2.1 = kd + 1) (hc0 : p = q → co = 0) (hco : co ≤ 536870912) :
    mW (mRo L xs) mTab 170 374 [some (.ref 8), l1, l2, some (.int (Int32.ofNat (p % 16))), some (.int (Int32.ofNat (p / 16 % 16))), some (.int (Int32.ofNat (p / 256))), some (.int (Int32.ofNat (q % 16))), some (.int (Int32.ofNat (q / 16 % 16))), some (.int (Int32.ofNat (q / 256))), some (.int (Int32.ofNat co)), some (.int (Int32.ofNat kd)), l11, l12, l13, l14, l15, l16, l17] [] h k = some (.inl (some (.int 1)), h, k + 1) := by
  have wb := sh_wordBad (L := L) (xs := xs) (k := k) H hp (q := q % 256) (by omega)
  rw [show q % 256 % 16 = q % 16 by omega, show q % 256 / 16 % 16 = q / 16 % 16 by omega] at wb
  have f0b := sh_found (L := L) (xs := xs) (k := k + 1) H (w := 0) (by decide)
  rw [if_neg (by omega), if_pos rfl, hs, Nat.add_sub_cancel] at f0b
  have f0b : mW (mRo L xs) mTab 166 0 [some (.ref 8), some (.int 0), none] [] h (k + 1) = some (.inl (some (.int (Int32.ofNat kd))), h, k + 1) := f0b
  by_cases e1 : p % 16 = q % 16
  · by_cases e2 : p / 16 % 16 = q / 16 % 16
    · by_cases e3 : p / 256 = q / 256
      · have c0 := hc0 (by omega)
        subst c0
        rw [e170_374, e170_375, e170_376, e170_378, e170_380, e170_382, e170_384, e170_386 (by simp [Value.category]), wb]
        simp only [mAft, Option.toList_some, List.cons_append, List.nil_append]
        rw [e170_389, e170_391, if_neg (fun z => z rfl), e170_394, e170_395, e170_396 (by simp [Value.category]), f0b]
        simp only [mAft, Option.toList_some, List.cons_append, List.nil_append]
        rw [e170_399, e170_401, if_neg (fun z => z rfl), e170_404, e170_405, e170_407, if_neg (not_not_intro ((oi_eq (by omega) (by omega)).mpr e1)), e170_410, e170_412, e170_414, if_neg (not_not_intro ((oi_eq (by omega) (by omega)).mpr e2)), e170_417, e170_419, e170_421, if_neg (not_not_intro ((oi_eq (by omega) (by omega)).mpr e3)), e170_424, e170_426, if_neg (show ¬ ¬ Int32.ofNat 0 = 0 from not_not_intro rfl), e170_429, e170_430, e170_434 (Or.inr rfl)]
      ·
        rw [e170_374, e170_375, e170_376, e170_378, e170_380, e170_382, e170_384, e170_386 (by simp [Value.category]), wb]
        simp only [mAft, Option.toList_some, List.cons_append, List.nil_append]
        rw [e170_389, e170_391, if_neg (fun z => z rfl), e170_394, e170_395, e170_396 (by simp [Value.category]), f0b]
        simp only [mAft, Option.toList_some, List.cons_append, List.nil_append]
        rw [e170_399, e170_401, if_neg (fun z => z rfl), e170_404, e170_405, e170_407, if_neg (not_not_intro ((oi_eq (by omega) (by omega)).mpr e1)), e170_410, e170_412, e170_414, if_neg (not_not_intro ((oi_eq (by omega) (by omega)).mpr e2)), e170_417, e170_419, e170_421, if_pos (fun z => e3 ((oi_eq (by omega) (by omega)).mp z)), e170_429, e170_430, e170_434 (Or.inr rfl)]
    ·
      rw [e170_374, e170_375, e170_376, e170_378, e170_380, e170_382, e170_384, e170_386 (by simp [Value.category]), wb]
      simp only [mAft, Option.toList_some, List.cons_append, List.nil_append]
      rw [e170_389, e170_391, if_neg (fun z => z rfl), e170_394, e170_395, e170_396 (by simp [Value.category]), f0b]
      simp only [mAft, Option.toList_some, List.cons_append, List.nil_append]
      rw [e170_399, e170_401, if_neg (fun z => z rfl), e170_404, e170_405, e170_407, if_neg (not_not_intro ((oi_eq (by omega) (by omega)).mpr e1)), e170_410, e170_412, e170_414, if_pos (fun z => e2 ((oi_eq (by omega) (by omega)).mp z)), e170_429, e170_430, e170_434 (Or.inr rfl)]
  ·
      rw [e170_374, e170_375, e170_376, e170_378, e170_380, e170_382, e170_384, e170_386 (by simp [Value.category]), wb]
      simp only [mAft, Option.toList_some, List.cons_append, List.nil_append]
      rw [e170_389, e170_391, if_neg (fun z => z rfl), e170_394, e170_395, e170_396 (by simp [Value.category]), f0b]
      simp only [mAft, Option.toList_some, List.cons_append, List.nil_append]
      rw [e170_399, e170_401, if_neg (fun z => z rfl), e170_404, e170_405, e170_407, if_pos (fun z => e1 ((oi_eq (by omega) (by omega)).mp z)), e170_429, e170_430, e170_434 (Or.inr rfl)]

theorem law_isWord (H : SH oc np fr be cu mg st ar fa sl isr rq rT gone pl s cov fcl fop fg fz fe h) {c0 : Nat} (G0 : LG oc np c0 pl gone fg fz fe) (hc16 : c0 ≤ 16) {x y : Int32} : ∃ h' k', mW (mRo L xs) mTab 170 0 [some (.ref 8), some (.int x), some (.int y), none, none, none, none, none, none, none, none, none, none, none, none, none, none, none] [] h k = some (.inl (some (.int 1)), h', k') ∧ k' ≤ k + 17 ∧ ST h' := by
  have a1 : lw x 16 < 16 := lw_lt (by decide)
  have a2 : lw (x >>> (4 &&& 31)) 16 < 16 := lw_lt (by decide)
  have a3 : lw (x >>> (8 &&& 31)) 8 < 8 := lw_lt (by decide)
  have b1 : lw y 16 < 16 := lw_lt (by decide)
  have b2 : lw (y >>> (4 &&& 31)) 16 < 16 := lw_lt (by decide)
  have b3 : lw (y >>> (8 &&& 31)) 8 < 8 := lw_lt (by decide)
  have head : mW (mRo L xs) mTab 170 0 [some (.ref 8), some (.int x), some (.int y), none, none, none, none, none, none, none, none, none, none, none, none, none, none, none] [] h k = mW (mRo L xs) mTab 170 57 [some (.ref 8), some (.int x), some (.int y), some (.int (Int32.ofNat (lw x 16))), some (.int (Int32.ofNat (lw (x >>> (4 &&& 31)) 16))), some (.int (Int32.ofNat (lw (x >>> (8 &&& 31)) 8))), some (.int (Int32.ofNat (lw y 16))), some (.int (Int32.ofNat (lw (y >>> (4 &&& 31)) 16))), some (.int (Int32.ofNat (lw (y >>> (8 &&& 31)) 8))), none, none, none, none, none, none, none, none, none] [] h k := by
    rw [e170_0, e170_1, show (.int 16 : Value) = .int (Int32.ofNat 16) from rfl, e170_3 (by simp [Value.category]), (c_low (n := 16) (by decide) (by decide))]
    simp only [mAft, Option.toList_some, List.cons_append, List.nil_append]
    rw [e170_6, e170_7, e170_8, e170_9, e170_10, show (.int 16 : Value) = .int (Int32.ofNat 16) from rfl, e170_12 (by simp [Value.category]), (c_low (n := 16) (by decide) (by decide))]
    simp only [mAft, Option.toList_some, List.cons_append, List.nil_append]
    rw [e170_15, e170_17, e170_18, e170_20, e170_21, show (.int 8 : Value) = .int (Int32.ofNat 8) from rfl, e170_23 (by simp [Value.category]), (c_low (n := 8) (by decide) (by decide))]
    simp only [mAft, Option.toList_some, List.cons_append, List.nil_append]
    rw [e170_26, e170_28, e170_29, show (.int 16 : Value) = .int (Int32.ofNat 16) from rfl, e170_31 (by simp [Value.category]), (c_low (n := 16) (by decide) (by decide))]
    simp only [mAft, Option.toList_some, List.cons_append, List.nil_append]
    rw [e170_34, e170_36, e170_37, e170_38, e170_39, show (.int 16 : Value) = .int (Int32.ofNat 16) from rfl, e170_41 (by simp [Value.category]), (c_low (n := 16) (by decide) (by decide))]
    simp only [mAft, Option.toList_some, List.cons_append, List.nil_append]
    rw [e170_44, e170_46, e170_47, e170_49, e170_50, show (.int 8 : Value) = .int (Int32.ofNat 8) from rfl, e170_52 (by simp [Value.category]), (c_low (n := 8) (by decide) (by decide))]
    simp only [mAft, Option.toList_some, List.cons_append, List.nil_append]
    rw [e170_55]
  rw [head]
  clear head
  generalize lw x 16 = ax at *
  generalize lw (x >>> (4 &&& 31)) 16 = ay at *
  generalize lw (x >>> (8 &&& 31)) 8 = ah at *
  generalize lw y 16 = bx at *
  generalize lw (y >>> (4 &&& 31)) 16 = by1 at *
  generalize lw (y >>> (8 &&& 31)) 8 = bh at *
  obtain ⟨p, hp, p1, p2, p3⟩ : ∃ p, p < 2048 ∧ ax = p % 16 ∧ ay = p / 16 % 16 ∧ ah = p / 256 := ⟨256 * ah + 16 * ay + ax, by omega, by omega, by omega, by omega⟩
  obtain ⟨q, hq, q1, q2, q3⟩ : ∃ q, q < 2048 ∧ bx = q % 16 ∧ by1 = q / 16 % 16 ∧ bh = q / 256 := ⟨256 * bh + 16 * by1 + bx, by omega, by omega, by omega, by omega⟩
  subst p1 p2 p3 q1 q2 q3
  obtain ⟨h1, wd, H1⟩ := sh_word (L := L) (xs := xs) (k := k) H hp hq
  have f0 : mW (mRo L xs) mTab 166 0 [some (.ref 8), some (.int 0), none] [] h1 k = _ := sh_found (L := L) (xs := xs) (k := k) H1 (w := 0) (by decide)
  have f1 : mW (mRo L xs) mTab 166 0 [some (.ref 8), some (.int 1), none] [] h1 k = _ := sh_found (L := L) (xs := xs) (k := k) H1 (w := 1) (by decide)
  have f2 : mW (mRo L xs) mTab 166 0 [some (.ref 8), some (.int 2), none] [] h1 k = _ := sh_found (L := L) (xs := xs) (k := k) H1 (w := 2) (by decide)
  have f3 : mW (mRo L xs) mTab 166 0 [some (.ref 8), some (.int 3), none] [] h1 k = _ := sh_found (L := L) (xs := xs) (k := k) H1 (w := 3) (by decide)
  by_cases z : (wFd p q s.2.2).2.1 = 0
  · rw [if_pos z] at wd f0 f1 f2 f3
    refine ⟨h1, k, ?_, by omega, ⟨_, _, _, _, _, _, _, _, _, _, _, _, _, _, _, _, _, _, _, _, _, _, c0, H1, G0, hc16⟩⟩
    rw [e170_57, e170_58, e170_59, e170_61, e170_63, e170_65, e170_67, e170_69 (by simp [Value.category]), wd]
    simp only [mAft, Option.toList_some, List.cons_append, List.nil_append]
    rw [e170_72, e170_74, e170_75, e170_76 (by simp [Value.category]), f0]
    simp only [mAft, Option.toList_some, List.cons_append, List.nil_append]
    rw [e170_79, e170_81, e170_82, e170_83 (by simp [Value.category]), f1]
    simp only [mAft, Option.toList_some, List.cons_append, List.nil_append]
    rw [e170_86, e170_88, e170_89, e170_90 (by simp [Value.category]), f2]
    simp only [mAft, Option.toList_some, List.cons_append, List.nil_append]
    rw [e170_93, e170_95, e170_96, e170_97 (by simp [Value.category]), f3]
    simp only [mAft, Option.toList_some, List.cons_append, List.nil_append]
    rw [e170_100]
    rw [e170_102, e170_104, e170_105, if_neg (by decide), e170_108, e170_110, e170_111, if_neg (by decide), e170_114, e170_116, e170_117, if_neg (by decide), e170_120, e170_122, e170_123, if_neg (by decide), e170_126, e170_128, e170_129, if_neg (by decide), e170_132, e170_133, e170_137 (Or.inr rfl)]
  · rw [if_neg z] at wd f0 f1 f2 f3
    rw [if_pos rfl] at f0
    rw [if_neg (by decide), if_pos rfl] at f1
    rw [if_neg (by decide), if_neg (by decide), if_pos rfl] at f2
    rw [if_neg (by decide), if_neg (by decide), if_neg (by decide)] at f3
    refine ⟨h1, k + 1, ?_, by omega, ⟨_, _, _, _, _, _, _, _, _, _, _, _, _, _, _, _, _, _, _, _, _, _, c0, H1, G0, hc16⟩⟩
    have cz : p = q → (wFd p q s.2.2).1 = 0 := fun e => by rw [e]; exact wFd_self q _
    have cL := (sh_bd H1).2.2.2.1.2.1
    obtain ⟨w, a, b, c, e, ⟨⟨w6, a8, bn, c8⟩, _, _, hh⟩⟩ := wFd_ok p q s.2.2 z
    have we := fun (l1 l2 l11 l12 l13 l14 l15 l16 l17 : Option Value) => word_end1 (L := L) (xs := xs) (k := k) H1 hp hq (l1 := l1) (l2 := l2) (l11 := l11) (l12 := l12) (l13 := l13) (l14 := l14) (l15 := l15) (l16 := l16) (l17 := l17) (co := (wFd p q s.2.2).1) (kd := w) w6 (by rw [e]) cz cL
    rw [e] at wd f0 f1 f2 f3 we cL
    dsimp only at wd f0 f1 f2 f3 we cL
    rw [Nat.add_sub_cancel] at f0
    rw [e170_57, e170_58, e170_59, e170_61, e170_63, e170_65, e170_67, e170_69 (by simp [Value.category]), wd]
    simp only [mAft, Option.toList_some, List.cons_append, List.nil_append]
    rw [e170_72, e170_74, e170_75, e170_76 (by simp [Value.category]), f0]
    simp only [mAft, Option.toList_some, List.cons_append, List.nil_append]
    rw [e170_79, e170_81, e170_82, e170_83 (by simp [Value.category]), f1]
    simp only [mAft, Option.toList_some, List.cons_append, List.nil_append]
    rw [e170_86, e170_88, e170_89, e170_90 (by simp [Value.category]), f2]
    simp only [mAft, Option.toList_some, List.cons_append, List.nil_append]
    rw [e170_93, e170_95, e170_96, e170_97 (by simp [Value.category]), f3]
    simp only [mAft, Option.toList_some, List.cons_append, List.nil_append]
    rw [e170_100]
    obtain rfl | rfl | rfl | rfl | rfl | rfl : w = 0 ∨ w = 1 ∨ w = 2 ∨ w = 3 ∨ w = 4 ∨ w = 5 := by omega

    · have bn' : b < 16 := bn
      have wo := wo_0 (g := p / 256) (by omega) a8 (show b < 16 from bn) c8
      clear bn
      have wo1 := wo.1.trans (congrArg Int32.ofNat hh)
      rw [e170_102, e170_104, e170_105, if_pos (nmb (by omega)), e170_138, e170_140, if_neg (by decide), e170_143, e170_145, e170_146, e170_148, e170_149, e170_219, e170_221, e170_223, e170_224, if_neg (by decide), e170_227, e170_228, e170_232, e170_234, e170_236, e170_238, e170_240, e170_241, e170_242, e170_244, if_neg (by decide), e170_247, e170_249, e170_254, e170_256, e170_257, e170_258, e170_260, e170_262, e170_264, e170_266, e170_267, e170_268, e170_270, if_neg (by decide), e170_273, e170_275, e170_280, e170_282, e170_283, e170_284, e170_286, e170_288, if_neg (by decide), e170_291, e170_293, e170_295, if_neg (by decide), e170_298, e170_300, if_neg (oi_nneg (by omega)), e170_303, e170_305, e170_307, if_neg (by rw [show (8 : Int32) = Int32.ofNat 8 from rfl, oi_le (by decide) (by omega)]; omega), e170_310, e170_312, if_neg (oi_nneg (by omega)), e170_315, e170_317, e170_319, if_neg (by decide), e170_322, e170_324, e170_329, if_neg (by rw [show (16 : Int32) = Int32.ofNat 16 from rfl, oi_le (by decide) (by omega)]; omega), e170_332, e170_334, if_neg (oi_nneg (by omega)), e170_337, e170_339, e170_341, if_neg (by rw [show (8 : Int32) = Int32.ofNat 8 from rfl, oi_le (by decide) (by omega)]; omega), e170_344, e170_346, e170_348, if_neg wo.2.1, e170_351, e170_353, e170_355, if_neg wo.2.2, e170_358, e170_360, e170_362, e170_363, e170_365, e170_366, e170_368 (by decide), e170_369, e170_371, if_neg (not_not_intro wo1)]
      exact we _ _ _ _ _ _ _ _ _
    · have bn' : b < 16 := bn
      have wo := wo_1 (g := p / 256) (by omega) a8 (show b < 16 from bn) c8
      clear bn
      have wo1 := wo.1.trans (congrArg Int32.ofNat hh)
      rw [e170_102, e170_104, e170_105, if_pos (nmb (by omega)), e170_138, e170_140, if_pos (by decide), e170_152, e170_154, e170_155, if_neg (by decide), e170_158, e170_160, e170_162, e170_163, e170_219, e170_221, e170_223, e170_224, if_neg (by decide), e170_227, e170_228, e170_232, e170_234, e170_236, e170_238, e170_240, e170_241, e170_242, e170_244, if_neg (by decide), e170_247, e170_249, e170_254, e170_256, e170_257, e170_258, e170_260, e170_262, e170_264, e170_266, e170_267, e170_268, e170_270, if_neg (by decide), e170_273, e170_275, e170_280, e170_282, e170_283, e170_284, e170_286, e170_288, if_neg (by decide), e170_291, e170_293, e170_295, if_neg (by decide), e170_298, e170_300, if_neg (oi_nneg (by omega)), e170_303, e170_305, e170_307, if_neg (by rw [show (8 : Int32) = Int32.ofNat 8 from rfl, oi_le (by decide) (by omega)]; omega), e170_310, e170_312, if_neg (oi_nneg (by omega)), e170_315, e170_317, e170_319, if_neg (by decide), e170_322, e170_324, e170_329, if_neg (by rw [show (16 : Int32) = Int32.ofNat 16 from rfl, oi_le (by decide) (by omega)]; omega), e170_332, e170_334, if_neg (oi_nneg (by omega)), e170_337, e170_339, e170_341, if_neg (by rw [show (8 : Int32) = Int32.ofNat 8 from rfl, oi_le (by decide) (by omega)]; omega), e170_344, e170_346, e170_348, if_neg wo.2.1, e170_351, e170_353, e170_355, if_neg wo.2.2, e170_358, e170_360, e170_362, e170_363, e170_365, e170_366, e170_368 (by decide), e170_369, e170_371, if_neg (not_not_intro wo1)]
      exact we _ _ _ _ _ _ _ _ _
    · have bn' : b < 16 := bn
      have wo := wo_2 (g := p / 256) (by omega) a8 (show b < 16 from bn) c8
      clear bn
      have wo1 := wo.1.trans (congrArg Int32.ofNat hh)
      rw [e170_102, e170_104, e170_105, if_pos (nmb (by omega)), e170_138, e170_140, if_pos (by decide), e170_152, e170_154, e170_155, if_pos (by decide), e170_166, e170_168, e170_169, if_neg (by decide), e170_172, e170_174, e170_176, e170_177, e170_219, e170_221, e170_223, e170_224, if_neg (by decide), e170_227, e170_228, e170_232, e170_234, e170_236, e170_238, e170_240, e170_241, e170_242, e170_244, if_neg (by decide), e170_247, e170_249, e170_254, e170_256, e170_257, e170_258, e170_260, e170_262, e170_264, e170_266, e170_267, e170_268, e170_270, if_neg (by decide), e170_273, e170_275, e170_280, e170_282, e170_283, e170_284, e170_286, e170_288, if_neg (by decide), e170_291, e170_293, e170_295, if_neg (by decide), e170_298, e170_300, if_neg (oi_nneg (by omega)), e170_303, e170_305, e170_307, if_neg (by rw [show (8 : Int32) = Int32.ofNat 8 from rfl, oi_le (by decide) (by omega)]; omega), e170_310, e170_312, if_neg (oi_nneg (by omega)), e170_315, e170_317, e170_319, if_neg (by decide), e170_322, e170_324, e170_329, if_neg (by rw [show (16 : Int32) = Int32.ofNat 16 from rfl, oi_le (by decide) (by omega)]; omega), e170_332, e170_334, if_neg (oi_nneg (by omega)), e170_337, e170_339, e170_341, if_neg (by rw [show (8 : Int32) = Int32.ofNat 8 from rfl, oi_le (by decide) (by omega)]; omega), e170_344, e170_346, e170_348, if_neg wo.2.1, e170_351, e170_353, e170_355, if_neg wo.2.2, e170_358, e170_360, e170_362, e170_363, e170_365, e170_366, e170_368 (by decide), e170_369, e170_371, if_neg (not_not_intro wo1)]
      exact we _ _ _ _ _ _ _ _ _
    · have bn' : b < 16 := bn
      have wo := wo_3 (g := p / 256) (by omega) a8 (show b < 16 from bn) c8
      clear bn
      have wo1 := wo.1.trans (congrArg Int32.ofNat hh)
      rw [e170_102, e170_104, e170_105, if_pos (nmb (by omega)), e170_138, e170_140, if_pos (by decide), e170_152, e170_154, e170_155, if_pos (by decide), e170_166, e170_168, e170_169, if_pos (by decide), e170_180, e170_182, e170_183, if_neg (by decide), e170_186, e170_188, e170_190, e170_191, e170_219, e170_221, e170_223, e170_224, if_neg (by decide), e170_227, e170_228, e170_232, e170_234, e170_236, e170_238, e170_240, e170_241, e170_242, e170_244, if_neg (by decide), e170_247, e170_249, e170_254, e170_256, e170_257, e170_258, e170_260, e170_262, e170_264, e170_266, e170_267, e170_268, e170_270, if_neg (by decide), e170_273, e170_275, e170_280, e170_282, e170_283, e170_284, e170_286, e170_288, if_neg (by decide), e170_291, e170_293, e170_295, if_neg (by decide), e170_298, e170_300, if_neg (oi_nneg (by omega)), e170_303, e170_305, e170_307, if_neg (by rw [show (8 : Int32) = Int32.ofNat 8 from rfl, oi_le (by decide) (by omega)]; omega), e170_310, e170_312, if_neg (oi_nneg (by omega)), e170_315, e170_317, e170_319, if_neg (by decide), e170_322, e170_324, e170_329, if_neg (by rw [show (16 : Int32) = Int32.ofNat 16 from rfl, oi_le (by decide) (by omega)]; omega), e170_332, e170_334, if_neg (oi_nneg (by omega)), e170_337, e170_339, e170_341, if_neg (by rw [show (8 : Int32) = Int32.ofNat 8 from rfl, oi_le (by decide) (by omega)]; omega), e170_344, e170_346, e170_348, if_neg wo.2.1, e170_351, e170_353, e170_355, if_neg wo.2.2, e170_358, e170_360, e170_362, e170_363, e170_365, e170_366, e170_368 (by decide), e170_369, e170_371, if_neg (not_not_intro wo1)]
      exact we _ _ _ _ _ _ _ _ _
    · have bn' : b < 8 := bn
      have wo := wo_4 (g := p / 256) (by omega) a8 (show b < 8 from bn) c8
      clear bn
      have wo1 := wo.1.trans (congrArg Int32.ofNat hh)
      rw [e170_102, e170_104, e170_105, if_pos (nmb (by omega)), e170_138, e170_140, if_pos (by decide), e170_152, e170_154, e170_155, if_pos (by decide), e170_166, e170_168, e170_169, if_pos (by decide), e170_180, e170_182, e170_183, if_pos (by decide), e170_194, e170_196, e170_197, if_neg (by decide), e170_200, e170_202, e170_204, e170_205, e170_207, e170_208, e170_219, e170_221, e170_223, e170_224, if_pos (by decide), e170_231, e170_232, e170_234, e170_236, e170_238, e170_240, e170_241, e170_242, e170_244, if_pos (by decide), e170_252, e170_254, e170_256, e170_257, e170_258, e170_260, e170_262, e170_264, e170_266, e170_267, e170_268, e170_270, if_pos (by decide), e170_278, e170_280, e170_282, e170_283, e170_284, e170_286, e170_288, if_neg (by decide), e170_291, e170_293, e170_295, if_neg (by decide), e170_298, e170_300, if_neg (oi_nneg (by omega)), e170_303, e170_305, e170_307, if_neg (by rw [show (8 : Int32) = Int32.ofNat 8 from rfl, oi_le (by decide) (by omega)]; omega), e170_310, e170_312, if_neg (oi_nneg (by omega)), e170_315, e170_317, e170_319, if_pos (by decide), e170_327, e170_329, if_neg (by rw [show (8 : Int32) = Int32.ofNat 8 from rfl, oi_le (by decide) (by omega)]; omega), e170_332, e170_334, if_neg (oi_nneg (by omega)), e170_337, e170_339, e170_341, if_neg (by rw [show (8 : Int32) = Int32.ofNat 8 from rfl, oi_le (by decide) (by omega)]; omega), e170_344, e170_346, e170_348, if_neg wo.2.1, e170_351, e170_353, e170_355, if_neg wo.2.2, e170_358, e170_360, e170_362, e170_363, e170_365, e170_366, e170_368 (by decide), e170_369, e170_371, if_neg (not_not_intro wo1)]
      exact we _ _ _ _ _ _ _ _ _
    · have bn' : b < 8 := bn
      have wo := wo_5 (g := p / 256) (by omega) a8 (show b < 8 from bn) c8
      clear bn
      have wo1 := wo.1.trans (congrArg Int32.ofNat hh)
      rw [e170_102, e170_104, e170_105, if_pos (nmb (by omega)), e170_138, e170_140, if_pos (by decide), e170_152, e170_154, e170_155, if_pos (by decide), e170_166, e170_168, e170_169, if_pos (by decide), e170_180, e170_182, e170_183, if_pos (by decide), e170_194, e170_196, e170_197, if_pos (by decide), e170_211, e170_213, e170_215, e170_216, e170_218, e170_219, e170_221, e170_223, e170_224, if_pos (by decide), e170_231, e170_232, e170_234, e170_236, e170_238, e170_240, e170_241, e170_242, e170_244, if_pos (by decide), e170_252, e170_254, e170_256, e170_257, e170_258, e170_260, e170_262, e170_264, e170_266, e170_267, e170_268, e170_270, if_pos (by decide), e170_278, e170_280, e170_282, e170_283, e170_284, e170_286, e170_288, if_neg (by decide), e170_291, e170_293, e170_295, if_neg (by decide), e170_298, e170_300, if_neg (oi_nneg (by omega)), e170_303, e170_305, e170_307, if_neg (by rw [show (8 : Int32) = Int32.ofNat 8 from rfl, oi_le (by decide) (by omega)]; omega), e170_310, e170_312, if_neg (oi_nneg (by omega)), e170_315, e170_317, e170_319, if_pos (by decide), e170_327, e170_329, if_neg (by rw [show (8 : Int32) = Int32.ofNat 8 from rfl, oi_le (by decide) (by omega)]; omega), e170_332, e170_334, if_neg (oi_nneg (by omega)), e170_337, e170_339, e170_341, if_neg (by rw [show (8 : Int32) = Int32.ofNat 8 from rfl, oi_le (by decide) (by omega)]; omega), e170_344, e170_346, e170_348, if_neg wo.2.1, e170_351, e170_353, e170_355, if_neg wo.2.2, e170_358, e170_360, e170_362, e170_363, e170_365, e170_366, e170_368 (by decide), e170_369, e170_371, if_neg (not_not_intro wo1)]
      exact we _ _ _ _ _ _ _ _ _
end
