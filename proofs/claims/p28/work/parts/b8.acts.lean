section
variable {L : Nat} {xs : Nat → Int32} {k : Nat} {h : List mCel}

variable {oc np fr be cu mg st ar fa sl isr rq : Nat} {rT : List (Nat × Nat)} {gone : Nat → Bool} {pl : List (Nat × List (Nat × Nat))} {s : wS} {cov fcl fop fg fz fe : Nat → Int32}

theorem law_acts {x y : Int32} (S : ST h) : ∃ h' k', mW (mRo L xs) mTab 155 0 [some (.ref 8), some (.ref 42), some (.ref 43), some (.ref 44), some (.int x), some (.int y), none, none, none] [] h k = some (.inl (some (.int 1)), h', k') ∧ k' ≤ k + 17 ∧ ST h' := by
  obtain ⟨oc, np, fr, be, cu, mg, st, ar, fa, sl, isr, rq, rT, gone, pl, s, cov, fcl, fop, fg, fz, fe, c, H, G0, hc⟩ := S
  have bd := (sh_bd H).1
  have bm := (sh_bd H).2.1
  have g42 := (sh_g H).1
  have g44 := (sh_g H).2.2.1
  have k13 : lw x 13 < 13 := lw_lt (by decide)
  have head : mW (mRo L xs) mTab 155 0 [some (.ref 8), some (.ref 42), some (.ref 43), some (.ref 44), some (.int x), some (.int y), none, none, none] [] h k = mW (mRo L xs) mTab 155 9 [some (.ref 8), some (.ref 42), some (.ref 43), some (.ref 44), some (.int x), some (.int y), some (.int (Int32.ofNat (lw x 13))), none, none] [] h k := by
    rw [e155_0, e155_2, show (.int 13 : Value) = .int (Int32.ofNat 13) from rfl, e155_4 (by simp [Value.category]), (c_low (n := 13) (by decide) (by decide))]
    simp only [mAft, Option.toList_some, List.cons_append, List.nil_append]
    rw [e155_7]
  rw [head]
  clear head
  generalize lw x 13 = kd at *
  by_cases z0 : kd < 2
  · obtain ⟨h', k', b1, kk, S'⟩ := law_builds (L := L) (xs := xs) (k := k) H G0 hc (x := x >>> (4 &&& 31)) (y := y)
    refine ⟨h', k', ?_, kk, S'⟩
    rw [e155_9, e155_11, e155_12, if_neg (by rw [show (2 : Int32) = Int32.ofNat 2 from rfl, oi_le (by decide) (by omega)]; omega), e155_15, e155_16, e155_17, e155_18, e155_20, e155_21, e155_22, e155_24 (by simp [Value.category]), b1]
    simp only [mAft, Option.toList_some, List.cons_append, List.nil_append]
    rw [e155_27 (Or.inr rfl)]
  by_cases z2 : kd = 2
  · have u3 : lw y 3 < 3 := lw_lt (by decide)
    have v3 : lw (y >>> (2 &&& 31)) 3 < 3 := lw_lt (by decide)
    obtain ⟨h', fop', b1, H'⟩ := sh_vehicle (L := L) (xs := xs) (k := k) H (x := lw y 3) (y := lw (y >>> (2 &&& 31)) 3) (by omega) (by omega)
    refine ⟨h', k, ?_, by omega, ⟨_, _, _, _, _, _, _, _, _, _, _, _, _, _, _, _, _, _, _, _, _, _, c, H', G0, hc⟩⟩
    rw [e155_9, e155_11, e155_12, if_pos (by rw [show (2 : Int32) = Int32.ofNat 2 from rfl, oi_le (by decide) (by omega)]; omega), e155_28, e155_30, e155_31, if_neg (by rw [show (2 : Int32) = Int32.ofNat 2 from rfl, oi_eq (by omega) (by decide)]; omega), e155_34, e155_35, e155_37, show (.int 3 : Value) = .int (Int32.ofNat 3) from rfl, e155_38 (by simp [Value.category]), (c_low (n := 3) (by decide) (by decide))]
    simp only [mAft, Option.toList_some, List.cons_append, List.nil_append]
    rw [e155_41, e155_43, e155_44, e155_45, show (.int 3 : Value) = .int (Int32.ofNat 3) from rfl, e155_46 (by simp [Value.category]), (c_low (n := 3) (by decide) (by decide))]
    simp only [mAft, Option.toList_some, List.cons_append, List.nil_append]
    rw [e155_49 (by simp [Value.category]), b1]
    simp only [mAft, Option.toList_some, List.cons_append, List.nil_append]
    rw [e155_52, if_neg (fun z => z rfl), e155_55, e155_56, e155_60 (Or.inr rfl)]
  by_cases z3 : kd = 3
  · have u6 : lw y 6 < 6 := lw_lt (by decide)
    have v101 : lw (y >>> (3 &&& 31)) 101 < 101 := lw_lt (by decide)
    obtain ⟨h1, m1, H1⟩ := sh_margin (L := L) (xs := xs) (k := k) H (x := lw y 6) (by omega)
    obtain ⟨h2, c1, H2⟩ := sh_cusp (L := L) (xs := xs) (k := k) H1 (x := lw (y >>> (3 &&& 31)) 101) (by omega)
    obtain ⟨h3, m2, H3⟩ := sh_margin (L := L) (xs := xs) (k := k) H2 (x := lw y 6) (by omega)
    obtain ⟨h4, c2, H4⟩ := sh_cusp (L := L) (xs := xs) (k := k) H3 (x := lw (y >>> (3 &&& 31)) 101) (by omega)
    refine ⟨h4, k, ?_, by omega, ⟨_, _, _, _, _, _, _, _, _, _, _, _, _, _, _, _, _, _, _, _, _, _, c, H4, G0, hc⟩⟩
    rw [e155_9, e155_11, e155_12, if_pos (by rw [show (2 : Int32) = Int32.ofNat 2 from rfl, oi_le (by decide) (by omega)]; omega), e155_28, e155_30, e155_31, if_pos (by rw [show (2 : Int32) = Int32.ofNat 2 from rfl, oi_eq (by omega) (by decide)]; omega), e155_61, e155_63, e155_64, if_neg (by rw [show (3 : Int32) = Int32.ofNat 3 from rfl, oi_eq (by omega) (by decide)]; omega), e155_67, e155_68, e155_70, show (.int 6 : Value) = .int (Int32.ofNat 6) from rfl, e155_72 (by simp [Value.category]), (c_low (n := 6) (by decide) (by decide))]
    simp only [mAft, Option.toList_some, List.cons_append, List.nil_append]
    rw [e155_75 (by simp [Value.category]), m1]
    simp only [mAft, Option.toList_some, List.cons_append, List.nil_append]
    rw [e155_78, e155_80, e155_81, e155_83, e155_84, e155_85, show (.int 101 : Value) = .int (Int32.ofNat 101) from rfl, e155_87 (by simp [Value.category]), (c_low (n := 101) (by decide) (by decide))]
    simp only [mAft, Option.toList_some, List.cons_append, List.nil_append]
    rw [e155_90 (by simp [Value.category]), c1]
    simp only [mAft, Option.toList_some, List.cons_append, List.nil_append]
    rw [e155_93, e155_95, e155_97, if_neg (oi_nneg (by omega)), e155_100, e155_102, e155_104, if_neg (by rw [show (6 : Int32) = Int32.ofNat 6 from rfl, oi_le (by decide) (by omega)]; omega), e155_107, e155_109, if_neg (oi_nneg (by omega)), e155_112, e155_114, e155_116, if_neg (by rw [show (101 : Int32) = Int32.ofNat 101 from rfl, oi_le (by decide) (by omega)]; omega), e155_119, e155_120, e155_122, show (.int 6 : Value) = .int (Int32.ofNat 6) from rfl, e155_124 (by simp [Value.category]), (c_low (n := 6) (by decide) (by decide))]
    simp only [mAft, Option.toList_some, List.cons_append, List.nil_append]
    rw [e155_127 (by simp [Value.category]), m2]
    simp only [mAft, Option.toList_some, List.cons_append, List.nil_append]
    rw [e155_130, e155_132, show (.int 6 : Value) = .int (Int32.ofNat 6) from rfl, e155_134 (by simp [Value.category]), (c_low (n := 6) (by decide) (by decide))]
    simp only [mAft, Option.toList_some, List.cons_append, List.nil_append]
    rw [e155_137, if_neg (fun z => z rfl), e155_140, e155_141, e155_143, e155_144, e155_145, show (.int 101 : Value) = .int (Int32.ofNat 101) from rfl, e155_147 (by simp [Value.category]), (c_low (n := 101) (by decide) (by decide))]
    simp only [mAft, Option.toList_some, List.cons_append, List.nil_append]
    rw [e155_150 (by simp [Value.category]), c2]
    simp only [mAft, Option.toList_some, List.cons_append, List.nil_append]
    rw [e155_153, e155_155, e155_156, e155_157, show (.int 101 : Value) = .int (Int32.ofNat 101) from rfl, e155_159 (by simp [Value.category]), (c_low (n := 101) (by decide) (by decide))]
    simp only [mAft, Option.toList_some, List.cons_append, List.nil_append]
    rw [e155_162, if_neg (fun z => z rfl), e155_165, e155_166, e155_170 (Or.inr rfl)]
  by_cases z4 : kd = 4
  · have u1 : lw y 300 < 300 := lw_lt (by decide)
    have u2 : lw (y >>> (7 &&& 31)) 100 < 100 := lw_lt (by decide)
    have u3 : lw (y >>> (13 &&& 31)) 30 < 30 := lw_lt (by decide)
    have u4 : lw (y >>> (18 &&& 31)) 30 < 30 := lw_lt (by decide)
    obtain ⟨h', b1, H'⟩ := sh_speeds (L := L) (xs := xs) (k := k) H (a := 1 + lw y 300) (b := 1 + lw (y >>> (7 &&& 31)) 100) (c := 1 + lw (y >>> (13 &&& 31)) 30) (d := 1 + lw (y >>> (18 &&& 31)) 30) ⟨⟨by omega, by omega⟩, ⟨by omega, by omega⟩, ⟨by omega, by omega⟩, by omega, by omega⟩
    refine ⟨h', k, ?_, by omega, ⟨_, _, _, _, _, _, _, _, _, _, _, _, _, _, _, _, _, _, _, _, _, _, c, H', G0, hc⟩⟩
    rw [e155_9, e155_11, e155_12, if_pos (by rw [show (2 : Int32) = Int32.ofNat 2 from rfl, oi_le (by decide) (by omega)]; omega), e155_28, e155_30, e155_31, if_pos (by rw [show (2 : Int32) = Int32.ofNat 2 from rfl, oi_eq (by omega) (by decide)]; omega), e155_61, e155_63, e155_64, if_pos (by rw [show (3 : Int32) = Int32.ofNat 3 from rfl, oi_eq (by omega) (by decide)]; omega), e155_171, e155_173, e155_174, if_neg (by rw [show (4 : Int32) = Int32.ofNat 4 from rfl, oi_eq (by omega) (by decide)]; omega), e155_177, e155_178, e155_179, e155_181, show (.int 300 : Value) = .int (Int32.ofNat 300) from rfl, e155_184 (by simp [Value.category]), (c_low (n := 300) (by decide) (by decide))]
    simp only [mAft, Option.toList_some, List.cons_append, List.nil_append]
    rw [e155_187, one_add, e155_188, e155_189, e155_191, e155_193, e155_194, show (.int 100 : Value) = .int (Int32.ofNat 100) from rfl, e155_196 (by simp [Value.category]), (c_low (n := 100) (by decide) (by decide))]
    simp only [mAft, Option.toList_some, List.cons_append, List.nil_append]
    rw [e155_199, one_add, e155_200, e155_201, e155_203, e155_205, e155_206, show (.int 30 : Value) = .int (Int32.ofNat 30) from rfl, e155_208 (by simp [Value.category]), (c_low (n := 30) (by decide) (by decide))]
    simp only [mAft, Option.toList_some, List.cons_append, List.nil_append]
    rw [e155_211, one_add, e155_212, e155_213, e155_215, e155_217, e155_218, show (.int 30 : Value) = .int (Int32.ofNat 30) from rfl, e155_220 (by simp [Value.category]), (c_low (n := 30) (by decide) (by decide))]
    simp only [mAft, Option.toList_some, List.cons_append, List.nil_append]
    rw [e155_223, one_add, e155_224 (by simp [Value.category]), b1]
    simp only [mAft, Option.toList_some, List.cons_append, List.nil_append]
    rw [e155_227, if_neg (fun z => z rfl), e155_230, e155_231, e155_235 (Or.inr rfl)]
  by_cases z5 : kd < 7
  · by_cases zc : 15 < c
    · refine ⟨h, k, ?_, by omega, ⟨_, _, _, _, _, _, _, _, _, _, _, _, _, _, _, _, _, _, _, _, _, _, c, H, G0, hc⟩⟩
      rw [e155_9, e155_11, e155_12, if_pos (by rw [show (2 : Int32) = Int32.ofNat 2 from rfl, oi_le (by decide) (by omega)]; omega), e155_28, e155_30, e155_31, if_pos (by rw [show (2 : Int32) = Int32.ofNat 2 from rfl, oi_eq (by omega) (by decide)]; omega), e155_61, e155_63, e155_64, if_pos (by rw [show (3 : Int32) = Int32.ofNat 3 from rfl, oi_eq (by omega) (by decide)]; omega), e155_171, e155_173, e155_174, if_pos (by rw [show (4 : Int32) = Int32.ofNat 4 from rfl, oi_eq (by omega) (by decide)]; omega), e155_236, e155_238, e155_240, if_neg (by rw [show (7 : Int32) = Int32.ofNat 7 from rfl, oi_le (by decide) (by omega)]; omega), e155_243, e155_244, e155_245, rd (J := 3) (j := 3) g42 rfl (by decide) (by decide), e155_246, e155_248, if_pos (by rw [G0.2.2.2.1, show (15 : Int32) = Int32.ofNat 15 from rfl, oi_lt (by decide) (by omega)]; omega), e155_266, e155_267, e155_271 (Or.inr rfl)]
    · obtain ⟨h', k', b1, kk, S'⟩ := law_plans (L := L) (xs := xs) (k := k) H G0 (by omega) (x := x >>> (4 &&& 31)) (y := y)
      refine ⟨h', k', ?_, kk, S'⟩
      rw [e155_9, e155_11, e155_12, if_pos (by rw [show (2 : Int32) = Int32.ofNat 2 from rfl, oi_le (by decide) (by omega)]; omega), e155_28, e155_30, e155_31, if_pos (by rw [show (2 : Int32) = Int32.ofNat 2 from rfl, oi_eq (by omega) (by decide)]; omega), e155_61, e155_63, e155_64, if_pos (by rw [show (3 : Int32) = Int32.ofNat 3 from rfl, oi_eq (by omega) (by decide)]; omega), e155_171, e155_173, e155_174, if_pos (by rw [show (4 : Int32) = Int32.ofNat 4 from rfl, oi_eq (by omega) (by decide)]; omega), e155_236, e155_238, e155_240, if_neg (by rw [show (7 : Int32) = Int32.ofNat 7 from rfl, oi_le (by decide) (by omega)]; omega), e155_243, e155_244, e155_245, rd (J := 3) (j := 3) g42 rfl (by decide) (by decide), e155_246, e155_248, if_neg (by rw [G0.2.2.2.1, show (15 : Int32) = Int32.ofNat 15 from rfl, oi_lt (by decide) (by omega)]; omega), e155_251, e155_252, e155_253, e155_254, e155_256, e155_257, e155_258, e155_260 (by simp [Value.category]), b1]
      simp only [mAft, Option.toList_some, List.cons_append, List.nil_append]
      rw [e155_263, if_neg (by decide), e155_266, e155_267, e155_271 (Or.inr rfl)]
  by_cases z7 : kd < 9
  · obtain ⟨h', k', b1, kk, S'⟩ := law_drives (L := L) (xs := xs) (k := k) H G0 hc (x := x >>> (4 &&& 31)) (y := y)
    refine ⟨h', k', ?_, kk, S'⟩
    rw [e155_9, e155_11, e155_12, if_pos (by rw [show (2 : Int32) = Int32.ofNat 2 from rfl, oi_le (by decide) (by omega)]; omega), e155_28, e155_30, e155_31, if_pos (by rw [show (2 : Int32) = Int32.ofNat 2 from rfl, oi_eq (by omega) (by decide)]; omega), e155_61, e155_63, e155_64, if_pos (by rw [show (3 : Int32) = Int32.ofNat 3 from rfl, oi_eq (by omega) (by decide)]; omega), e155_171, e155_173, e155_174, if_pos (by rw [show (4 : Int32) = Int32.ofNat 4 from rfl, oi_eq (by omega) (by decide)]; omega), e155_236, e155_238, e155_240, if_pos (by rw [show (7 : Int32) = Int32.ofNat 7 from rfl, oi_le (by decide) (by omega)]; omega), e155_272, e155_274, e155_276, if_neg (by rw [show (9 : Int32) = Int32.ofNat 9 from rfl, oi_le (by decide) (by omega)]; omega), e155_279, e155_280, e155_281, e155_282, e155_284, e155_285, e155_286, e155_288 (by simp [Value.category]), b1]
    simp only [mAft, Option.toList_some, List.cons_append, List.nil_append]
    rw [e155_291 (Or.inr rfl)]
  by_cases z9 : kd = 9
  · obtain ⟨h', k', b1, kk, S'⟩ := law_isWord (L := L) (xs := xs) (k := k) H G0 hc (x := x >>> (4 &&& 31)) (y := y)
    refine ⟨h', k', ?_, kk, S'⟩
    rw [e155_9, e155_11, e155_12, if_pos (by rw [show (2 : Int32) = Int32.ofNat 2 from rfl, oi_le (by decide) (by omega)]; omega), e155_28, e155_30, e155_31, if_pos (by rw [show (2 : Int32) = Int32.ofNat 2 from rfl, oi_eq (by omega) (by decide)]; omega), e155_61, e155_63, e155_64, if_pos (by rw [show (3 : Int32) = Int32.ofNat 3 from rfl, oi_eq (by omega) (by decide)]; omega), e155_171, e155_173, e155_174, if_pos (by rw [show (4 : Int32) = Int32.ofNat 4 from rfl, oi_eq (by omega) (by decide)]; omega), e155_236, e155_238, e155_240, if_pos (by rw [show (7 : Int32) = Int32.ofNat 7 from rfl, oi_le (by decide) (by omega)]; omega), e155_272, e155_274, e155_276, if_pos (by rw [show (9 : Int32) = Int32.ofNat 9 from rfl, oi_le (by decide) (by omega)]; omega), e155_292, e155_294, e155_296, if_neg (by rw [show (9 : Int32) = Int32.ofNat 9 from rfl, oi_eq (by omega) (by decide)]; omega), e155_299, e155_300, e155_302, e155_303, e155_304, e155_306 (by simp [Value.category]), b1]
    simp only [mAft, Option.toList_some, List.cons_append, List.nil_append]
    rw [e155_309 (Or.inr rfl)]
  by_cases z10 : kd = 10
  · have b1 := law_isField (L := L) (xs := xs) (k := k) H (v := y) (l2 := none) (l3 := none) (l4 := none) (l5 := none) (l6 := none) (l7 := none)
    refine ⟨h, k + 1, ?_, by omega, ⟨_, _, _, _, _, _, _, _, _, _, _, _, _, _, _, _, _, _, _, _, _, _, c, H, G0, hc⟩⟩
    rw [e155_9, e155_11, e155_12, if_pos (by rw [show (2 : Int32) = Int32.ofNat 2 from rfl, oi_le (by decide) (by omega)]; omega), e155_28, e155_30, e155_31, if_pos (by rw [show (2 : Int32) = Int32.ofNat 2 from rfl, oi_eq (by omega) (by decide)]; omega), e155_61, e155_63, e155_64, if_pos (by rw [show (3 : Int32) = Int32.ofNat 3 from rfl, oi_eq (by omega) (by decide)]; omega), e155_171, e155_173, e155_174, if_pos (by rw [show (4 : Int32) = Int32.ofNat 4 from rfl, oi_eq (by omega) (by decide)]; omega), e155_236, e155_238, e155_240, if_pos (by rw [show (7 : Int32) = Int32.ofNat 7 from rfl, oi_le (by decide) (by omega)]; omega), e155_272, e155_274, e155_276, if_pos (by rw [show (9 : Int32) = Int32.ofNat 9 from rfl, oi_le (by decide) (by omega)]; omega), e155_292, e155_294, e155_296, if_pos (by rw [show (9 : Int32) = Int32.ofNat 9 from rfl, oi_eq (by omega) (by decide)]; omega), e155_310, e155_312, e155_314, if_neg (by rw [show (10 : Int32) = Int32.ofNat 10 from rfl, oi_eq (by omega) (by decide)]; omega), e155_317, e155_318, e155_320 (by simp [Value.category]), b1]
    simp only [mAft, Option.toList_some, List.cons_append, List.nil_append]
    rw [e155_323 (Or.inr rfl)]
  by_cases zl : pl.length = 0
  · have b1 : mW (mRo L xs) mTab 178 0 [some (.ref 8), some (.int 0), some (.int 0), none] [] h k = _ := sh_planOfNone (L := L) (xs := xs) (k := k) H (i := 0) (by decide) (by rw [List.getElem?_eq_none (by omega)]) 0
    refine ⟨h, k + 1, ?_, by omega, ⟨_, _, _, _, _, _, _, _, _, _, _, _, _, _, _, _, _, _, _, _, _, _, c, H, G0, hc⟩⟩
    rw [e155_9, e155_11, e155_12, if_pos (by rw [show (2 : Int32) = Int32.ofNat 2 from rfl, oi_le (by decide) (by omega)]; omega), e155_28, e155_30, e155_31, if_pos (by rw [show (2 : Int32) = Int32.ofNat 2 from rfl, oi_eq (by omega) (by decide)]; omega), e155_61, e155_63, e155_64, if_pos (by rw [show (3 : Int32) = Int32.ofNat 3 from rfl, oi_eq (by omega) (by decide)]; omega), e155_171, e155_173, e155_174, if_pos (by rw [show (4 : Int32) = Int32.ofNat 4 from rfl, oi_eq (by omega) (by decide)]; omega), e155_236, e155_238, e155_240, if_pos (by rw [show (7 : Int32) = Int32.ofNat 7 from rfl, oi_le (by decide) (by omega)]; omega), e155_272, e155_274, e155_276, if_pos (by rw [show (9 : Int32) = Int32.ofNat 9 from rfl, oi_le (by decide) (by omega)]; omega), e155_292, e155_294, e155_296, if_pos (by rw [show (9 : Int32) = Int32.ofNat 9 from rfl, oi_eq (by omega) (by decide)]; omega), e155_310, e155_312, e155_314, if_pos (by rw [show (10 : Int32) = Int32.ofNat 10 from rfl, oi_eq (by omega) (by decide)]; omega), e155_324, e155_325, e155_326, rd (J := 2) (j := 2) g42 rfl (by decide) (by decide), e155_327, if_neg (by rw [G0.2.2.1, zl]; exact fun z => z rfl), e155_330, e155_331, e155_332, e155_333 (by simp [Value.category]), b1]
    simp only [mAft, Option.toList_some, List.cons_append, List.nil_append]
    rw [e155_336, e155_338, if_neg (fun z => z rfl), e155_341, e155_342, e155_346 (Or.inr rfl)]
  have il : lw y pl.length < pl.length := lw_lt (by omega)
  by_cases z11 : kd = 11
  · obtain ⟨h', k', b1, kk, S'⟩ := law_shortens (L := L) (xs := xs) (k := k) H G0 hc il
    refine ⟨h', k', ?_, kk, S'⟩
    rw [e155_9, e155_11, e155_12, if_pos (by rw [show (2 : Int32) = Int32.ofNat 2 from rfl, oi_le (by decide) (by omega)]; omega), e155_28, e155_30, e155_31, if_pos (by rw [show (2 : Int32) = Int32.ofNat 2 from rfl, oi_eq (by omega) (by decide)]; omega), e155_61, e155_63, e155_64, if_pos (by rw [show (3 : Int32) = Int32.ofNat 3 from rfl, oi_eq (by omega) (by decide)]; omega), e155_171, e155_173, e155_174, if_pos (by rw [show (4 : Int32) = Int32.ofNat 4 from rfl, oi_eq (by omega) (by decide)]; omega), e155_236, e155_238, e155_240, if_pos (by rw [show (7 : Int32) = Int32.ofNat 7 from rfl, oi_le (by decide) (by omega)]; omega), e155_272, e155_274, e155_276, if_pos (by rw [show (9 : Int32) = Int32.ofNat 9 from rfl, oi_le (by decide) (by omega)]; omega), e155_292, e155_294, e155_296, if_pos (by rw [show (9 : Int32) = Int32.ofNat 9 from rfl, oi_eq (by omega) (by decide)]; omega), e155_310, e155_312, e155_314, if_pos (by rw [show (10 : Int32) = Int32.ofNat 10 from rfl, oi_eq (by omega) (by decide)]; omega), e155_324, e155_325, e155_326, rd (J := 2) (j := 2) g42 rfl (by decide) (by decide), e155_327, if_pos (by rw [G0.2.2.1]; exact fun z => zl (by have := congrArg Int32.toInt z; rw [oi_int (by omega)] at this; have h2 : (0 : Int32).toInt = 0 := rfl; omega)), e155_347, e155_349, e155_350, e155_351, rd (J := 2) (j := 2) g42 rfl (by decide) (by decide), G0.2.2.1, e155_352 (by simp [Value.category]), (c_low (n := pl.length) (by omega) zl)]
    simp only [mAft, Option.toList_some, List.cons_append, List.nil_append]
    rw [e155_355, e155_357, e155_359, e155_361, if_neg (by rw [show (11 : Int32) = Int32.ofNat 11 from rfl, oi_eq (by omega) (by decide)]; omega), e155_364, e155_365, e155_366, e155_368 (by simp [Value.category]), b1]
    simp only [mAft, Option.toList_some, List.cons_append, List.nil_append]
    rw [e155_371, e155_394 (Or.inr rfl)]
  · obtain ⟨q, T, hi, hP⟩ := sh_at H il
    have fe12 := G0.2.2.2.2.2 _ (q, T) hi
    have fe1 : fe (2 * lw y pl.length) = told q := fe12.1
    have fe2 : fe (2 * lw y pl.length + 1) = told (Sho.fin q T) := fe12.2
    have e2i : (2 : Int32) * Int32.ofNat (lw y pl.length) = Int32.ofNat (2 * lw y pl.length) := (oi_mul 2 _).symm
    have e2j : (2 : Int32) * Int32.ofNat (lw y pl.length) + 1 = Int32.ofNat (2 * lw y pl.length + 1) := by rw [e2i, oi_i1]
    have j1 : 2 * lw y pl.length < 24 := by omega
    have j2 : 2 * lw y pl.length + 1 < 24 := by omega
    obtain ⟨h', b1, H'⟩ := law_isPlan (L := L) (xs := xs) (k := k) H hi hP (l4 := none) (l5 := none) (l6 := none) (l7 := none) (l8 := none) (l9 := none) (l10 := none) (l11 := none) (l12 := none)
    refine ⟨h', k + 5, ?_, by omega, ⟨_, _, _, _, _, _, _, _, _, _, _, _, _, _, _, _, _, _, _, _, _, _, c, H', G0, hc⟩⟩
    rw [e155_9, e155_11, e155_12, if_pos (by rw [show (2 : Int32) = Int32.ofNat 2 from rfl, oi_le (by decide) (by omega)]; omega), e155_28, e155_30, e155_31, if_pos (by rw [show (2 : Int32) = Int32.ofNat 2 from rfl, oi_eq (by omega) (by decide)]; omega), e155_61, e155_63, e155_64, if_pos (by rw [show (3 : Int32) = Int32.ofNat 3 from rfl, oi_eq (by omega) (by decide)]; omega), e155_171, e155_173, e155_174, if_pos (by rw [show (4 : Int32) = Int32.ofNat 4 from rfl, oi_eq (by omega) (by decide)]; omega), e155_236, e155_238, e155_240, if_pos (by rw [show (7 : Int32) = Int32.ofNat 7 from rfl, oi_le (by decide) (by omega)]; omega), e155_272, e155_274, e155_276, if_pos (by rw [show (9 : Int32) = Int32.ofNat 9 from rfl, oi_le (by decide) (by omega)]; omega), e155_292, e155_294, e155_296, if_pos (by rw [show (9 : Int32) = Int32.ofNat 9 from rfl, oi_eq (by omega) (by decide)]; omega), e155_310, e155_312, e155_314, if_pos (by rw [show (10 : Int32) = Int32.ofNat 10 from rfl, oi_eq (by omega) (by decide)]; omega), e155_324, e155_325, e155_326, rd (J := 2) (j := 2) g42 rfl (by decide) (by decide), e155_327, if_pos (by rw [G0.2.2.1]; exact fun z => zl (by have := congrArg Int32.toInt z; rw [oi_int (by omega)] at this; have h2 : (0 : Int32).toInt = 0 := rfl; omega)), e155_347, e155_349, e155_350, e155_351, rd (J := 2) (j := 2) g42 rfl (by decide) (by decide), G0.2.2.1, e155_352 (by simp [Value.category]), (c_low (n := pl.length) (by omega) zl)]
    simp only [mAft, Option.toList_some, List.cons_append, List.nil_append]
    rw [e155_355, e155_357, e155_359, e155_361, if_pos (by rw [show (11 : Int32) = Int32.ofNat 11 from rfl, oi_eq (by omega) (by decide)]; omega), e155_374, e155_375, e155_377, e155_378, e155_379, e155_381, e155_382, rd g44 e2i j1 (by decide), e155_383, e155_384, e155_385, e155_387, e155_388, e155_389, e155_390, rd g44 e2j j2 (by decide), fe1, fe2, e155_391 (by simp [Value.category]), b1]
    simp only [mAft, Option.toList_some, List.cons_append, List.nil_append]
    rw [e155_394 (Or.inr rfl)]
end
