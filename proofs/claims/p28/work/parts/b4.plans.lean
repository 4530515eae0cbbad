section
variable {L : Nat} {xs : Nat → Int32} {k : Nat} {h : List mCel}

variable {oc np fr be cu mg st ar fa sl isr rq : Nat} {rT : List (Nat × Nat)} {gone : Nat → Bool} {pl : List (Nat × List (Nat × Nat))} {s : wS} {cov fcl fop fg fz fe : Nat → Int32}

theorem pn_head {x y : Int32} : ∃ p q rv, p < 2048 ∧ q < 2048 ∧ rv < 2 ∧ mW (mRo L xs) mTab 179 0 [some (.ref 8), some (.ref 42), some (.ref 44), some (.int x), some (.int y), none, none, none, none, none, none, none, none, none, none, none] [] h k = mW (mRo L xs) mTab 179 80 [some (.ref 8), some (.ref 42), some (.ref 44), some (.int x), some (.int y), some (.int (Int32.ofNat (p % 16))), some (.int (Int32.ofNat (p / 16 % 16))), some (.int (Int32.ofNat (p / 256))), some (.int (Int32.ofNat (q % 16))), some (.int (Int32.ofNat (q / 16 % 16))), some (.int (Int32.ofNat (q / 256))), some (.int (Int32.ofNat rv)), none, none, none, none] [] h k := by
  have a1 : lw x 16 < 16 := lw_lt (by decide)
  have a2 : lw (x >>> (4 &&& 31)) 16 < 16 := lw_lt (by decide)
  have a3 : lw (x >>> (8 &&& 31)) 8 < 8 := lw_lt (by decide)
  have b1 : lw y 16 < 16 := lw_lt (by decide)
  have b2 : lw (y >>> (4 &&& 31)) 16 < 16 := lw_lt (by decide)
  have b3 : lw (y >>> (8 &&& 31)) 8 < 8 := lw_lt (by decide)
  have b4 : lw (y >>> (12 &&& 31)) 3 < 3 := lw_lt (by decide)
  have head : mW (mRo L xs) mTab 179 0 [some (.ref 8), some (.ref 42), some (.ref 44), some (.int x), some (.int y), none, none, none, none, none, none, none, none, none, none, none] [] h k = mW (mRo L xs) mTab 179 70 [some (.ref 8), some (.ref 42), some (.ref 44), some (.int x), some (.int y), some (.int (Int32.ofNat (lw x 16))), some (.int (Int32.ofNat (lw (x >>> (4 &&& 31)) 16))), some (.int (Int32.ofNat (lw (x >>> (8 &&& 31)) 8))), some (.int (Int32.ofNat (lw y 16))), some (.int (Int32.ofNat (lw (y >>> (4 &&& 31)) 16))), some (.int (Int32.ofNat (lw (y >>> (8 &&& 31)) 8))), none, none, none, none, none] [.int (Int32.ofNat (lw (y >>> (12 &&& 31)) 3))] h k := by
    rw [e179_0, e179_1, show (.int 16 : Value) = .int (Int32.ofNat 16) from rfl, e179_3 (by simp [Value.category]), (c_low (n := 16) (by decide) (by decide))]
    simp only [mAft, Option.toList_some, List.cons_append, List.nil_append]
    rw [e179_6, e179_8, e179_9, e179_10, e179_11, show (.int 16 : Value) = .int (Int32.ofNat 16) from rfl, e179_13 (by simp [Value.category]), (c_low (n := 16) (by decide) (by decide))]
    simp only [mAft, Option.toList_some, List.cons_append, List.nil_append]
    rw [e179_16, e179_18, e179_19, e179_21, e179_22, show (.int 8 : Value) = .int (Int32.ofNat 8) from rfl, e179_24 (by simp [Value.category]), (c_low (n := 8) (by decide) (by decide))]
    simp only [mAft, Option.toList_some, List.cons_append, List.nil_append]
    rw [e179_27, e179_29, e179_31, show (.int 16 : Value) = .int (Int32.ofNat 16) from rfl, e179_33 (by simp [Value.category]), (c_low (n := 16) (by decide) (by decide))]
    simp only [mAft, Option.toList_some, List.cons_append, List.nil_append]
    rw [e179_36, e179_38, e179_40, e179_41, e179_42, show (.int 16 : Value) = .int (Int32.ofNat 16) from rfl, e179_44 (by simp [Value.category]), (c_low (n := 16) (by decide) (by decide))]
    simp only [mAft, Option.toList_some, List.cons_append, List.nil_append]
    rw [e179_47, e179_49, e179_51, e179_53, e179_54, show (.int 8 : Value) = .int (Int32.ofNat 8) from rfl, e179_56 (by simp [Value.category]), (c_low (n := 8) (by decide) (by decide))]
    simp only [mAft, Option.toList_some, List.cons_append, List.nil_append]
    rw [e179_59, e179_61, e179_63, e179_65, e179_66, show (.int 3 : Value) = .int (Int32.ofNat 3) from rfl, e179_67 (by simp [Value.category]), (c_low (n := 3) (by decide) (by decide))]
    simp only [mAft, Option.toList_some, List.cons_append, List.nil_append]
  rw [head]
  clear head
  generalize lw x 16 = ax at *
  generalize lw (x >>> (4 &&& 31)) 16 = ay at *
  generalize lw (x >>> (8 &&& 31)) 8 = ah at *
  generalize lw y 16 = bx at *
  generalize lw (y >>> (4 &&& 31)) 16 = by1 at *
  generalize lw (y >>> (8 &&& 31)) 8 = bh at *
  generalize lw (y >>> (12 &&& 31)) 3 = z at *
  obtain ⟨p, hp, p1, p2, p3⟩ : ∃ p, p < 2048 ∧ ax = p % 16 ∧ ay = p / 16 % 16 ∧ ah = p / 256 := ⟨256 * ah + 16 * ay + ax, by omega, by omega, by omega, by omega⟩
  obtain ⟨q, hq, q1, q2, q3⟩ : ∃ q, q < 2048 ∧ bx = q % 16 ∧ by1 = q / 16 % 16 ∧ bh = q / 256 := ⟨256 * bh + 16 * by1 + bx, by omega, by omega, by omega, by omega⟩
  subst p1 p2 p3 q1 q2 q3
  by_cases z0 : z = 0
  · subst z0
    refine ⟨p, q, 0, hp, hq, by decide, ?_⟩
    rw [e179_70, if_pos (by decide), e179_77, e179_78]
    rfl
  · refine ⟨p, q, 1, hp, hq, by decide, ?_⟩
    rw [e179_70, if_neg (show ¬ Int32.ofNat _ ≤ (0 : Int32) from nle_lit (n := 0) (by omega) (by omega)), e179_73, e179_74, e179_78]
    rfl

theorem not_m1 {n : Nat} (hn : n < 2 ^ 31) : ¬ Int32.ofNat n < -1 := fun z => by
  rw [Int32.lt_iff_toInt_lt, oi_int hn] at z
  have h2 : (-1 : Int32).toInt = -1 := rfl
  omega
/-- from where the new plan is written on -/
theorem pn_end {p q rv m : Nat} {T : List (Nat × Nat)} (H : SH oc np fr be cu mg st ar fa sl isr rq rT gone (pl ++ [(p, T)]) s cov fcl fop fg fz fe h) {c : Nat} (Gc : LG oc np c (pl ++ [(p, T)]) gone fg fz fe) (hc : c ≤ 16) {cN : Nat → Nat} (C : clOk cov fcl cN) (hp : p < 2048) (hq : q < 2048) (hrv : rv < 2) (hP : PI p T) (hf : Sho.fin p T = q) (hV : Sho.Val (drE (eG (oF fop))) p T) (hm : mvW (wtG mg cN) (tcN cu) none p T = m) (h3 : ∀ x ∈ T, x.1 < 3 + 3 * rv)
    (hfree : p = q ∨ (oF fop p = true ∧ oF fop q = true)) (h0 : p = q → m = 0) {wv : Int32} (wm : ¬ wv < -1) {l3 l4 l15 : Option Value} :
    ∃ h', mW (mRo L xs) mTab 179 249 [some (.ref 8), some (.ref 42), some (.ref 44), l3, l4, some (.int (Int32.ofNat (p % 16))), some (.int (Int32.ofNat (p / 16 % 16))), some (.int (Int32.ofNat (p / 256))), some (.int (Int32.ofNat (q % 16))), some (.int (Int32.ofNat (q / 16 % 16))), some (.int (Int32.ofNat (q / 256))), some (.int (Int32.ofNat rv)), some (.int (Int32.ofNat m)), some (.int wv), some (.int (Int32.ofNat pl.length)), l15] [] h k = some (.inl (some (.int 1)), h', k + 5) ∧ ST h' := by
  have hl := (sh_bd H).1.2.2.1
  rw [List.length_append, List.length_singleton] at hl
  have hi : (pl ++ [(p, T)])[pl.length]? = some (p, T) := by rw [List.getElem?_append_right (Nat.le_refl _), Nat.sub_self]; rfl
  have g42 := (sh_g H).1
  have g44 := (sh_g H).2.2.1
  have fe12 := Gc.2.2.2.2.2 pl.length (p, T) hi
  have fe1 : fe (2 * pl.length) = told p := fe12.1
  have fe2 : fe (2 * pl.length + 1) = told q := by rw [← hf]; exact fe12.2
  have g2e : fg 2 = Int32.ofNat (pl.length + 1) := by
    have := Gc.2.2.1
    rwa [List.length_append, List.length_singleton] at this
  have pm : Int32.ofNat (pl.length + 1) - 1 = Int32.ofNat pl.length := by rw [oi_add]; exact Int32.add_sub_cancel _ _
  have e2i : (2 : Int32) * Int32.ofNat pl.length = Int32.ofNat (2 * pl.length) := (oi_mul 2 _).symm
  have e2j : (2 : Int32) * Int32.ofNat pl.length + 1 = Int32.ofNat (2 * pl.length + 1) := by rw [e2i, oi_i1]
  have j1 : 2 * pl.length < 24 := by clear hfree h0; omega
  have j2 : 2 * pl.length + 1 < 24 := by clear hfree h0; omega
  have a1 : mW (mRo L xs) mTab 178 0 [some (.ref 8), some (.int (Int32.ofNat pl.length)), some (.int 1), none] [] h k = some (.inl (some (.int (Int32.ofNat m))), h, k) := by rw [← hm]; exact sh_planOf1 (L := L) (xs := xs) (k := k) H hi C
  have a2 : mW (mRo L xs) mTab 178 0 [some (.ref 8), some (.int (Int32.ofNat pl.length)), some (.int 2), none] [] h k = _ := sh_planOf2 (L := L) (xs := xs) (k := k) H hi
  have a4 := sh_planOf4 (L := L) (xs := xs) (k := k) H hi
  have fp := sh_isFree (L := L) (xs := xs) (k := k) H hp
  have fq := sh_isFree (L := L) (xs := xs) (k := k) H hq
  obtain ⟨h', ip, H'⟩ := law_isPlan (L := L) (xs := xs) (k := k) H hi hP (l4 := none) (l5 := none) (l6 := none) (l7 := none) (l8 := none) (l9 := none) (l10 := none) (l11 := none) (l12 := none)
  rw [hf] at ip
  refine ⟨h', ?_, ⟨_, _, _, _, _, _, _, _, _, _, _, _, _, _, _, _, _, _, _, _, _, _, c, H', Gc, hc⟩⟩
  have t362 : ∀ l15 : Option Value, mW (mRo L xs) mTab 179 362 [some (.ref 8), some (.ref 42), some (.ref 44), l3, l4, some (.int (Int32.ofNat (p % 16))), some (.int (Int32.ofNat (p / 16 % 16))), some (.int (Int32.ofNat (p / 256))), some (.int (Int32.ofNat (q % 16))), some (.int (Int32.ofNat (q / 16 % 16))), some (.int (Int32.ofNat (q / 256))), some (.int (Int32.ofNat rv)), some (.int (Int32.ofNat m)), some (.int wv), some (.int (Int32.ofNat pl.length)), l15] [] h k = some (.inl (some (.int 1)), h', k + 5) := by
    intro l15
    rw [e179_362, e179_363, e179_365, e179_366, e179_367, e179_369, e179_370, rd g44 e2i j1 (by decide), e179_371, e179_372, e179_373, e179_375, e179_376, e179_377, e179_378, rd g44 e2j j2 (by decide), fe1, fe2, e179_379 (by simp [Value.category]), ip]
    simp only [mAft, Option.toList_some, List.cons_append, List.nil_append]
    rw [e179_382, if_neg (by decide), e179_385, e179_387, e179_388, if_neg wm, e179_391, e179_392, e179_396 (Or.inr rfl)]
  have t273 : ∀ l15 : Option Value, mW (mRo L xs) mTab 179 273 [some (.ref 8), some (.ref 42), some (.ref 44), l3, l4, some (.int (Int32.ofNat (p % 16))), some (.int (Int32.ofNat (p / 16 % 16))), some (.int (Int32.ofNat (p / 256))), some (.int (Int32.ofNat (q % 16))), some (.int (Int32.ofNat (q / 16 % 16))), some (.int (Int32.ofNat (q / 256))), some (.int (Int32.ofNat rv)), some (.int (Int32.ofNat m)), some (.int wv), some (.int (Int32.ofNat pl.length)), l15] [] h k = mW (mRo L xs) mTab 179 310 [some (.ref 8), some (.ref 42), some (.ref 44), l3, l4, some (.int (Int32.ofNat (p % 16))), some (.int (Int32.ofNat (p / 16 % 16))), some (.int (Int32.ofNat (p / 256))), some (.int (Int32.ofNat (q % 16))), some (.int (Int32.ofNat (q / 16 % 16))), some (.int (Int32.ofNat (q / 256))), some (.int (Int32.ofNat rv)), some (.int (Int32.ofNat m)), some (.int wv), some (.int (Int32.ofNat pl.length)), l15] [] h k := by
    intro l15
    obtain rfl | rfl : rv = 0 ∨ rv = 1 := by omega
    · have nc := nCus_0 T none (fun a z => by cases z) h3
      rw [e179_273, e179_275, e179_276, e179_277, rd (J := 2) (j := 2) g42 rfl (by decide) (by decide), g2e, e179_278, e179_279, pm, e179_280, if_neg (fun z => z rfl), e179_283, e179_284, e179_286, e179_287 (by simp [Value.category]), a1]
      simp only [mAft, Option.toList_some, List.cons_append, List.nil_append]
      rw [e179_290, e179_292, if_neg (fun z => z rfl), e179_295, e179_297, if_neg (fun z => z rfl), e179_300, e179_301, e179_303, e179_304 (by simp [Value.category]), a2]
      simp only [mAft, Option.toList_some, List.cons_append, List.nil_append]
      rw [e179_307, if_neg (by rw [nc]; exact fun z => z rfl)]
    · rw [e179_273, e179_275, e179_276, e179_277, rd (J := 2) (j := 2) g42 rfl (by decide) (by decide), g2e, e179_278, e179_279, pm, e179_280, if_neg (fun z => z rfl), e179_283, e179_284, e179_286, e179_287 (by simp [Value.category]), a1]
      simp only [mAft, Option.toList_some, List.cons_append, List.nil_append]
      rw [e179_290, e179_292, if_neg (fun z => z rfl), e179_295, e179_297, if_pos (by decide)]
  by_cases hpq : p = q
  · have m0 := h0 hpq
    rw [e179_249, e179_250, e179_251, e179_253, e179_254, rd g44 e2i j1 (by decide), e179_255, e179_256, e179_257, e179_259, e179_260, e179_261, e179_262, rd g44 e2j j2 (by decide), fe1, fe2, e179_263, if_neg (by rw [hpq]; exact fun z => z rfl), e179_266, e179_267, e179_271]
    rw [t273]
    rw [e179_310, e179_312, if_neg (by decide), e179_315, e179_317, if_neg (by rw [m0]; exact fun z => z rfl), e179_320]
    exact t362 _
  · have fr := hfree.resolve_left hpq
    rw [if_pos (show cDr fop p T from ⟨fr.1, hV⟩)] at a4
    rw [if_pos fr.1] at fp
    rw [if_pos fr.2] at fq
    rw [e179_249, e179_250, e179_251, e179_253, e179_254, rd g44 e2i j1 (by decide), e179_255, e179_256, e179_257, e179_259, e179_260, e179_261, e179_262, rd g44 e2j j2 (by decide), fe1, fe2, e179_263, if_pos (fun z => hpq (told_inj hp hq z)), e179_270, e179_271]
    rw [t273]
    rw [e179_310, e179_312, if_pos rfl, e179_323, e179_324, e179_326, e179_327 (by simp [Value.category]), a4]
    simp only [mAft, Option.toList_some, List.cons_append, List.nil_append]
    rw [e179_330, e179_331, if_neg (fun z => z rfl), e179_334, e179_335, e179_337, e179_339, e179_341 (by simp [Value.category]), fp]
    simp only [mAft, Option.toList_some, List.cons_append, List.nil_append]
    rw [e179_344, e179_345, if_neg (fun z => z rfl), e179_348, e179_349, e179_351, e179_353, e179_355 (by simp [Value.category]), fq]
    simp only [mAft, Option.toList_some, List.cons_append, List.nil_append]
    rw [e179_358, e179_359, if_neg (fun z => z rfl)]
    exact t362 _
theorem law_plans (H : SH oc np fr be cu mg st ar fa sl isr rq rT gone pl s cov fcl fop fg fz fe h) {c : Nat} (G0 : LG oc np c pl gone fg fz fe) (hc : c ≤ 15) {x y : Int32} : ∃ h' k', mW (mRo L xs) mTab 179 0 [some (.ref 8), some (.ref 42), some (.ref 44), some (.int x), some (.int y), none, none, none, none, none, none, none, none, none, none, none] [] h k = some (.inl (some (.int 1)), h', k') ∧ k' ≤ k + 17 ∧ ST h' := by
  obtain ⟨p, q, rv, hp, hq, hrv, e0⟩ := pn_head (L := L) (xs := xs) (k := k) (h := h) (x := x) (y := y)
  obtain ⟨cN, C⟩ := sh_cl H
  obtain ⟨h1, r, ch, hr, H1⟩ := sh_cheapest (L := L) (xs := xs) (k := k) H C hrv hp hq
  obtain ⟨h2, fg', e1, H2, Gc⟩ := pl_g3 (L := L) (xs := xs) (k := k) H1 G0 (l2 := some (.ref 44)) (l3 := some (.int x)) (l4 := some (.int y)) (l5 := some (.int (Int32.ofNat (p % 16)))) (l6 := some (.int (Int32.ofNat (p / 16 % 16)))) (l7 := some (.int (Int32.ofNat (p / 256)))) (l8 := some (.int (Int32.ofNat (q % 16)))) (l9 := some (.int (Int32.ofNat (q / 16 % 16)))) (l10 := some (.int (Int32.ofNat (q / 256)))) (l11 := some (.int (Int32.ofNat rv))) (l12 := none) (l13 := none) (l14 := none) (l15 := none) (v := qDec 1 r)
  rw [e0]
  rw [e179_80, e179_81, e179_83, e179_85, e179_87, e179_89, e179_91, e179_93, e179_95 (by simp [Value.category]), ch]
  simp only [mAft, Option.toList_some, List.cons_append, List.nil_append]
  rw [e1]
  clear e0 e1 ch H1
  have g42 := (sh_g H2).1
  have s140 : ∃ h3, mW (mRo L xs) mTab 179 107 [some (.ref 8), some (.ref 42), some (.ref 44), some (.int x), some (.int y), some (.int (Int32.ofNat (p % 16))), some (.int (Int32.ofNat (p / 16 % 16))), some (.int (Int32.ofNat (p / 256))), some (.int (Int32.ofNat (q % 16))), some (.int (Int32.ofNat (q / 16 % 16))), some (.int (Int32.ofNat (q / 256))), some (.int (Int32.ofNat rv)), some (.int (qDec 1 r)), none, none, none] [] h2 k = mW (mRo L xs) mTab 179 140 [some (.ref 8), some (.ref 42), some (.ref 44), some (.int x), some (.int y), some (.int (Int32.ofNat (p % 16))), some (.int (Int32.ofNat (p / 16 % 16))), some (.int (Int32.ofNat (p / 256))), some (.int (Int32.ofNat (q % 16))), some (.int (Int32.ofNat (q / 16 % 16))), some (.int (Int32.ofNat (q / 256))), some (.int (Int32.ofNat rv)), some (.int (qDec 1 r)), none, none, none] [] h3 k ∧ SH oc np fr be cu mg st ar fa sl isr rq rT gone pl s cov fcl fop fg' fz fe h3 := by
    obtain ⟨h3, r2, an, hr2, H3⟩ := sh_anew (L := L) (xs := xs) (k := k) H2 C hrv hp hq
    have er := hr2 r hr
    subst er
    by_cases z : 7 ≤ c + 1
    · refine ⟨h2, ?_, H2⟩
      rw [e179_107, e179_108, e179_109, rd (J := 3) (j := 3) g42 rfl (by decide) (by decide), e179_110, e179_112, if_pos (by rw [Gc.2.2.2.1, show (7 : Int32) = Int32.ofNat 7 from rfl, oi_le (by decide) (by omega)]; omega)]
    · refine ⟨h3, ?_, H3⟩
      rw [e179_107, e179_108, e179_109, rd (J := 3) (j := 3) g42 rfl (by decide) (by decide), e179_110, e179_112, if_neg (by rw [Gc.2.2.2.1, show (7 : Int32) = Int32.ofNat 7 from rfl, oi_le (by decide) (by omega)]; omega), e179_115, e179_116, e179_118, e179_120, e179_122, e179_124, e179_126, e179_128, e179_130 (by simp [Value.category]), an]
      simp only [mAft, Option.toList_some, List.cons_append, List.nil_append]
      rw [e179_133, e179_135, if_pos rfl]
  obtain ⟨h3, e3, H3⟩ := s140
  rw [e3]
  clear e3 H2 g42
  obtain ⟨h4, wd, H4⟩ := sh_word (L := L) (xs := xs) (k := k) H3 hp hq
  have wb := (wFd_in p q (r := s.2.2) (sh_bd H3).2.2.2.1.1.2).2.1
  have pl1 := sh_plan (L := L) (xs := xs) (k := k) H4 C hrv hp hq hr
  have bl := (sh_bd H4).1.2.2.1
  have wm : ¬ (if (wFd p q s.2.2).2.1 = 0 then (-1 : Int32) else Int32.ofNat (wFd p q s.2.2).1) < -1 := by
    split
    · decide
    · exact not_m1 (by omega)
  generalize (if (wFd p q s.2.2).2.1 = 0 then (-1 : Int32) else Int32.ofNat (wFd p q s.2.2).1) = wv at *
  cases r with
  | zero =>
    rw [if_pos (Or.inl rfl)] at pl1
    obtain ⟨h5, pln, H5⟩ := pl1
    refine ⟨h5, k + 1, ?_, by omega, ⟨_, _, _, _, _, _, _, _, _, _, _, _, _, _, _, _, _, _, _, _, _, _, c + 1, H5, Gc, by omega⟩⟩
    rw [e179_140, e179_141, e179_143, e179_145, e179_147, e179_149, e179_151, e179_153 (by simp [Value.category]), wd]
    simp only [mAft, Option.toList_some, List.cons_append, List.nil_append]
    rw [e179_156, e179_158, e179_159, e179_161, e179_163, e179_165, e179_167, e179_169, e179_171, e179_173 (by simp [Value.category]), pln]
    simp only [mAft, Option.toList_some, List.cons_append, List.nil_append]
    rw [e179_176]
    rw [e179_178, e179_180, if_pos (show qDec 1 0 < 0 by decide), e179_191, e179_193, e179_195, if_neg (fun z => z rfl), e179_198, e179_200, e179_201, if_neg (show ¬ qDec 1 0 < -1 by decide), e179_204, e179_205, e179_209 (Or.inr rfl)]
  | succ m =>
    rw [dec_p]
    have mb : m < 1000000 := by
      by_cases cond : q = p ∨ (oF fop q = true ∧ oF fop p = true)
      · have := ((hr.2 cond).2 m rfl).1
        omega
      · have := hr.1 ⟨fun y => cond (Or.inl y), fun y => cond (Or.inr y)⟩
        omega
    by_cases hl12 : pl.length = 12
    · rw [if_pos (Or.inr hl12)] at pl1
      obtain ⟨h5, pln, H5⟩ := pl1
      have g42b := (sh_g H5).1
      refine ⟨h5, k + 1, ?_, by omega, ⟨_, _, _, _, _, _, _, _, _, _, _, _, _, _, _, _, _, _, _, _, _, _, c + 1, H5, Gc, by omega⟩⟩
      rw [e179_140, e179_141, e179_143, e179_145, e179_147, e179_149, e179_151, e179_153 (by simp [Value.category]), wd]
      simp only [mAft, Option.toList_some, List.cons_append, List.nil_append]
      rw [e179_156, e179_158, e179_159, e179_161, e179_163, e179_165, e179_167, e179_169, e179_171, e179_173 (by simp [Value.category]), pln]
      simp only [mAft, Option.toList_some, List.cons_append, List.nil_append]
      rw [e179_176]
      rw [e179_178, e179_180, if_neg (oi_nneg (by omega)), e179_183, e179_184, e179_185, rd (J := 2) (j := 2) g42b rfl (by decide) (by decide), e179_186, e179_188, if_neg (by rw [Gc.2.2.1, hl12]; exact fun z => z rfl), e179_191, e179_193, e179_195, if_neg (fun z => z rfl), e179_198, e179_200, e179_201, if_neg (show ¬ Int32.ofNat _ < (-1 : Int32) from not_m1 (by omega)), e179_204, e179_205, e179_209 (Or.inr rfl)]
    · rw [if_neg (by omega)] at pl1
      obtain ⟨h5, T, pln, H5, hP, hf, hV, hmv, h3, hfree, hone⟩ := pl1
      rw [Nat.add_sub_cancel] at hmv
      have g42b := (sh_g H5).1
      obtain ⟨h6, fg6, fe6, e6, H6, G6⟩ := pl_w (L := L) (xs := xs) (k := k) H5 Gc hp hq hf (by omega) (l3 := some (.int x)) (l4 := some (.int y)) (l11 := some (.int (Int32.ofNat rv))) (l12 := some (.int (Int32.ofNat m))) (l13 := some (.int wv)) (l15 := none)
      obtain ⟨h7, e7, S7⟩ := pn_end (L := L) (xs := xs) (k := k) H6 G6 (by omega) C hp hq hrv hP hf hV hmv h3 hfree (fun z => Nat.succ.inj (hone z)) wm (l3 := some (.int x)) (l4 := some (.int y)) (l15 := none)
      refine ⟨h7, k + 5, ?_, by omega, S7⟩
      rw [e179_140, e179_141, e179_143, e179_145, e179_147, e179_149, e179_151, e179_153 (by simp [Value.category]), wd]
      simp only [mAft, Option.toList_some, List.cons_append, List.nil_append]
      rw [e179_156, e179_158, e179_159, e179_161, e179_163, e179_165, e179_167, e179_169, e179_171, e179_173 (by simp [Value.category]), pln]
      simp only [mAft, Option.toList_some, List.cons_append, List.nil_append]
      rw [e179_176]
      rw [e179_178, e179_180, if_neg (oi_nneg (by omega)), e179_183, e179_184, e179_185, rd (J := 2) (j := 2) g42b rfl (by decide) (by decide), e179_186, e179_188, if_pos (by rw [Gc.2.2.1, show (12 : Int32) = Int32.ofNat 12 from rfl, oi_eq (by omega) (by decide)]; exact hl12)]
      rw [e6, e7]
end
