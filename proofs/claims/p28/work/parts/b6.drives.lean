section
variable {L : Nat} {xs : Nat → Int32} {k : Nat} {h : List mCel}

variable {oc np fr be cu mg st ar fa sl isr rq : Nat} {rT : List (Nat × Nat)} {gone : Nat → Bool} {pl : List (Nat × List (Nat × Nat))} {s : wS} {cov fcl fop fg fz fe : Nat → Int32}

theorem dv_w {x y : Int32} {p : Nat} {T : List (Nat × Nat)} (H : SH oc np fr be cu mg st ar fa sl isr rq rT gone (pl ++ [(p, T)]) s cov fcl fop fg fz fe h) {c : Nat} (G0 : LG oc np c pl gone fg fz fe) (hp : p < 2048) (hn : pl.length < 12) {l12 l13 : Option Value} :
    ∃ h' fg' fe', mW (mRo L xs) mTab 165 244 [some (.ref 8), some (.ref 42), some (.ref 44), some (.int x), some (.int y), some (.int (Int32.ofNat (p % 16))), some (.int (Int32.ofNat (p / 16 % 16))), some (.int (Int32.ofNat (p / 256))), some (.int 1), some (.int (Int32.ofNat T.length)), some (.int 1), some (.int (Int32.ofNat pl.length)), l12, l13] [] h k = mW (mRo L xs) mTab 165 282 [some (.ref 8), some (.ref 42), some (.ref 44), some (.int x), some (.int y), some (.int (Int32.ofNat (p % 16))), some (.int (Int32.ofNat (p / 16 % 16))), some (.int (Int32.ofNat (p / 256))), some (.int 1), some (.int (Int32.ofNat T.length)), some (.int 1), some (.int (Int32.ofNat pl.length)), l12, l13] [] h' k ∧ SH oc np fr be cu mg st ar fa sl isr rq rT gone (pl ++ [(p, T)]) s cov fcl fop fg' fz fe' h' ∧ LG oc np c (pl ++ [(p, T)]) gone fg' fz fe' := by
  have hi : (pl ++ [(p, T)])[pl.length]? = some (p, T) := by rw [List.getElem?_append_right (Nat.le_refl _), Nat.sub_self]; rfl
  have e2i : (2 : Int32) * Int32.ofNat pl.length = Int32.ofNat (2 * pl.length) := (oi_mul 2 _).symm
  have e2j : (2 : Int32) * Int32.ofNat pl.length + 1 = Int32.ofNat (2 * pl.length + 1) := by rw [e2i, oi_i1]
  have n1 : ((2 : Int32) * Int32.ofNat pl.length).toNatClampNeg = 2 * pl.length := by rw [e2i, oi_nat (by omega)]
  have n2 : ((2 : Int32) * Int32.ofNat pl.length + 1).toNatClampNeg = 2 * pl.length + 1 := by rw [e2j, oi_nat (by omega)]
  have j1 : 2 * pl.length < 24 := by omega
  have j2 : 2 * pl.length + 1 < 24 := by omega
  have g42 := (sh_g H).1
  have H0 := sh_setG H (upd fg (2 : Int32).toNatClampNeg (fg 2 + 1))
  have g44 := (sh_g H0).2.2.1
  have H1 := sh_setE H0 (upd fe ((2 : Int32) * Int32.ofNat pl.length).toNatClampNeg (told p))
  have g44b := (sh_g H1).2.2.1
  have H2 := sh_setE H1 (upd (upd fe ((2 : Int32) * Int32.ofNat pl.length).toNatClampNeg (told p)) ((2 : Int32) * Int32.ofNat pl.length + 1).toNatClampNeg (told (Sho.fin p T)))
  have po := sh_poseOf (L := L) (xs := xs) (k := k) H1 hi (E := T) (B := []) (by simp)
  refine ⟨_, _, _, ?_, H2, ?_⟩
  rotate_left
  · have e3 : (2 : Int32).toNatClampNeg = 2 := rfl
    rw [e3, n1, n2]
    refine ⟨(upd_ne (by decide)).trans G0.1, (upd_ne (by decide)).trans G0.2.1, ?_, (upd_ne (by decide)).trans G0.2.2.2.1, G0.2.2.2.2.1, fun i x hi => ?_⟩
    · rw [upd_at, G0.2.2.1, List.length_append, List.length_singleton]
      exact oi_i1
    · by_cases z : i < pl.length
      · rw [List.getElem?_append_left z] at hi
        rw [upd_ne (by omega), upd_ne (by omega), upd_ne (by omega), upd_ne (by omega)]
        exact G0.2.2.2.2.2 i x hi
      · have hl := (List.getElem?_eq_some_iff.mp hi).1
        rw [List.length_append, List.length_singleton] at hl
        have ei : i = pl.length := by omega
        subst ei
        rw [List.getElem?_append_right (Nat.le_refl _), Nat.sub_self] at hi
        cases hi
        rw [upd_ne (by omega), upd_at, upd_at]
        exact ⟨rfl, rfl⟩
  rw [e165_244, e165_245, e165_246, e165_247, rd (J := 2) (j := 2) g42 rfl (by decide) (by decide), e165_248, e165_249, e165_250, wr (J := 2) (j := 2) g42 rfl (by decide) (by decide), e165_251, e165_252, e165_253, e165_255, e165_256, e165_258, e165_260, e165_262 (by simp [Value.category]), (c_told hp)]
  simp only [mAft, Option.toList_some, List.cons_append, List.nil_append]
  rw [e165_265, wr g44 e2i j1 (by decide), e165_266, e165_267, e165_268, e165_270, e165_271, e165_272, e165_273, e165_274, e165_276, e165_278 (by simp [Value.category]), po]
  simp only [mAft, Option.toList_some, List.cons_append, List.nil_append]
  rw [e165_281, wr g44b e2j j2 (by decide)]

theorem dv_end {x y : Int32} {p : Nat} {T : List (Nat × Nat)} (H : SH oc np fr be cu mg st ar fa sl 0 rq rT gone (pl ++ [(p, T)]) s cov fcl fop fg fz fe h) {c : Nat} (Gc : LG oc np c (pl ++ [(p, T)]) gone fg fz fe) (hc : c ≤ 16) (hP : PI p T) (hD : cDr fop p T) {l12 l13 : Option Value} :
    ∃ h', mW (mRo L xs) mTab 165 282 [some (.ref 8), some (.ref 42), some (.ref 44), some (.int x), some (.int y), some (.int (Int32.ofNat (p % 16))), some (.int (Int32.ofNat (p / 16 % 16))), some (.int (Int32.ofNat (p / 256))), some (.int 1), some (.int (Int32.ofNat T.length)), some (.int 1), some (.int (Int32.ofNat pl.length)), l12, l13] [] h k = some (.inl (some (.int 1)), h', k + 7) ∧ ST h' := by
  have hl := (sh_bd H).1.2.2.1
  rw [List.length_append, List.length_singleton] at hl
  have hi : (pl ++ [(p, T)])[pl.length]? = some (p, T) := by rw [List.getElem?_append_right (Nat.le_refl _), Nat.sub_self]; rfl
  have g42 := (sh_g H).1
  have g44 := (sh_g H).2.2.1
  have fe12 := Gc.2.2.2.2.2 pl.length (p, T) hi
  have fe1 : fe (2 * pl.length) = told p := fe12.1
  have fe2 : fe (2 * pl.length + 1) = told (Sho.fin p T) := fe12.2
  have g2e : fg 2 = Int32.ofNat (pl.length + 1) := by
    have := Gc.2.2.1
    rwa [List.length_append, List.length_singleton] at this
  have pm : Int32.ofNat (pl.length + 1) - 1 = Int32.ofNat pl.length := by rw [oi_add]; exact Int32.add_sub_cancel _ _
  have e2i : (2 : Int32) * Int32.ofNat pl.length = Int32.ofNat (2 * pl.length) := (oi_mul 2 _).symm
  have e2j : (2 : Int32) * Int32.ofNat pl.length + 1 = Int32.ofNat (2 * pl.length + 1) := by rw [e2i, oi_i1]
  have j1 : 2 * pl.length < 24 := by omega
  have j2 : 2 * pl.length + 1 < 24 := by omega
  have a0 : mW (mRo L xs) mTab 178 0 [some (.ref 8), some (.int (Int32.ofNat pl.length)), some (.int 0), none] [] h k = _ := sh_planOf0 (L := L) (xs := xs) (k := k) H hi
  have a4 := sh_planOf4 (L := L) (xs := xs) (k := k) H hi
  rw [if_pos hD] at a4
  have kn := sh_keepNot (L := L) (xs := xs) (k := k) H (Or.inl rfl)
  have dn : mW (mRo L xs) mTab 164 0 [some (.ref 8), some (.int 0), none] [] h (k + 1) = _ := sh_driveNot (L := L) (xs := xs) (k := k + 1) H (m := 0) (by decide) rfl
  obtain ⟨h', ip, H'⟩ := law_isPlan (L := L) (xs := xs) (k := k + 1 + 1) H hi hP (l4 := none) (l5 := none) (l6 := none) (l7 := none) (l8 := none) (l9 := none) (l10 := none) (l11 := none) (l12 := none)
  refine ⟨h', ?_, ⟨_, _, _, _, _, _, _, _, _, _, _, _, _, _, _, _, _, _, _, _, _, _, c, H', Gc, hc⟩⟩
  rw [e165_282, e165_284, if_neg (by decide), e165_287, e165_289, e165_290, e165_291, rd (J := 2) (j := 2) g42 rfl (by decide) (by decide), g2e, e165_292, e165_293, pm, e165_294, if_neg (fun z => z rfl), e165_297, e165_298, e165_300, e165_301 (by simp [Value.category]), a0]
  simp only [mAft, Option.toList_some, List.cons_append, List.nil_append]
  rw [e165_304, e165_306, if_neg (fun z => z rfl), e165_309, e165_310, e165_312, e165_313 (by simp [Value.category]), a4]
  simp only [mAft, Option.toList_some, List.cons_append, List.nil_append]
  rw [e165_316, e165_317, if_neg (fun z => z rfl), e165_320, e165_321 (by simp [Value.category]), kn]
  simp only [mAft, Option.toList_some, List.cons_append, List.nil_append]
  rw [e165_324, e165_326, if_neg (fun z => z rfl), e165_329, e165_330, e165_331 (by simp [Value.category]), dn]
  simp only [mAft, Option.toList_some, List.cons_append, List.nil_append]
  rw [e165_334, e165_336, if_neg (fun z => z rfl), e165_339, e165_340, e165_342, e165_343, e165_344, e165_346, e165_347, rd g44 e2i j1 (by decide), e165_348, e165_349, e165_350, e165_352, e165_353, e165_354, e165_355, rd g44 e2j j2 (by decide), fe1, fe2, e165_356 (by simp [Value.category]), ip]
  simp only [mAft, Option.toList_some, List.cons_append, List.nil_append]
  rw [e165_359, if_neg (by decide), e165_362, e165_363, e165_367 (Or.inr rfl)]

theorem law_drives (H : SH oc np fr be cu mg st ar fa sl isr rq rT gone pl s cov fcl fop fg fz fe h) {c : Nat} (G0 : LG oc np c pl gone fg fz fe) (hc : c ≤ 16) {x y : Int32} : ∃ h' k', mW (mRo L xs) mTab 165 0 [some (.ref 8), some (.ref 42), some (.ref 44), some (.int x), some (.int y), none, none, none, none, none, none, none, none, none] [] h k = some (.inl (some (.int 1)), h', k') ∧ k' ≤ k + 17 ∧ ST h' := by
  obtain ⟨p, hp, e0⟩ := dv_head (L := L) (xs := xs) (k := k) (h := h) (x := x) (y := y)
  rw [e0]
  have fr := sh_isFree (L := L) (xs := xs) (k := k) H hp
  have bg := sh_begin (L := L) (xs := xs) (k := k) H hp
  by_cases z : oF fop p = true
  · rw [if_pos z] at fr bg
    obtain ⟨h1, bg, H1⟩ := bg
    obtain ⟨h2, rT', k', l11, l12, l13, e, kk, H2, r10, V2⟩ := dv_loop (L := L) (xs := xs) (x := x) (y := y) (p := p) 10 0 k [] h1 none none rfl (Nat.le_refl _) trivial H1
    have e : mW (mRo L xs) mTab 165 89 [some (.ref 8), some (.ref 42), some (.ref 44), some (.int x), some (.int y), some (.int (Int32.ofNat (p % 16))), some (.int (Int32.ofNat (p / 16 % 16))), some (.int (Int32.ofNat (p / 256))), some (.int 1), some (.int 0), some (.int 1), some (.int 0), none, none] [] h1 k = _ := e
    by_cases hl12 : pl.length = 12
    · have kp := sh_keepNot (L := L) (xs := xs) (k := k') H2 (Or.inr hl12)
      have g42 := (sh_g H2).1
      refine ⟨h2, k' + 1, ?_, by omega, ⟨_, _, _, _, _, _, _, _, _, _, _, _, _, _, _, _, _, _, _, _, _, _, c, H2, G0, hc⟩⟩
      rw [e165_33, e165_34, e165_36, e165_38, e165_40 (by simp [Value.category]), fr]
      simp only [mAft, Option.toList_some, List.cons_append, List.nil_append]
      rw [e165_43, e165_44, if_neg (fun z => z rfl), e165_47, e165_48, e165_52, e165_54, e165_55, e165_57, e165_59, e165_61 (by simp [Value.category]), bg]
      simp only [mAft, Option.toList_some, List.cons_append, List.nil_append]
      rw [e165_64, e165_66, if_neg (by decide), e165_69, e165_70, e165_75, if_pos rfl, e165_80, e165_81, e165_83, e165_84, e165_86, e165_87]
      rw [e]
      rw [e165_193, e165_195, if_neg (by decide), e165_198, e165_199 (by simp [Value.category]), kp]
      simp only [mAft, Option.toList_some, List.cons_append, List.nil_append]
      rw [e165_202, e165_206, e165_208, e165_210, if_neg (by decide), e165_213, e165_214, e165_215, rd (J := 2) (j := 2) g42 rfl (by decide) (by decide), e165_216, e165_218, if_neg (by rw [G0.2.2.1, hl12]; exact fun z => z rfl), e165_221, e165_223, if_neg (by decide), e165_226, e165_228, if_neg (by decide), e165_231, e165_233, e165_235, if_neg (fun z => z rfl), e165_238, e165_239, e165_243 (Or.inr rfl)]
    · have bl := (sh_bd H2).1.2.2.1
      obtain ⟨h3, kp, H3⟩ := sh_keep (L := L) (xs := xs) (k := k') H2 rfl (by omega)
      have g42 := (sh_g H3).1
      obtain ⟨h4, fg4, fe4, e4, H4, G4⟩ := dv_w (L := L) (xs := xs) (k := k') (x := x) (y := y) H3 G0 hp (by omega) (l12 := l12) (l13 := l13)
      have hP : PI p rT' := (sh_bd H4).2.2.1 (p, rT') (by simp)
      obtain ⟨h5, e5, S5⟩ := dv_end (L := L) (xs := xs) (k := k') (x := x) (y := y) H4 G4 hc hP ⟨z, V2⟩ (l12 := l12) (l13 := l13)
      refine ⟨h5, k' + 7, ?_, by omega, S5⟩
      rw [e165_33, e165_34, e165_36, e165_38, e165_40 (by simp [Value.category]), fr]
      simp only [mAft, Option.toList_some, List.cons_append, List.nil_append]
      rw [e165_43, e165_44, if_neg (fun z => z rfl), e165_47, e165_48, e165_52, e165_54, e165_55, e165_57, e165_59, e165_61 (by simp [Value.category]), bg]
      simp only [mAft, Option.toList_some, List.cons_append, List.nil_append]
      rw [e165_64, e165_66, if_neg (by decide), e165_69, e165_70, e165_75, if_pos rfl, e165_80, e165_81, e165_83, e165_84, e165_86, e165_87]
      rw [e]
      rw [e165_193, e165_195, if_neg (by decide), e165_198, e165_199 (by simp [Value.category]), kp]
      simp only [mAft, Option.toList_some, List.cons_append, List.nil_append]
      rw [e165_202, e165_206, e165_208, e165_210, if_neg (by decide), e165_213, e165_214, e165_215, rd (J := 2) (j := 2) g42 rfl (by decide) (by decide), e165_216, e165_218, if_pos (by rw [G0.2.2.1, show (12 : Int32) = Int32.ofNat 12 from rfl, oi_eq (by omega) (by decide)]; exact hl12)]
      rw [e4, e5]
  · rw [if_neg z] at fr bg
    refine ⟨h, k + 1, ?_, by omega, ⟨_, _, _, _, _, _, _, _, _, _, _, _, _, _, _, _, _, _, _, _, _, _, c, H, G0, hc⟩⟩
    rw [e165_33, e165_34, e165_36, e165_38, e165_40 (by simp [Value.category]), fr]
    simp only [mAft, Option.toList_some, List.cons_append, List.nil_append]
    rw [e165_43, e165_44, if_pos (show ¬ (0 : Int32) = 1 by decide), e165_51, e165_52, e165_54, e165_55, e165_57, e165_59, e165_61 (by simp [Value.category]), bg]
    simp only [mAft, Option.toList_some, List.cons_append, List.nil_append]
    rw [e165_64, e165_66, if_pos rfl, e165_73, e165_75, if_pos rfl, e165_80, e165_81, e165_83, e165_84, e165_86, e165_87, e165_89, e165_91, e165_93, if_neg (by decide), e165_96, e165_98, if_neg (by decide), e165_101, e165_103, if_pos rfl, e165_193, e165_195, if_pos rfl, e165_205, e165_206, e165_208, e165_210, if_pos rfl, e165_221, e165_223, if_neg (by decide), e165_226, e165_228, if_pos rfl, e165_238, e165_239, e165_243 (Or.inr rfl)]
end
