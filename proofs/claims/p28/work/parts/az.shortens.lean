/-- what the law's arrays say -/
def LG (oc np c : Nat) (pl : List (Nat × List (Nat × Nat))) (gone : Nat → Bool) (fg fz fe : Nat → Int32) : Prop := fg 0 = Int32.ofNat oc ∧ fg 1 = Int32.ofNat np ∧ fg 2 = Int32.ofNat pl.length ∧ fg 3 = Int32.ofNat c ∧ (∀ i, i < 9 → fz i = if i < np ∧ gone i = true then 1 else 0) ∧ ∀ i x, pl[i]? = some x → fe (2 * i) = told x.1 ∧ fe (2 * i + 1) = told (Sho.fin x.1 x.2)
def ST (h : List mCel) : Prop := ∃ oc np fr be cu mg st ar fa sl isr rq rT gone pl s cov fcl fop fg fz fe c, SH oc np fr be cu mg st ar fa sl isr rq rT gone pl s cov fcl fop fg fz fe h ∧ LG oc np c pl gone fg fz fe ∧ c ≤ 16
section
variable {L : Nat} {xs : Nat → Int32} {k : Nat} {h : List mCel}
theorem rd {a n j : Nat} {f : Nat → Int32} {J : Int32} {q : Int32 → Option mOut} (hc : mCell h a = some (.inl (0, n, .inl f))) (hJ : J = Int32.ofNat j) (hj : j < n) (hn : n < 100) : kIA (mRo L xs) h a J q = q (f j) := by
  subst hJ
  rw [kIA_int hc (by rw [oi_int (by omega)]; omega), oi_nat (by omega)]
theorem wr {a n j : Nat} {f : Nat → Int32} {J : Int32} {q : Nat → (Nat → Int32) → Option mOut} (hc : mCell h a = some (.inl (0, n, .inl f))) (hJ : J = Int32.ofNat j) (hj : j < n) (hn : n < 100) : kIS h a J q = q n f := by
  subst hJ
  exact kIS_int hc (by rw [oi_int (by omega)]; omega)

variable {oc np fr be cu mg st ar fa sl isr rq : Nat} {rT : List (Nat × Nat)} {gone : Nat → Bool} {pl : List (Nat × List (Nat × Nat))} {s : wS} {cov fcl fop fg fz fe : Nat → Int32}

theorem sh_g (H : SH oc np fr be cu mg st ar fa sl isr rq rT gone pl s cov fcl fop fg fz fe h) : mCell h 42 = some (.inl (0, 4, .inl fg)) ∧ mCell h 43 = some (.inl (0, 9, .inl fz)) ∧ mCell h 44 = some (.inl (0, 24, .inl fe)) ∧ kR (mCell h 8) 10 = true := by
  obtain ⟨ow, et, er, nsq, lg, po, fpg, fpl, es, S, ⟨q1, T1, tr⟩, ⟨q2, T2, re⟩, rc, pa, ou, fl, pr, qu, w9, ⟨s2, w10⟩, ob, rr, lw, pg, pp, cf, cm, sp, bd, g1, g2, ppi, rp, bu⟩ := H
  exact ⟨lw.1.1, lw.2.1.1, lw.2.2.1, kR_eq ob.1⟩
theorem sh_bd (H : SH oc np fr be cu mg st ar fa sl isr rq rT gone pl s cov fcl fop fg fz fe h) : (isr < 2 ∧ np ≤ 8 ∧ pl.length ≤ 12 ∧ oc ≤ 6) ∧ (cu ≤ 100 ∧ mg ≤ 5) ∧ (∀ x ∈ pl, PI x.1 x.2) ∧ wOkS s ∧ rT.length ≤ 60 := by
  obtain ⟨ow, et, er, nsq, lg, po, fpg, fpl, es, S, ⟨q1, T1, tr⟩, ⟨q2, T2, re⟩, rc, pa, ou, fl, pr, qu, w9, ⟨s2, w10⟩, ob, rr, lw, pg, pp, cf, cm, sp, bd, g1, g2, ppi, rp, bu⟩ := H
  exact ⟨bd, cm, ppi, w9.2, rp.2.2.2⟩
theorem sh_at (H : SH oc np fr be cu mg st ar fa sl isr rq rT gone pl s cov fcl fop fg fz fe h) {i : Nat} (hi : i < pl.length) : ∃ q T, pl[i]? = some (q, T) ∧ PI q T := by
  refine ⟨pl[i].1, pl[i].2, List.getElem?_eq_getElem hi, ?_⟩
  exact (sh_bd H).2.2.1 _ (List.getElem_mem hi)

theorem sh_setG (H : SH oc np fr be cu mg st ar fa sl isr rq rT gone pl s cov fcl fop fg fz fe h) (f' : Nat → Int32) : SH oc np fr be cu mg st ar fa sl isr rq rT gone pl s cov fcl fop f' fz fe (h.set (42 - 8) (.inl (0, 4, .inl f'))) := by
  obtain ⟨ow, et, er, nsq, lg, po, fpg, fpl, es, S, ⟨q1, T1, tr⟩, ⟨q2, T2, re⟩, rc, pa, ou, fl, pr, qu, w9, ⟨s2, w10⟩, ob, rr, lw, pg, pp, cf, cm, sp, bd, g1, g2, ppi, rp, bu⟩ := H
  have K : mKeep (fun a => a = 42) h (h.set (42 - 8) (.inl (0, 4, .inl f'))) := keep_set lw.1.1 rfl rfl
  have F := fr_of (ow := ow) (n0 := 13) K (fun a z => by rw [z]; exact lw.1.2)
  exact ⟨ow, et, er, nsq, lg, po, fpg, fpl, es, sta_keep S (F 0 (by decide)), ⟨q1, T1, krt_keep tr (F 1 (by decide))⟩, ⟨q2, T2, krt_keep re (F 2 (by decide))⟩, rec_keep rc (F 3 (by decide)), pac_keep pa (F 4 (by decide)), kpl_keep ou (F 5 (by decide)), fld_keep fl (F 6 (by decide)), one_keep pr (F 7 (by decide)), que_keep qu (F 8 (by decide)), ⟨one_keep w9.1 (F 9 (by decide)), w9.2⟩, ⟨s2, one_keep w10.1 (F 10 (by decide)), w10.2⟩, one_keep ob (F 11 (by decide)), one_keep rr (F 12 (by decide)), ⟨⟨cell_set lw.1.1, lw.1.2⟩, ⟨(cell_setne (by decide) (by decide)).trans lw.2.1.1, lw.2.1.2⟩, ⟨(cell_setne (by decide) (by decide)).trans lw.2.2.1, lw.2.2.2⟩⟩, (fun i p hi hp => (pg i p hi hp).imp fun c z => kpl_keep z (F (20 + i) (by omega))), (fun i hi => plan_keep (pp i hi) (F (40 + i) (by omega))), cf, cm, sp, bd, g1, g2, ppi, rp, bud_keep bu K⟩
theorem sh_setZ (H : SH oc np fr be cu mg st ar fa sl isr rq rT gone pl s cov fcl fop fg fz fe h) (f' : Nat → Int32) : SH oc np fr be cu mg st ar fa sl isr rq rT gone pl s cov fcl fop fg f' fe (h.set (43 - 8) (.inl (0, 9, .inl f'))) := by
  obtain ⟨ow, et, er, nsq, lg, po, fpg, fpl, es, S, ⟨q1, T1, tr⟩, ⟨q2, T2, re⟩, rc, pa, ou, fl, pr, qu, w9, ⟨s2, w10⟩, ob, rr, lw, pg, pp, cf, cm, sp, bd, g1, g2, ppi, rp, bu⟩ := H
  have K : mKeep (fun a => a = 43) h (h.set (43 - 8) (.inl (0, 9, .inl f'))) := keep_set lw.2.1.1 rfl rfl
  have F := fr_of (ow := ow) (n0 := 13) K (fun a z => by rw [z]; exact lw.2.1.2)
  exact ⟨ow, et, er, nsq, lg, po, fpg, fpl, es, sta_keep S (F 0 (by decide)), ⟨q1, T1, krt_keep tr (F 1 (by decide))⟩, ⟨q2, T2, krt_keep re (F 2 (by decide))⟩, rec_keep rc (F 3 (by decide)), pac_keep pa (F 4 (by decide)), kpl_keep ou (F 5 (by decide)), fld_keep fl (F 6 (by decide)), one_keep pr (F 7 (by decide)), que_keep qu (F 8 (by decide)), ⟨one_keep w9.1 (F 9 (by decide)), w9.2⟩, ⟨s2, one_keep w10.1 (F 10 (by decide)), w10.2⟩, one_keep ob (F 11 (by decide)), one_keep rr (F 12 (by decide)), ⟨⟨(cell_setne (by decide) (by decide)).trans lw.1.1, lw.1.2⟩, ⟨cell_set lw.2.1.1, lw.2.1.2⟩, ⟨(cell_setne (by decide) (by decide)).trans lw.2.2.1, lw.2.2.2⟩⟩, (fun i p hi hp => (pg i p hi hp).imp fun c z => kpl_keep z (F (20 + i) (by omega))), (fun i hi => plan_keep (pp i hi) (F (40 + i) (by omega))), cf, cm, sp, bd, g1, g2, ppi, rp, bud_keep bu K⟩
theorem sh_setE (H : SH oc np fr be cu mg st ar fa sl isr rq rT gone pl s cov fcl fop fg fz fe h) (f' : Nat → Int32) : SH oc np fr be cu mg st ar fa sl isr rq rT gone pl s cov fcl fop fg fz f' (h.set (44 - 8) (.inl (0, 24, .inl f'))) := by
  obtain ⟨ow, et, er, nsq, lg, po, fpg, fpl, es, S, ⟨q1, T1, tr⟩, ⟨q2, T2, re⟩, rc, pa, ou, fl, pr, qu, w9, ⟨s2, w10⟩, ob, rr, lw, pg, pp, cf, cm, sp, bd, g1, g2, ppi, rp, bu⟩ := H
  have K : mKeep (fun a => a = 44) h (h.set (44 - 8) (.inl (0, 24, .inl f'))) := keep_set lw.2.2.1 rfl rfl
  have F := fr_of (ow := ow) (n0 := 13) K (fun a z => by rw [z]; exact lw.2.2.2)
  exact ⟨ow, et, er, nsq, lg, po, fpg, fpl, es, sta_keep S (F 0 (by decide)), ⟨q1, T1, krt_keep tr (F 1 (by decide))⟩, ⟨q2, T2, krt_keep re (F 2 (by decide))⟩, rec_keep rc (F 3 (by decide)), pac_keep pa (F 4 (by decide)), kpl_keep ou (F 5 (by decide)), fld_keep fl (F 6 (by decide)), one_keep pr (F 7 (by decide)), que_keep qu (F 8 (by decide)), ⟨one_keep w9.1 (F 9 (by decide)), w9.2⟩, ⟨s2, one_keep w10.1 (F 10 (by decide)), w10.2⟩, one_keep ob (F 11 (by decide)), one_keep rr (F 12 (by decide)), ⟨⟨(cell_setne (by decide) (by decide)).trans lw.1.1, lw.1.2⟩, ⟨(cell_setne (by decide) (by decide)).trans lw.2.1.1, lw.2.1.2⟩, ⟨cell_set lw.2.2.1, lw.2.2.2⟩⟩, (fun i p hi hp => (pg i p hi hp).imp fun c z => kpl_keep z (F (20 + i) (by omega))), (fun i hi => plan_keep (pp i hi) (F (40 + i) (by omega))), cf, cm, sp, bd, g1, g2, ppi, rp, bud_keep bu K⟩
theorem law_shortens (H : SH oc np fr be cu mg st ar fa sl isr rq rT gone pl s cov fcl fop fg fz fe h) {c : Nat} (G : LG oc np c pl gone fg fz fe) (hc16 : c ≤ 16) {i : Nat} (hi : i < pl.length) : ∃ h' k', mW (mRo L xs) mTab 184 0 [some (.ref 8), some (.ref 44), some (.int (Int32.ofNat i)), none, none, none] [] h k = some (.inl (some (.int 1)), h', k') ∧ k' ≤ k + 17 ∧ ST h' := by
  obtain ⟨q, T, hiT, hP⟩ := sh_at H hi
  obtain ⟨cN, C⟩ := sh_cl H
  have bd := (sh_bd H).1
  have mvU : mvW (wtG mg cN) (tcN cu) none q T ≤ 149 * T.length := by
    obtain ⟨ow, et, er, nsq, lg, po, fpg, fpl, es, S, ⟨q1, T1, tr⟩, ⟨q2, T2, re⟩, rc, pa, ou, fl, pr, qu, w9, ⟨s2, w10⟩, ob, rr, lw, pg, pp, cf, cm, sp, bd, g1, g2, ppi, rp, bu⟩ := id H
    exact mvW_le (geoW_F cm.2 C) cm.1 T none q hP.1 hP.2.1
  have hTl := hP.2.2.2.2.2
  have c1 : mW (mRo L xs) mTab 178 0 [some (.ref 8), some (.int (Int32.ofNat i)), some (.int 1), none] [] h k = _ := sh_planOf1 (L := L) (xs := xs) (k := k) H hiT C
  have c4 := sh_planOf4 (L := L) (xs := xs) (k := k) H hiT
  have sho := sh_shorten (L := L) (xs := xs) (k := k) H C hiT
  have hd : mW (mRo L xs) mTab 184 0 [some (.ref 8), some (.ref 44), some (.int (Int32.ofNat i)), none, none, none] [] h k = mW (mRo L xs) mTab 184 15 [some (.ref 8), some (.ref 44), some (.int (Int32.ofNat i)), some (.int (Int32.ofNat (mvW (wtG mg cN) (tcN cu) none q T))), some (.int (@ite _ (cDr fop q T) (Classical.propDecidable _) 1 0)), none] [] h k := by
    rw [e184_0, e184_1, e184_2, e184_3 (by simp [Value.category]), c1]
    simp only [mAft, Option.toList_some, List.cons_append, List.nil_append]
    rw [e184_6, e184_7, e184_8, e184_9, e184_10 (by simp [Value.category]), c4]
    simp only [mAft, Option.toList_some, List.cons_append, List.nil_append]
    rw [e184_13]
  by_cases z : cDr fop q T
  · rw [if_pos z] at sho
    obtain ⟨h1, X, le, H1, hPX, hDX, hfX, hmX⟩ := sho
    have hiX : (pl.set i (q, X))[i]? = some (q, X) := List.getElem?_set_self hi
    have c1b : mW (mRo L xs) mTab 178 0 [some (.ref 8), some (.int (Int32.ofNat i)), some (.int 1), none] [] h1 k = _ := sh_planOf1 (L := L) (xs := xs) (k := k) H1 hiX C
    have c4b := sh_planOf4 (L := L) (xs := xs) (k := k) H1 hiX
    rw [if_pos hDX] at c4b
    have g4 := (sh_g H1).2.2.1
    obtain ⟨h2, ip, H2⟩ := law_isPlan (L := L) (xs := xs) (k := k) H1 hiX hPX (l4 := none) (l5 := none) (l6 := none) (l7 := none) (l8 := none) (l9 := none) (l10 := none) (l11 := none) (l12 := none)
    have fe12 := G.2.2.2.2.2 i (q, T) hiT
    have fe1 : fe (2 * i) = told q := fe12.1
    have fe2 : fe (2 * i + 1) = told (Sho.fin q X) := by rw [hfX]; exact fe12.2
    have e2i : (2 : Int32) * Int32.ofNat i = Int32.ofNat (2 * i) := (oi_mul 2 _).symm
    have e2j : (2 : Int32) * Int32.ofNat i + 1 = Int32.ofNat (2 * i + 1) := by rw [e2i, oi_succ]
    have sub1 : Int32.ofNat (mvW (wtG mg cN) (tcN cu) none q T) - Int32.ofNat (mvW (wtG mg cN) (tcN cu) none q T - mvW (wtG mg cN) (tcN cu) none q X) = Int32.ofNat (mvW (wtG mg cN) (tcN cu) none q X) := by
      have e1 : mvW (wtG mg cN) (tcN cu) none q T = mvW (wtG mg cN) (tcN cu) none q X + (mvW (wtG mg cN) (tcN cu) none q T - mvW (wtG mg cN) (tcN cu) none q X) := by omega
      conv => lhs; arg 1; rw [e1, oi_add]
      exact Int32.add_sub_cancel _ _
    refine ⟨h2, k + 5, ?_, by omega, ?_⟩
    · rw [hd, if_pos z]
      rw [e184_15, e184_16, e184_17 (by simp [Value.category]), le]
      simp only [mAft, Option.toList_some, List.cons_append, List.nil_append]
      rw [e184_20, e184_22, e184_24, if_pos (by decide), e184_50, e184_52, if_neg (oi_nneg (by omega)), e184_55, e184_56, e184_57, e184_58 (by simp [Value.category]), c1b]
      simp only [mAft, Option.toList_some, List.cons_append, List.nil_append]
      rw [e184_61, e184_62, e184_64, sub1, e184_65, if_neg (fun z => z rfl), e184_68, e184_69, e184_70, e184_71 (by simp [Value.category]), c4b]
      simp only [mAft, Option.toList_some, List.cons_append, List.nil_append]
      rw [e184_74, e184_75, if_neg (fun z => z rfl), e184_78, e184_79, e184_80, e184_81, e184_82, e184_83, e184_84, rd g4 e2i (by omega) (by decide), e184_85, e184_86, e184_87, e184_88, e184_89, e184_90, e184_91, rd g4 e2j (by omega) (by decide), fe1, fe2, e184_92 (by simp [Value.category]), ip]
      simp only [mAft, Option.toList_some, List.cons_append, List.nil_append]
      rw [e184_95, if_neg (by decide), e184_98, e184_99, e184_103 (Or.inr rfl)]
    · refine ⟨_, _, _, _, _, _, _, _, _, _, _, _, _, _, _, _, _, _, _, _, _, _, c, H2, ⟨G.1, G.2.1, by rw [List.length_set]; exact G.2.2.1, G.2.2.2.1, G.2.2.2.2.1, fun j x hj => ?_⟩, hc16⟩
      by_cases y : j = i
      · rw [y, hiX] at hj
        cases hj
        rw [y]
        exact ⟨fe1, fe2⟩
      · rw [List.getElem?_set_ne (Ne.symm y)] at hj
        exact G.2.2.2.2.2 j x hj
  · rw [if_neg z] at sho
    have le := sho
    have c1b : mW (mRo L xs) mTab 178 0 [some (.ref 8), some (.int (Int32.ofNat i)), some (.int 1), none] [] h (k + 1) = _ := sh_planOf1 (L := L) (xs := xs) (k := k + 1) H hiT C
    refine ⟨h, k + 1, ?_, by omega, ⟨_, _, _, _, _, _, _, _, _, _, _, _, _, _, _, _, _, _, _, _, _, _, c, H, G, hc16⟩⟩
    rw [hd, if_neg z]
    rw [e184_15, e184_16, e184_17 (by simp [Value.category]), le]
    simp only [mAft, Option.toList_some, List.cons_append, List.nil_append]
    rw [e184_20, e184_22, e184_24, if_neg (fun z => z rfl), e184_27, e184_29, e184_31, if_neg (fun z => z rfl), e184_34, e184_35, e184_36, e184_37 (by simp [Value.category]), c1b]
    simp only [mAft, Option.toList_some, List.cons_append, List.nil_append]
    rw [e184_40, e184_41, if_neg (fun z => z rfl), e184_44, e184_45, e184_49 (Or.inr rfl)]
end
