section
variable {L : Nat} {xs : Nat → Int32} {k : Nat} {h : List mCel}
theorem mv_low {wt : Nat → Nat → Nat → Nat} {cu : Nat} (h10 : ∀ p a x, 10 ≤ wt p a x) : ∀ (T : List (Nat × Nat)) (l : Option Nat) (q : Nat), 10 * T.length ≤ mvW wt (tcN cu) l q T
  | [], _, _ => Nat.zero_le _
  | a :: T, l, q => by
    have := mv_low (cu := cu) h10 T (some a.1) a.2
    have := h10 q a.1 a.2
    rw [List.length_cons, mvW]
    omega
theorem nSeg_pos {l : Option Nat} {b : Nat × Nat} {B : List (Nat × Nat)} (h : l ≠ some b.1) : 0 < nSeg l (b :: B) := by
  rw [nSeg, if_neg h]
  omega

variable {oc np fr be cu mg st ar fa sl isr rq : Nat} {rT : List (Nat × Nat)} {gone : Nat → Bool} {pl : List (Nat × List (Nat × Nat))} {s : wS} {cov fcl fop fg fz fe : Nat → Int32}

theorem pl_seg (H : SH oc np fr be cu mg st ar fa sl isr rq rT gone pl s cov fcl fop fg fz fe h) {i q : Nat} {T : List (Nat × Nat)} (hi : pl[i]? = some (q, T)) (hP : PI q T) {l2 l3 l6 : Option Value} : ∀ (d : Nat) (E B : List (Nat × Nat)) (l11 l12 : Option Value), B.length ≤ d → T = E ++ B → (∀ b B', B = b :: B' → Sho.lst none E ≠ some b.1) →
    ∃ l9 l10 l11' l12', mW (mRo L xs) mTab 169 150 [some (.ref 8), some (.int (Int32.ofNat i)), l2, l3, some (.int (Int32.ofNat T.length)), some (.int (Int32.ofNat (nSeg none T))), l6, some (.int 1), some (.int (Int32.ofNat E.length)), some (.int (oI (Sho.lst none E))), some (.int (Int32.ofNat (nSeg none E))), l11, l12] [] h k = mW (mRo L xs) mTab 169 244 [some (.ref 8), some (.int (Int32.ofNat i)), l2, l3, some (.int (Int32.ofNat T.length)), some (.int (Int32.ofNat (nSeg none T))), l6, some (.int 1), some (.int (Int32.ofNat T.length)), l9, l10, l11', l12'] [] h k := by
  have hTv := hP.2.1
  have hTl := hP.2.2.2.2.2
  have sT := nSeg_le T none
  intro d
  induction d with
  | zero =>
    intro E B l11 l12 hd hT hb
    have : B = [] := List.length_eq_zero_iff.mp (by omega)
    subst this
    rw [List.append_nil] at hT
    subst hT
    exact ⟨_, _, _, _, by rw [e169_150, e169_152, e169_154, if_pos (Int32.le_refl _)]⟩
  | succ d IH =>
    intro E B l11 l12 hd hT hb
    cases B with
    | nil =>
      rw [List.append_nil] at hT
      subst hT
      exact ⟨_, _, _, _, by rw [e169_150, e169_152, e169_154, if_pos (Int32.le_refl _)]⟩
    | cons b B =>
      have hl := hb b B rfl
      obtain ⟨A, C, hA, lA, a0, a99, nA, lstA, hC⟩ := seg_next hP hT hl
      have b6 := (hTv b (by rw [hT]; simp)).1
      have nE : nSeg none T = nSeg none E + nSeg (Sho.lst none E) (b :: B) := by rw [hT]; exact nSeg_app _ _ _
      have np := nSeg_pos (B := B) hl
      have sg := sh_segment (L := L) (xs := xs) (k := k) H hi hT (j := nSeg none E) (by omega) (by rw [hT]; have := sg_at (i := nSeg none E) (b := b) (B := B) E none 0 0 (Nat.zero_add _) hl; rwa [Nat.zero_add] at this)
      have mv := sh_moveOf (L := L) (xs := xs) (k := k) H hi hT
      have ne : ¬ Int32.ofNat b.1 = oI (Sho.lst none E) := fun z => by
        have e := (oI_inj (a := some b.1) (b := Sho.lst none E) (fun m hm => by cases hm; exact b6) (fun m hm => by
          rcases List.eq_nil_or_concat E with y | ⟨E', x, y⟩
          · rw [y] at hm; cases hm
          · rw [List.concat_eq_append] at y
            rw [y, lst_app] at hm
            cases hm
            exact (hTv x (by rw [hT, y]; simp)).1)).mp z
        exact hl e.symm
      have hT2 : T = (E ++ A) ++ C := by rw [hT, hA, List.append_assoc]
      have lC : C.length ≤ d := by
        have := congrArg List.length hA
        rw [List.length_append, List.length_cons, lA] at this
        rw [List.length_cons] at hd
        omega
      obtain ⟨r9, r10, r11, r12, e⟩ := IH (E ++ A) C (some (.int (100 * Int32.ofNat b.1 + Int32.ofNat (alk b.1 (b :: B))))) (some (.int (Int32.ofNat b.1))) lC hT2 (fun c C' hc => by
        rw [lstA]
        intro y
        rw [hc] at hC
        exact hC y.symm)
      refine ⟨r9, r10, r11, r12, ?_⟩
      rw [e169_150, e169_152, e169_154, if_neg (by rw [oi_le (by omega) (by omega)]; omega), e169_157, e169_159, if_neg (by decide), e169_162, e169_163, e169_164, e169_166 (by simp [Value.category]), sg]
      simp only [mAft, Option.toList_some, List.cons_append, List.nil_append]
      rw [e169_169, e169_171, e169_173, e169_175 (by decide), (seg_int b6 a99).1, e169_176, e169_178, e169_180, if_neg (oi_nneg (by omega)), e169_183, e169_185, e169_187, if_neg (show ¬ (6 : Int32) ≤ Int32.ofNat b.1 from nle_of b6), e169_190, e169_192, e169_194, if_neg ne, e169_197, e169_199, e169_201 (by decide), (seg_int b6 a99).2, e169_202, if_neg (show ¬ Int32.ofNat _ ≤ (0 : Int32) from nle_lit (n := 0) (by omega) (by omega)), e169_205, e169_206, e169_207, e169_209 (by simp [Value.category]), mv]
      simp only [mAft, Option.toList_some, List.cons_append, List.nil_append]
      rw [e169_212, e169_214, if_neg (fun z => z rfl), e169_217, e169_218, e169_222, e169_224, e169_226, e169_228, e169_230 (by decide), (seg_int b6 a99).2, e169_231, ← oi_add, e169_232, e169_234, e169_236, e169_238, oi_succ, e169_241]
      rw [lstA, nA, List.length_append, lA] at e
      exact e

theorem law_isPlan (H : SH oc np fr be cu mg st ar fa sl isr rq rT gone pl s cov fcl fop fg fz fe h) {i q : Nat} {T : List (Nat × Nat)} (hi : pl[i]? = some (q, T)) (hP : PI q T) {l4 l5 l6 l7 l8 l9 l10 l11 l12 : Option Value} :
    ∃ h', mW (mRo L xs) mTab 169 0 [some (.ref 8), some (.int (Int32.ofNat i)), some (.int (told q)), some (.int (told (Sho.fin q T))), l4, l5, l6, l7, l8, l9, l10, l11, l12] [] h k = some (.inl (some (.int 1)), h', k + 5) ∧ SH oc np fr be cu mg st ar fa sl isr rq rT gone pl s cov fcl fop fg fz fe h' := by
  obtain ⟨cN, C⟩ := sh_cl H
  have hTv := hP.2.1
  have hTl := hP.2.2.2.2.2
  have sT := nSeg_le T none
  have cT := nCus_le T none
  have gw : geoW fcl (Int32.ofNat mg) (wtG mg cN) := by
    obtain ⟨ow, et, er, nsq, lg, po, fpg, fpl, es, S, ⟨q1, T1, tr⟩, ⟨q2, T2, re⟩, rc, pa, ou, fl, pr, qu, w9, ⟨s2, w10⟩, ob, rr, lw, pg, pp, cf, cm, sp, bd, g1, g2, ppi, rp, bu⟩ := id H
    exact geoW_F cm.2 C
  have cu100 : cu ≤ 100 := by
    obtain ⟨ow, et, er, nsq, lg, po, fpg, fpl, es, S, ⟨q1, T1, tr⟩, ⟨q2, T2, re⟩, rc, pa, ou, fl, pr, qu, w9, ⟨s2, w10⟩, ob, rr, lw, pg, pp, cf, cm, sp, bd, g1, g2, ppi, rp, bu⟩ := id H
    exact cm.1
  have mvU := mvW_le gw cu100 T none q hP.1 hTv
  have mvL := mv_low (cu := cu) (wt_10 mg cN) T none q
  have a0 : mW (mRo L xs) mTab 178 0 [some (.ref 8), some (.int (Int32.ofNat i)), some (.int 0), none] [] h k = _ := sh_planOf0 (L := L) (xs := xs) (k := k) H hi
  have a3 : mW (mRo L xs) mTab 178 0 [some (.ref 8), some (.int (Int32.ofNat i)), some (.int 3), none] [] h k = _ := sh_planOf3 (L := L) (xs := xs) (k := k) H hi
  have a2 : mW (mRo L xs) mTab 178 0 [some (.ref 8), some (.int (Int32.ofNat i)), some (.int 2), none] [] h k = _ := sh_planOf2 (L := L) (xs := xs) (k := k) H hi
  have p0 : mW (mRo L xs) mTab 181 0 [some (.ref 8), some (.int (Int32.ofNat i)), some (.int 0), none] [] h k = some (.inl (some (.int (told q))), h, k) := sh_poseOf (L := L) (xs := xs) (k := k) H hi (E := []) (B := T) rfl
  have pT := sh_poseOf (L := L) (xs := xs) (k := k) H hi (E := T) (B := []) (by simp)
  have pO := sh_poseOut (L := L) (xs := xs) (k := k) H hi
  have mO := sh_moveOut (L := L) (xs := xs) (k := k + 1) H hi
  have a5 := sh_planOf5 (L := L) (xs := xs) (k := k + 1 + 1) H hi
  have a1 : mW (mRo L xs) mTab 178 0 [some (.ref 8), some (.int (Int32.ofNat i)), some (.int 1), none] [] h (k + 1 + 1 + 1) = _ := sh_planOf1 (L := L) (xs := xs) (k := k + 1 + 1 + 1) H hi C
  have sO := sh_segOut (L := L) (xs := xs) (k := k + 1 + 1 + 1) H hi (j := nSeg none T) (by omega) (sg_none T none 0 0 (by omega))
  obtain ⟨h1, f0, s0', H1, q0, _⟩ := sh_speed (L := L) (xs := xs) (k := k + 1 + 1 + 1 + 1) H hi (j := 0) (Nat.zero_le _)
  have s0 : mW (mRo L xs) mTab 185 0 [some (.ref 8), some (.int (Int32.ofNat i)), some (.int 0), none] [] h (k + 1 + 1 + 1 + 1) = _ := s0'
  clear s0'
  obtain ⟨h2, f1, s1, H2, q1, _⟩ := sh_speed (L := L) (xs := xs) (k := k + 1 + 1 + 1 + 1) H1 hi (j := T.length) (Nat.le_refl _)
  have sOut := sh_speedOut (L := L) (xs := xs) (k := k + 1 + 1 + 1 + 1) H2 hi
  obtain ⟨h3, g, v, pk, H3, _, fv, _⟩ := sh_peak (L := L) (xs := xs) (k := k + 1 + 1 + 1 + 1 + 1) H2 hi
  have pk0 : ¬ FP.f2i v < 0 := fun z => by
    rw [Int32.lt_iff_toInt_lt] at z
    have := (pk_ok fv).1
    have h2 : (0 : Int32).toInt = 0 := rfl
    omega
  have rs0 : rst (T.take 0) (T.drop 0) := Or.inl List.take_zero
  have rsT : rst (T.take T.length) (T.drop T.length) := Or.inr (Or.inl (by rw [List.drop_length]))
  obtain ⟨r9, r10, r11, r12, sl⟩ := pl_seg (L := L) (xs := xs) (k := k + 1 + 1 + 1 + 1) H hi hP (l2 := some (.int (told q))) (l3 := some (.int (told (Sho.fin q T)))) (l6 := some (.int (Int32.ofNat (nCus none T)))) T.length [] T l11 l12 (Nat.le_refl _) rfl (fun b B' _ z => by cases z)
  obtain ⟨h4, lp, H4⟩ := pl_sp (L := L) (xs := xs) (k := k + 1 + 1 + 1 + 1 + 1) hi hTv hTl (l2 := some (.int (told q))) (l3 := some (.int (told (Sho.fin q T)))) (l5 := some (.int (Int32.ofNat (nSeg none T)))) (l6 := some (.int (Int32.ofNat (nCus none T)))) (l8 := some (.int (Int32.ofNat T.length))) (l9 := r9) 5 1 h3 r11 r12 rfl (Nat.le_refl _) H3
  refine ⟨h4, ?_, H4⟩
  have end' : mW (mRo L xs) mTab 169 150 [some (.ref 8), some (.int (Int32.ofNat i)), some (.int (told q)), some (.int (told (Sho.fin q T))), some (.int (Int32.ofNat T.length)), some (.int (Int32.ofNat (nSeg none T))), some (.int (Int32.ofNat (nCus none T))), some (.int 1), some (.int 0), some (.int (-1)), some (.int 0), l11, l12] [] h (k + 1 + 1 + 1 + 1) = some (.inl (some (.int 1)), h4, k + 5) := by
    refine Eq.trans sl ?_
    rw [e169_244, e169_246, if_neg (by decide), e169_249, e169_251, e169_253, if_pos rfl, e169_263, e169_264, e169_265, e169_266 (by simp [Value.category]), s0]
    simp only [mAft, Option.toList_some, List.cons_append, List.nil_append]
    rw [e169_269, e169_270, e169_271, if_neg (by rw [fz_eq (q0 0 (Nat.zero_le _)).1 ((q0 0 (Nat.zero_le _)).2.1 rs0)]; decide), e169_274, e169_275, e169_276, e169_278 (by simp [Value.category]), s1]
    simp only [mAft, Option.toList_some, List.cons_append, List.nil_append]
    rw [e169_281, e169_282, e169_283, if_neg (by rw [fz_eq (q1 _ (Nat.le_refl _)).1 ((q1 _ (Nat.le_refl _)).2.1 rsT)]; decide), e169_286, e169_287, e169_288, e169_290, e169_291, oi_succ, e169_292 (by simp [Value.category]), sOut]
    simp only [mAft, Option.toList_some, List.cons_append, List.nil_append]
    rw [e169_295, e169_297, e169_298, if_neg (by rw [fc_out]; decide), e169_301, e169_302, e169_303 (by simp [Value.category]), pk]
    simp only [mAft, Option.toList_some, List.cons_append, List.nil_append]
    rw [e169_306, if_neg pk0, e169_309, e169_310, e169_314, e169_316, e169_317]
    exact lp
  have mid : mW (mRo L xs) mTab 169 108 [some (.ref 8), some (.int (Int32.ofNat i)), some (.int (told q)), some (.int (told (Sho.fin q T))), some (.int (Int32.ofNat T.length)), some (.int (Int32.ofNat (nSeg none T))), some (.int (Int32.ofNat (nCus none T))), l7, l8, l9, l10, l11, l12] [] h (k + 1 + 1 + 1) = some (.inl (some (.int 1)), h4, k + 5) := by
    rw [e169_108, e169_109, e169_110, e169_111 (by simp [Value.category]), a1]
    simp only [mAft, Option.toList_some, List.cons_append, List.nil_append]
    rw [e169_114, e169_116, e169_118, show (10 : Int32) * Int32.ofNat T.length = Int32.ofNat (10 * T.length) from (oi_mul 10 _).symm, e169_119, if_neg (by rw [oi_lt (by omega) (by omega)]; omega), e169_122, e169_123, e169_124, e169_126 (by simp [Value.category]), sO]
    simp only [mAft, Option.toList_some, List.cons_append, List.nil_append]
    rw [e169_129, e169_131, if_neg (fun z => z rfl), e169_134, e169_135, e169_139, e169_141, e169_142, e169_144, e169_145, e169_147, e169_148]
    exact end'
  have hd : mW (mRo L xs) mTab 169 0 [some (.ref 8), some (.int (Int32.ofNat i)), some (.int (told q)), some (.int (told (Sho.fin q T))), l4, l5, l6, l7, l8, l9, l10, l11, l12] [] h k = mW (mRo L xs) mTab 169 98 [some (.ref 8), some (.int (Int32.ofNat i)), some (.int (told q)), some (.int (told (Sho.fin q T))), some (.int (Int32.ofNat T.length)), some (.int (Int32.ofNat (nSeg none T))), some (.int (Int32.ofNat (nCus none T))), l7, l8, l9, l10, l11, l12] [.int (Int32.ofNat T.length)] h (k + 1 + 1 + 1) := by
    rw [e169_0, e169_1, e169_2, e169_3 (by simp [Value.category]), a0]
    simp only [mAft, Option.toList_some, List.cons_append, List.nil_append]
    rw [e169_6, e169_8, e169_9, e169_10, e169_11 (by simp [Value.category]), a3]
    simp only [mAft, Option.toList_some, List.cons_append, List.nil_append]
    rw [e169_14, e169_16, e169_17, e169_18, e169_19 (by simp [Value.category]), a2]
    simp only [mAft, Option.toList_some, List.cons_append, List.nil_append]
    rw [e169_22, e169_24, e169_25, e169_26, e169_27 (by simp [Value.category]), p0]
    simp only [mAft, Option.toList_some, List.cons_append, List.nil_append]
    rw [e169_30, e169_31, if_neg (fun z => z rfl), e169_34, e169_35, e169_36, e169_38 (by simp [Value.category]), pT]
    simp only [mAft, Option.toList_some, List.cons_append, List.nil_append]
    rw [e169_41, e169_42, if_neg (fun z => z rfl), e169_45, e169_46, e169_47, e169_49, e169_50, oi_succ, e169_51 (by simp [Value.category]), pO]
    simp only [mAft, Option.toList_some, List.cons_append, List.nil_append]
    rw [e169_54, e169_56, if_neg (fun z => z rfl), e169_59, e169_60, e169_61, e169_63 (by simp [Value.category]), mO]
    simp only [mAft, Option.toList_some, List.cons_append, List.nil_append]
    rw [e169_66, e169_68, if_neg (fun z => z rfl), e169_71, e169_72, e169_73, e169_74 (by simp [Value.category]), a5]
    simp only [mAft, Option.toList_some, List.cons_append, List.nil_append]
    rw [e169_77, e169_79, if_neg (fun z => z rfl), e169_82, e169_84, e169_86, if_neg (by rw [oi_lt (by omega) (by omega)]; omega), e169_89, e169_91, e169_93, if_neg (by rw [oi_lt (by omega) (by omega)]; omega), e169_96]
  rw [hd, e169_98]
  by_cases z : T = []
  · rw [if_pos (by rw [z]; rfl)]
    exact mid
  · have lt := nCus_lt z
    have l0 : T.length ≠ 0 := fun y => z (List.length_eq_zero_iff.mp y)
    rw [if_neg (show ¬ Int32.ofNat T.length = 0 from fun y => by
      have := congrArg Int32.toInt y
      rw [oi_int (by omega)] at this
      have h2 : (0 : Int32).toInt = 0 := rfl
      omega)]
    rw [e169_101, e169_103, e169_105, if_neg (by rw [oi_le (by omega) (by omega)]; omega)]
    exact mid
end
