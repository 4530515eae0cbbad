section
variable {L : Nat} {xs : Nat → Int32} {k : Nat} {h : List mCel} {ow : Nat → Nat}
theorem bud_sq {et er nsq lg np pn m : Nat} {es : Nat → Nat} {h' : List mCel} (bu : Bud et er nsq lg np es pn h) (h1 : nsq ≤ m) (h2 : m ≤ 113068) (h3 : h'.length = h.length + 1) (h4 : hz h' = hz h + 2 * m) : Bud et er (2 * m) (lg + 1) np es pn h' := by
  obtain ⟨u1, u2, u3, u4, u5, u6, u7⟩ := bu
  refine ⟨?_, by omega, ?_, by omega, u5, u6, u7⟩
  · clear u2 u3
    generalize 256 * 2 ^ et = a at *
    generalize 256 * 2 ^ er = b at *
    omega
  · rw [Nat.pow_succ]
    omega

variable {oc np fr be cu mg st ar fa sl isr rq : Nat} {rT : List (Nat × Nat)} {gone : Nat → Bool} {pl : List (Nat × List (Nat × Nat))} {s : wS} {cov fcl fop fg fz fe : Nat → Int32}

theorem sh_reckon (H : SH oc np fr be cu mg st ar fa sl isr rq rT gone pl s cov fcl fop fg fz fe h) {i q : Nat} {T : List (Nat × Nat)} (hi : pl[i]? = some (q, T)) : ∃ h' rt pr1 mr1 e0 po n' sq' f', mCell h 8 = some (c8 pl.length isr po) ∧ mW (mRo L xs) mTab 58 0 [some (.ref 8), some (.int (Int32.ofNat i)), none] [] h k = some (.inl (some (.ref rt)), h, k) ∧ RT rt pr1 mr1 e0 q T h ∧ kR (mCell h 33) 2 = true ∧
    mW (mRo L xs) mTab 97 0 [some (.ref 33), some (.ref rt), none, none] [] h k = some (.inl none, h', k) ∧ SH oc np fr be cu mg st ar fa sl isr rq rT gone pl s cov fcl fop fg fz fe h' ∧ mCell h' 8 = some (c8 pl.length isr po) ∧ RT rt pr1 mr1 e0 q T h' ∧ paH 33 sq' n' st ar fa sl f' h' ∧ T.length < n' ∧ n' ≤ 1000000 ∧ (∀ j, j ≤ T.length → sqOk T f' j) ∧ SqV st ar fa sl q T f' ∧ q < 2048 ∧ (∀ x ∈ T, x.1 < 6 ∧ x.2 < 2048) ∧ T.length ≤ 113068 := by
  obtain ⟨ow, et, er, nsq, lg, po, fpg, fpl, es, S, ⟨q1, T1, tr⟩, ⟨q2, T2, re⟩, rc, pa, ou, fl, pr, qu, w9, ⟨s2, w10⟩, ob, rr, lw, pg, pp, cf, cm, sp, bd, g1, g2, ppi, rp, bu⟩ := H
  have hi12 : i < 12 := by
    have := (List.getElem?_eq_some_iff.mp hi).1
    have := bd.2.2.1
    omega
  have ppi' := pp i hi12
  rw [hi] at ppi'
  obtain ⟨rt, hf, pa1, ma1, R, r1, r2, r3⟩ := ppi'
  have PIx : PI q T := ppi (q, T) (List.mem_of_getElem? hi)
  obtain ⟨hq, hTv, hvN, _, _, hTl7⟩ := id PIx
  have rk := kR_eq R.2.choose_spec.choose_spec.1.1
  have rp := c_reqPlan (L := L) (xs := xs) (k := k) ob rr hi12 hf
  obtain ⟨sq, f, PH, p33, psq⟩ := pa
  have ne : ∀ a b n m, ow a = n → ow b = m → n ≠ m → ¬ a = b := fun a b n m ha hb hn e => hn (by rw [← ha, ← hb, e])
  have o40 : 40 + i ≠ 4 := by omega
  have n6 : nsq ≤ 1000000 := by have := bu.2.2.2.1; omega
  have n64 : 64 ≤ nsq := bu.2.2.2.1.1
  have cl := rt_cells R
  have cs := cell_8 PH.2
  have c33 := cell_8 PH.1
  obtain ⟨h', sq', n', f', B0, B1, ⟨B2, B3⟩, B4, B5, B6⟩ := c_reckon (L := L) (xs := xs) (k := k) n6 sp hq hTv hTl7 (by omega) ⟨ne _ _ _ _ r1 psq o40, ne _ _ _ _ r2 psq o40, ne _ _ _ _ r3 psq o40⟩ ⟨ne _ _ _ _ r1 p33 o40, ne _ _ _ _ r2 p33 o40, ne _ _ _ _ r3 p33 o40⟩ R PH
  have R' := rt_keep R B5 (fun z => z.elim (ne _ _ _ _ r1 p33 o40) (ne _ _ _ _ r1 psq o40)) (fun z => z.elim (ne _ _ _ _ r2 p33 o40) (ne _ _ _ _ r2 psq o40)) (fun z => z.elim (ne _ _ _ _ r3 p33 o40) (ne _ _ _ _ r3 psq o40))
  have c8' : mCell h' 8 = some (c8 pl.length isr po) := (B5.2 8 (by have := cell_8 ob.1; omega) (fun z => z.elim (by decide) (fun z => by rw [← z] at psq; have := ob.2; omega))).trans ob.1
  have all : SH oc np fr be cu mg st ar fa sl isr rq rT gone pl s cov fcl fop fg fz fe h' ∧ n' ≤ 1000000 := by
    rcases B6 with ⟨z1, z2, z3, z4⟩ | ⟨z1, z2, z3, z4, z5⟩
    · subst z1
      subst z2
      have F2 : ∀ n, n ≠ 4 → FrN n ow ow h h' := fun n h4 a ha ho => ⟨ho, B5.2 a ha fun z => by
        rcases z with z | z <;> rw [z] at ho
        · exact h4 (ho.symm.trans p33)
        · exact h4 (ho.symm.trans psq)⟩
      have BU : Bud et er n' lg np es pl.length h' := by
        unfold Bud at bu ⊢
        rw [z3, z4]
        exact bu
      exact ⟨⟨ow, et, er, n', lg, po, fpg, fpl, es, sta_keep S (F2 0 (by decide)), ⟨q1, T1, krt_keep tr (F2 1 (by decide))⟩, ⟨q2, T2, krt_keep re (F2 2 (by decide))⟩, rec_keep rc (F2 3 (by decide)), ⟨sq', f', B1, p33, psq⟩, kpl_keep ou (F2 5 (by decide)), fld_keep fl (F2 6 (by decide)), one_keep pr (F2 7 (by decide)), que_keep qu (F2 8 (by decide)), ⟨one_keep w9.1 (F2 9 (by decide)), w9.2⟩, ⟨s2, one_keep w10.1 (F2 10 (by decide)), w10.2⟩, one_keep ob (F2 11 (by decide)), one_keep rr (F2 12 (by decide)), law_keep lw (F2 13 (by decide)), (fun i p hi hp => (pg i p hi hp).imp fun c z => kpl_keep z (F2 (20 + i) (by omega))), (fun i hi => plan_keep (pp i hi) (F2 (40 + i) (by omega))), cf, cm, sp, bd, g1, g2, ppi, by assumption, BU⟩, n6⟩
    · let ow2 := fun a => if a < 8 + h.length then ow a else 4
      have old : ∀ a n, a < 8 + h.length → ow a = n → ow2 a = n := fun a n ha ho => by
        show (if a < 8 + h.length then ow a else 4) = n
        rw [if_pos ha, ho]
      have F2 : ∀ n, n ≠ 4 → FrN n ow ow2 h h' := fun n h4 a ha ho => ⟨old a n ha ho, B5.2 a ha fun z => by
        rcases z with z | z <;> rw [z] at ho
        · exact h4 (ho.symm.trans p33)
        · exact h4 (ho.symm.trans psq)⟩
      have new : ow2 sq' = 4 := by
        show (if sq' < 8 + h.length then ow sq' else 4) = 4
        rw [if_neg (by omega)]
      have BU : Bud et er n' (lg + 1) np es pl.length h' := by
        rw [z1]
        exact bud_sq bu z2 hTl7 z4 (by rw [z5, z1])
      exact ⟨⟨ow2, et, er, n', lg + 1, po, fpg, fpl, es, sta_keep S (F2 0 (by decide)), ⟨q1, T1, krt_keep tr (F2 1 (by decide))⟩, ⟨q2, T2, krt_keep re (F2 2 (by decide))⟩, rec_keep rc (F2 3 (by decide)), ⟨sq', f', B1, old 33 4 (by omega) p33, new⟩, kpl_keep ou (F2 5 (by decide)), fld_keep fl (F2 6 (by decide)), one_keep pr (F2 7 (by decide)), que_keep qu (F2 8 (by decide)), ⟨one_keep w9.1 (F2 9 (by decide)), w9.2⟩, ⟨s2, one_keep w10.1 (F2 10 (by decide)), w10.2⟩, one_keep ob (F2 11 (by decide)), one_keep rr (F2 12 (by decide)), law_keep lw (F2 13 (by decide)), (fun i p hi hp => (pg i p hi hp).imp fun c z => kpl_keep z (F2 (20 + i) (by omega))), (fun i hi => plan_keep (pp i hi) (F2 (40 + i) (by omega))), cf, cm, sp, bd, g1, g2, ppi, by assumption, BU⟩, by omega⟩
  exact ⟨h', rt, pa1, ma1, es i, po, n', sq', f', ob.1, rp, R, kR_eq PH.1, B0, all.1, c8', R', B1, B4, all.2, B2, B3, hq, hTv, hTl7⟩

theorem sh_speed (H : SH oc np fr be cu mg st ar fa sl isr rq rT gone pl s cov fcl fop fg fz fe h) {i q j : Nat} {T : List (Nat × Nat)} (hi : pl[i]? = some (q, T)) (hj : j ≤ T.length) : ∃ h' f, mW (mRo L xs) mTab 185 0 [some (.ref 8), some (.int (Int32.ofNat i)), some (.int (Int32.ofNat j)), none] [] h k = some (.inl (some (.float (f j))), h', k) ∧ SH oc np fr be cu mg st ar fa sl isr rq rT gone pl s cov fcl fop fg fz fe h' ∧ (∀ j, j ≤ T.length → sqOk T f j) ∧ SqV st ar fa sl q T f := by
  obtain ⟨h', rt, pr1, mr1, e0, po, n', sq', f', ob, rp, R, k33, B0, B1, c8', R', B2, B3, B4, B5, B6, hq, hTv, hTl⟩ := sh_reckon (L := L) (xs := xs) (k := k) H hi
  refine ⟨h', f', ?_, B1, B5, B6⟩
  have hE : Sho.fin q (T.take j) < 2048 := fin_lt hq (fun y hy => hTv y (List.mem_of_mem_take hy))
  have mv := rt_poseAt (L := L) (xs := xs) (k := k) R hj
  have rk := kR_eq R.2.choose_spec.choose_spec.1.1
  have sqa := c_squareAt (L := L) (xs := xs) (k := k) B2 (i := j) B4 (by omega)
  rw [e185_0, e185_1, e185_2, e185_3 (kR_eq ob) (by simp [Value.category]), e65_0, e65_1, e65_2 (kR_eq ob) (by simp [Value.category]), rp]
  simp only [mAft, Option.toList_some, List.cons_append, List.nil_append]
  rw [e65_5, e65_6, e65_7, e65_8 (by simp [Value.category]), e59_0, e59_1, e59_2 rk (by simp [Value.category]), mv]
  simp only [mAft, Option.toList_some, List.cons_append, List.nil_append]
  rw [e59_5, e59_6, e59_7, e59_8, if_pos (np_1 hE), e59_22, e59_23]
  simp only [mAft, Option.toList_some, List.cons_append, List.nil_append]
  rw [e65_11, e65_12, e65_13, kF_eq ob (v := .ref 33) rfl, e65_16, e65_17 k33 (by simp [Value.category]), B0]
  simp only [mAft, Option.toList_none, List.nil_append]
  rw [e65_20, e65_21, kF_eq c8' (v := .ref 33) rfl, e65_24, e65_25 (kR_eq B2.1) (by simp [Value.category]), sqa]
  simp only [mAft, Option.toList_some, List.cons_append, List.nil_append]
  rw [e65_28]
  simp only [mAft, Option.toList_some, List.cons_append, List.nil_append]
  rw [e185_6]
theorem sh_speedOut (H : SH oc np fr be cu mg st ar fa sl isr rq rT gone pl s cov fcl fop fg fz fe h) {i q : Nat} {T : List (Nat × Nat)} (hi : pl[i]? = some (q, T)) : mW (mRo L xs) mTab 185 0 [some (.ref 8), some (.int (Int32.ofNat i)), some (.int (Int32.ofNat (T.length + 1))), none] [] h k = some (.inl (some (.float 3379831824)), h, k + 1) := by
  obtain ⟨ow, et, er, nsq, lg, po, fpg, fpl, es, S, ⟨q1, T1, tr⟩, ⟨q2, T2, re⟩, rc, pa, ou, fl, pr, qu, w9, ⟨s2, w10⟩, ob, rr, lw, pg, pp, cf, cm, sp, bd, g1, g2, ppi, rp, bu⟩ := H
  have hi12 : i < 12 := by
    have := (List.getElem?_eq_some_iff.mp hi).1
    have := bd.2.2.1
    omega
  have ppi' := pp i hi12
  rw [hi] at ppi'
  obtain ⟨rt, hf, pa1, ma1, R, r1, r2, r3⟩ := ppi'
  have PIx : PI q T := ppi (q, T) (List.mem_of_getElem? hi)
  obtain ⟨hq, hTv, hvN, _, _, hTl7⟩ := id PIx
  have rk := kR_eq R.2.choose_spec.choose_spec.1.1
  have rp := c_reqPlan (L := L) (xs := xs) (k := k) ob rr hi12 hf
  have lt : Int32.ofNat T.length < Int32.ofNat (T.length + 1) := (oi_lt (by omega) (by omega)).mpr (Nat.lt_succ_self _)
  have mv := g_poseOut (L := L) (xs := xs) (k := k) R.2.choose_spec.choose_spec.1 (by have := pow_le R.1.1; omega) R.1.2 (i := Int32.ofNat (T.length + 1)) (Or.inr lt)
  rw [e185_0, e185_1, e185_2, e185_3 (kR_eq ob.1) (by simp [Value.category]), e65_0, e65_1, e65_2 (kR_eq ob.1) (by simp [Value.category]), rp]
  simp only [mAft, Option.toList_some, List.cons_append, List.nil_append]
  rw [e65_5, e65_6, e65_7, e65_8 (by simp [Value.category]), e59_0, e59_1, e59_2 rk (by simp [Value.category]), mv]
  simp only [mAft, Option.toList_some, List.cons_append, List.nil_append]
  rw [e59_5, e59_6, e59_7, e59_8, if_neg (fun z => z rfl), e59_11 (by simp [Value.category])]
  simp only [mAft, show mHd mM_65 = [] from rfl, cat_nil, show mCatch (mHd mM_185) 3 2 = some (8, 3) from rfl]
  dsimp only [List.set]
  rw [e185_8, e185_10]
theorem sh_peak (H : SH oc np fr be cu mg st ar fa sl isr rq rT gone pl s cov fcl fop fg fz fe h) {i q : Nat} {T : List (Nat × Nat)} (hi : pl[i]? = some (q, T)) : ∃ h' f v, mW (mRo L xs) mTab 176 0 [some (.ref 8), some (.int (Int32.ofNat i)), none] [] h k = some (.inl (some (.int (FP.f2i v))), h', k) ∧ SH oc np fr be cu mg st ar fa sl isr rq rT gone pl s cov fcl fop fg fz fe h' ∧ SqV st ar fa sl q T f ∧ Fok v ∧ ∀ j, j ≤ T.length → Zf (f j) ≤ Zf v := by
  obtain ⟨h', rt, pr1, mr1, e0, po, n', sq', f', ob, rp, R, k33, B0, B1, c8', R', B2, B3, B4, B5, B6, hq, hTv, hTl⟩ := sh_reckon (L := L) (xs := xs) (k := k) H hi
  obtain ⟨v, v1, v2, v3⟩ := c_greatest (L := L) (xs := xs) (k := k) B4 B3 R' B2 B5
  refine ⟨h', f', v, ?_, B1, B6, v2, v3⟩
  rw [e176_0, e176_1, e176_2 (kR_eq ob) (by simp [Value.category]), e53_0, e53_1, e53_2 (kR_eq ob) (by simp [Value.category]), rp]
  simp only [mAft, Option.toList_some, List.cons_append, List.nil_append]
  rw [e53_5, e53_6, e53_7, kF_eq ob (v := .ref 33) rfl, e53_10, e53_11 k33 (by simp [Value.category]), B0]
  simp only [mAft, Option.toList_none, List.nil_append]
  rw [e53_14, e53_15, kF_eq c8' (v := .ref 33) rfl, e53_18, e53_19 (kR_eq B2.1) (by simp [Value.category]), v1]
  simp only [mAft, Option.toList_some, List.cons_append, List.nil_append]
  rw [e53_22, e53_23]
  simp only [mAft, Option.toList_some, List.cons_append, List.nil_append]
  rw [e176_5]
end
