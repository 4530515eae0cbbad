section
variable {L : Nat} {xs : Nat → Int32} {k : Nat} {h : List mCel} {ow : Nat → Nat}
theorem nm1 {p : Nat} (hp : p < 1000000) : ¬ Int32.ofNat p = -1 := fun z => by
  have := congrArg Int32.toInt z
  rw [oi_int (by omega)] at this
  have h2 : (-1 : Int32).toInt = -1 := rfl
  omega
theorem rec_ow {rq : Nat} {rT : List (Nat × Nat)} (rc : KRec rq rT ow h) {a : Nat} (z : a = 36 ∨ a = 37 ∨ a = 38) : ow a = 3 := by
  rcases z with z | z | z
  · rw [z]; exact rc.2.1
  · rw [z]; exact rc.2.2.1
  · rw [z]; exact rc.2.2.2
theorem val_snoc {dr : Nat → Nat → Option Nat} : ∀ (T : List (Nat × Nat)) (q m x : Nat), Sho.Val dr q T → dr (Sho.fin q T) m = some x → Sho.Val dr q (T ++ [(m, x)])
  | [], q, m, x, _, h => ⟨h, trivial⟩
  | a :: T, q, m, x, hv, h => ⟨hv.1, val_snoc T a.2 m x hv.2 h⟩

variable {oc np fr be cu mg st ar fa sl isr rq : Nat} {rT : List (Nat × Nat)} {gone : Nat → Bool} {pl : List (Nat × List (Nat × Nat))} {s : wS} {cov fcl fop fg fz fe : Nat → Int32}

theorem sh_begin (H : SH oc np fr be cu mg st ar fa sl isr rq rT gone pl s cov fcl fop fg fz fe h) {p : Nat} (hp : p < 2048) : if oF fop p = true then ∃ h', mW (mRo L xs) mTab 157 0 [some (.ref 8), some (.int (Int32.ofNat (p % 16))), some (.int (Int32.ofNat (p / 16 % 16))), some (.int (Int32.ofNat (p / 256))), none] [] h k = some (.inl (some (.int 0)), h', k) ∧ SH oc np fr be cu mg st ar fa sl 1 p [] gone pl s cov fcl fop fg fz fe h' else
    mW (mRo L xs) mTab 157 0 [some (.ref 8), some (.int (Int32.ofNat (p % 16))), some (.int (Int32.ofNat (p / 16 % 16))), some (.int (Int32.ofNat (p / 256))), none] [] h k = some (.inl (some (.int (-1000003))), h, k + 1) := by
  obtain ⟨ow, et, er, nsq, lg, po, fpg, fpl, es, S, ⟨q1, T1, tr⟩, ⟨q2, T2, re⟩, rc, pa, ou, fl, pr, qu, w9, ⟨s2, w10⟩, ob, rr, lw, pg, pp, cf, cm, sp, bd, g1, g2, ppi, rp, bu⟩ := H
  have r1 := c_reqPose (L := L) (xs := xs) (k := k) (h := h) hp
  have io := c_isOpen (L := L) (xs := xs) (k := k) (p := Int32.ofNat p) (fs := f12 np fr be) fl.1.1 rfl fl.1.2.2.2.2
  have io2 : mW (mRo L xs) mTab 16 0 [some (.ref 12), some (.int (Int32.ofNat p))] [] h k = some (.inl (some (.int (if oF fop p = true then 1 else 0))), h, k) := by
    rw [io]
    by_cases z : oF fop p = true
    · rw [if_pos z, if_pos ((oF_open hp).mpr z)]
    · rw [if_neg z, if_neg (fun y => z ((oF_open hp).mp y))]
  have go : mW (mRo L xs) mTab 157 0 [some (.ref 8), some (.int (Int32.ofNat (p % 16))), some (.int (Int32.ofNat (p / 16 % 16))), some (.int (Int32.ofNat (p / 256))), none] [] h k = mAft (mW (mRo L xs) mTab) (mHd mM_157) 157 4 [some (.ref 8), some (.int (Int32.ofNat (p % 16))), some (.int (Int32.ofNat (p / 16 % 16))), some (.int (Int32.ofNat (p / 256))), none] [] (mW (mRo L xs) mTab 38 17 [some (.ref 8), some (.int (Int32.ofNat (p % 16))), some (.int (Int32.ofNat (p / 16 % 16))), some (.int (Int32.ofNat (p / 256))), some (.int (Int32.ofNat p))] [.int (if oF fop p = true then 1 else 0)] h k) := by
    rw [e157_0, e157_1, e157_2, e157_3, e157_4 (kR_eq ob.1) (by simp [Value.category]), e38_0, e38_1, e38_2, e38_3 (by simp [Value.category]), r1]
    simp only [mAft, Option.toList_some, List.cons_append, List.nil_append]
    rw [e38_6, e38_8, e38_9, kF_eq ob.1 (v := .ref 12) rfl, e38_12, e38_14 (kR_eq fl.1.1) (by simp [Value.category]), io2]
    simp only [mAft, Option.toList_some, List.cons_append, List.nil_append]
  by_cases z : oF fop p = true
  · rw [if_pos z]
    obtain ⟨h1, A1, A2, K1⟩ := rt_restart (L := L) (xs := xs) (k := k) rc.1 (p := p)
    have F1 := fr_of (ow := ow) (n0 := 3) K1 (fun a z => rec_ow rc z)
    have ob1 := one_keep ob (F1 11 (by decide))
    let h2 := h1.set (8 - 8) (c8 pl.length 1 po)
    have K2 : mKeep (fun a => a = 8) h1 h2 := keep_set ob1.1 rfl rfl
    have K : mKeep (fun a => (a = 36 ∨ a = 37 ∨ a = 38) ∨ a = 8) h h2 := ⟨K2.1.trans K1.1, K2.2.1.trans K1.2.1, fun a na => (K2.2.2 a (fun z => na (Or.inr z))).trans (K1.2.2 a (fun z => na (Or.inl z)))⟩
    have F2 : ∀ n, n ≠ 3 → n ≠ 11 → FrN n ow ow h h2 := fun n h3 h11 a ha ho => ⟨ho, K.2.2 a fun z => by
      rcases z with (z | z | z) | z <;> rw [z] at ho
      · exact h3 (ho.symm.trans rc.2.1)
      · exact h3 (ho.symm.trans rc.2.2.1)
      · exact h3 (ho.symm.trans rc.2.2.2)
      · exact h11 (ho.symm.trans ob.2)⟩
    have A2' := rt_keep A2 (ext_of K2) (by decide) (by decide) (by decide)
    refine ⟨h2, ?_, ⟨ow, et, er, nsq, lg, po, fpg, fpl, es, sta_keep S (F2 0 (by decide) (by decide)), ⟨q1, T1, krt_keep tr (F2 1 (by decide) (by decide))⟩, ⟨q2, T2, krt_keep re (F2 2 (by decide) (by decide))⟩, ⟨A2', rc.2⟩, pac_keep pa (F2 4 (by decide) (by decide)), kpl_keep ou (F2 5 (by decide) (by decide)), fld_keep fl (F2 6 (by decide) (by decide)), one_keep pr (F2 7 (by decide) (by decide)), que_keep qu (F2 8 (by decide) (by decide)), ⟨one_keep w9.1 (F2 9 (by decide) (by decide)), w9.2⟩, ⟨s2, one_keep w10.1 (F2 10 (by decide) (by decide)), w10.2⟩, ⟨cell_set ob1.1, ob.2⟩, one_keep rr (F2 12 (by decide) (by decide)), law_keep lw (F2 13 (by decide) (by decide)), (fun i p hi hp => (pg i p hi hp).imp fun c z => kpl_keep z (F2 (20 + i) (by omega) (by omega))), (fun i hi => plan_keep (pp i hi) (F2 (40 + i) (by omega) (by omega))), cf, cm, sp, ⟨by decide, bd.2⟩, g1, g2, ppi, ⟨hp, fun x hx => (List.not_mem_nil hx).elim, trivial, Nat.zero_le _⟩, bud_keep bu K⟩⟩
    · rw [go, if_pos z, e38_17, if_pos (by decide), e38_30, e38_31, kF_eq ob.1 (v := .ref 36) rfl, e38_34, e38_36 (kR_eq rc.1.2.choose_spec.choose_spec.1.1) (by simp [Value.category]), A1]
      simp only [mAft, Option.toList_none, List.nil_append]
      rw [e38_39, e38_40, e38_41 (Or.inr rfl), kP_eq ob1.1 (by simp)]
      show mAft _ _ 157 4 _ _ (mW (mRo L xs) mTab 38 44 _ [] h2 k) = _
      rw [e38_44]
      simp only [mAft, Option.toList_none, List.nil_append]
      rw [e157_7, e157_8]
  · rw [if_neg z, go, if_neg z, e38_17, if_neg (fun y => y rfl), e38_20 (by simp [Value.category])]
    simp only [mAft, show mCatch (mHd mM_157) 4 1 = some (16, 4) from rfl]
    dsimp only [List.set]
    rw [e157_16, e157_18]

theorem sh_driveOut (H : SH oc np fr be cu mg st ar fa sl isr rq rT gone pl s cov fcl fop fg fz fe h) {m : Nat} (h6 : 5 < m) (h8 : m < 1000) : mW (mRo L xs) mTab 164 0 [some (.ref 8), some (.int (Int32.ofNat m)), none] [] h k = some (.inl (some (.int (-1000001))), h, k + 1) := by
  obtain ⟨ow, et, er, nsq, lg, po, fpg, fpl, es, S, ⟨q1, T1, tr⟩, ⟨q2, T2, re⟩, rc, pa, ou, fl, pr, qu, w9, ⟨s2, w10⟩, ob, rr, lw, pg, pp, cf, cm, sp, bd, g1, g2, ppi, rp, bu⟩ := H
  rw [e164_0, e164_1, e164_2 (kR_eq ob.1) (by simp [Value.category]), e44_0, e44_1, e44_2, e44_3 (by simp [Value.category]), isOut1 (lo := 0) (hi := 5) (nlt_lit (n := 0) (Nat.zero_le _) (by omega)) (nle_lit (n := 5) (by omega) (by omega))]
  simp only [mAft, Option.toList_some, List.cons_append, List.nil_append]
  rw [e44_6, if_neg (by decide), e44_9 (by simp [Value.category])]
  simp only [mAft, show mCatch (mHd mM_164) 2 2 = some (7, 2) from rfl]
  dsimp only [List.set]
  rw [e164_7, e164_9]
theorem sh_driveNot (H : SH oc np fr be cu mg st ar fa sl isr rq rT gone pl s cov fcl fop fg fz fe h) {m : Nat} (h6 : m < 6) (h0 : isr = 0) : mW (mRo L xs) mTab 164 0 [some (.ref 8), some (.int (Int32.ofNat m)), none] [] h k = some (.inl (some (.int (-1000003))), h, k + 1) := by
  obtain ⟨ow, et, er, nsq, lg, po, fpg, fpl, es, S, ⟨q1, T1, tr⟩, ⟨q2, T2, re⟩, rc, pa, ou, fl, pr, qu, w9, ⟨s2, w10⟩, ob, rr, lw, pg, pp, cf, cm, sp, bd, g1, g2, ppi, rp, bu⟩ := H
  have rg := c_recing (L := L) (xs := xs) (k := k) ob.1 bd.1
  rw [if_neg (by omega)] at rg
  rw [e164_0, e164_1, e164_2 (kR_eq ob.1) (by simp [Value.category]), e44_0, e44_1, e44_2, e44_3 (by simp [Value.category]), isOut0 (lo := 0) (hi := 5) (nlt_lit (n := 0) (Nat.zero_le _) (by omega)) (le_lit (n := 5) (by omega) (by omega))]
  simp only [mAft, Option.toList_some, List.cons_append, List.nil_append]
  rw [e44_6, if_pos rfl, e44_19, e44_20 (kR_eq ob.1) (by simp [Value.category]), rg]
  simp only [mAft, show mHd mM_44 = [] from rfl, cat_nil, show mCatch (mHd mM_164) 2 1 = some (11, 2) from rfl]
  dsimp only [List.set]
  rw [e164_11, e164_13]
theorem sh_drive (H : SH oc np fr be cu mg st ar fa sl isr rq rT gone pl s cov fcl fop fg fz fe h) {m : Nat} (h6 : m < 6) (h1 : isr = 1) (hl : rT.length < 60) : if eG (oF fop) (Sho.fin rq rT) m = 0 then mW (mRo L xs) mTab 164 0 [some (.ref 8), some (.int (Int32.ofNat m)), none] [] h k = some (.inl (some (.int (-1000003))), h, k + 1) else
    ∃ h', mW (mRo L xs) mTab 164 0 [some (.ref 8), some (.int (Int32.ofNat m)), none] [] h k = some (.inl (some (.int (Int32.ofNat (rT.length + 1)))), h', k) ∧ SH oc np fr be cu mg st ar fa sl isr rq (rT ++ [(m, eG (oF fop) (Sho.fin rq rT) m - 1)]) gone pl s cov fcl fop fg fz fe h' := by
  obtain ⟨ow, et, er, nsq, lg, po, fpg, fpl, es, S, ⟨q1, T1, tr⟩, ⟨q2, T2, re⟩, rc, pa, ou, fl, pr, qu, w9, ⟨s2, w10⟩, ob, rr, lw, pg, pp, cf, cm, sp, bd, g1, g2, ppi, rp, bu⟩ := H
  obtain ⟨rq8, rT6, rV, rL⟩ := rp
  have hf : Sho.fin rq rT < 2048 := fin_lt rq8 rT6
  have rg := c_recing (L := L) (xs := xs) (k := k) ob.1 bd.1
  rw [if_pos h1] at rg
  have cn := rt_count (L := L) (xs := xs) (k := k) rc.1
  have lp := rt_lastPose (L := L) (xs := xs) (k := k) rc.1
  have dv := c_driven (L := L) (xs := xs) (k := k) (p := Int32.ofNat (Sho.fin rq rT)) (m := Int32.ofNat m) (fs := f12 np fr be) fl.1.1 rfl fl.1.2.2.2.2
  obtain ⟨ge, gl⟩ := geoE_F fop (Sho.fin rq rT) m hf h6
  rw [ge] at dv
  have rk := kR_eq rc.1.2.choose_spec.choose_spec.1.1
  have go : mW (mRo L xs) mTab 164 0 [some (.ref 8), some (.int (Int32.ofNat m)), none] [] h k = mAft (mW (mRo L xs) mTab) (mHd mM_164) 164 2 [some (.ref 8), some (.int (Int32.ofNat m)), none] [] (mW (mRo L xs) mTab 44 63 [some (.ref 8), some (.int (Int32.ofNat m)), some (.int (qDec 1 (eG (oF fop) (Sho.fin rq rT) m)))] [.int (-1), .int (qDec 1 (eG (oF fop) (Sho.fin rq rT) m))] h k) := by
    rw [e164_0, e164_1, e164_2 (kR_eq ob.1) (by simp [Value.category]), e44_0, e44_1, e44_2, e44_3 (by simp [Value.category]), isOut0 (lo := 0) (hi := 5) (nlt_lit (n := 0) (Nat.zero_le _) (by omega)) (le_lit (n := 5) (by omega) (by omega))]
    simp only [mAft, Option.toList_some, List.cons_append, List.nil_append]
    rw [e44_6, if_pos rfl, e44_19, e44_20 (kR_eq ob.1) (by simp [Value.category]), rg]
    simp only [mAft, Option.toList_none, List.nil_append]
    rw [e44_23, e44_24, kF_eq ob.1 (v := .ref 36) rfl, e44_27 rk (by simp [Value.category]), cn]
    simp only [mAft, Option.toList_some, List.cons_append, List.nil_append]
    rw [e44_30, e44_32, if_pos (show Int32.ofNat rT.length < 60 from lt_lit (n := 60) hl (by decide)), e44_45, e44_46, kF_eq ob.1 (v := .ref 12) rfl, e44_49, e44_50, kF_eq ob.1 (v := .ref 36) rfl, e44_53 rk (by simp [Value.category]), lp]
    simp only [mAft, Option.toList_some, List.cons_append, List.nil_append]
    rw [e44_56, e44_57 (kR_eq fl.1.1) (by simp [Value.category]), dv]
    simp only [mAft, Option.toList_some, List.cons_append, List.nil_append]
    rw [e44_60, e44_61, e44_62]
  by_cases z : eG (oF fop) (Sho.fin rq rT) m = 0
  · rw [if_pos z, go, z, enc_zero, e44_63, if_neg (fun y => y rfl), e44_66 (by simp [Value.category])]
    simp only [mAft, show mCatch (mHd mM_164) 2 1 = some (11, 2) from rfl]
    dsimp only [List.set]
    rw [e164_11, e164_13]
  · rw [if_neg z]
    obtain ⟨x, ex⟩ : ∃ x, eG (oF fop) (Sho.fin rq rT) m = x + 1 := ⟨_, (Nat.succ_pred_eq_of_pos (by omega)).symm⟩
    have x8 : x < 2048 := by omega
    obtain ⟨h', pa', ma', e', B1, B2, B3, B4, B5, B6, B7, B8, B9⟩ := rt_add2 (L := L) (xs := xs) (k := k) rc.1 (by omega) (m := m) (p := x)
    have he : e' = 0 := by
      rcases B9 with y | y
      · exact y
      · have := y.1
        omega
    subst he
    have hlen : h'.length = h.length := by omega
    have hzz : hz h' = hz h := by omega
    have hpa : pa' = 37 := by
      rcases B7 with y | y
      · exact y
      · have := (rt_cells B2).2.1
        omega
    have hma : ma' = 38 := by
      rcases B8 with y | y
      · exact y
      · have := (rt_cells B2).2.2.1
        omega
    subst hpa
    subst hma
    have K : mKeep (fun a => a = 36 ∨ a = 37 ∨ a = 38 ∨ 8 + h.length ≤ a) h h' := ⟨hlen, hzz, fun a na => B6.2 a (by omega) (by omega)⟩
    have F : ∀ n, n ≠ 3 → FrN n ow ow h h' := fun n h3 a ha ho => ⟨ho, B6.2 a ha fun z => by
      rcases z with z | z | z <;> rw [z] at ho
      · exact h3 (ho.symm.trans rc.2.1)
      · exact h3 (ho.symm.trans rc.2.2.1)
      · exact h3 (ho.symm.trans rc.2.2.2)⟩
    have ob1 := one_keep ob (F 11 (by decide))
    have cn1 := rt_count (L := L) (xs := xs) (k := k) B2
    rw [List.length_append, List.length_singleton] at cn1
    rw [ex, Nat.add_sub_cancel]
    refine ⟨h', ?_, ⟨ow, et, er, nsq, lg, po, fpg, fpl, es, sta_keep S (F 0 (by decide)), ⟨q1, T1, krt_keep tr (F 1 (by decide))⟩, ⟨q2, T2, krt_keep re (F 2 (by decide))⟩, ⟨B2, rc.2⟩, pac_keep pa (F 4 (by decide)), kpl_keep ou (F 5 (by decide)), fld_keep fl (F 6 (by decide)), one_keep pr (F 7 (by decide)), que_keep qu (F 8 (by decide)), ⟨one_keep w9.1 (F 9 (by decide)), w9.2⟩, ⟨s2, one_keep w10.1 (F 10 (by decide)), w10.2⟩, one_keep ob (F 11 (by decide)), one_keep rr (F 12 (by decide)), law_keep lw (F 13 (by decide)), (fun i p hi hp => (pg i p hi hp).imp fun c z => kpl_keep z (F (20 + i) (by omega))), (fun i hi => plan_keep (pp i hi) (F (40 + i) (by omega))), cf, cm, sp, bd, g1, g2, ppi, ⟨rq8, fun y hy => ?_, val_snoc rT rq m x rV (dr_geo (o := oF fop) _ _ _ ?_), by simp; omega⟩, bud_keep bu K⟩⟩
    · rw [go, ex, dec_p, e44_63, if_pos (nm1 (by omega)), e44_76, e44_77, kF_eq ob.1 (v := .ref 36) rfl, e44_80, e44_81, e44_82 rk (by simp [Value.category]), B1]
      simp only [mAft, Option.toList_none, List.nil_append]
      rw [e44_85, e44_86, kF_eq ob1.1 (v := .ref 36) rfl, e44_89 (kR_eq B2.2.choose_spec.choose_spec.1.1) (by simp [Value.category]), cn1]
      simp only [mAft, Option.toList_some, List.cons_append, List.nil_append]
      rw [e44_92]
      simp only [mAft, Option.toList_some, List.cons_append, List.nil_append]
      rw [e164_5]
    · rcases List.mem_append.1 hy with w | w
      · exact rT6 y w
      · rw [List.mem_singleton.1 w]; exact ⟨h6, x8⟩
    · unfold drE
      rw [if_neg z, ex, Nat.add_sub_cancel]
theorem sh_keepNot (H : SH oc np fr be cu mg st ar fa sl isr rq rT gone pl s cov fcl fop fg fz fe h) (h0 : isr = 0 ∨ pl.length = 12) : mW (mRo L xs) mTab 171 0 [some (.ref 8), none] [] h k = some (.inl (some (.int (-1000003))), h, k + 1) := by
  obtain ⟨ow, et, er, nsq, lg, po, fpg, fpl, es, S, ⟨q1, T1, tr⟩, ⟨q2, T2, re⟩, rc, pa, ou, fl, pr, qu, w9, ⟨s2, w10⟩, ob, rr, lw, pg, pp, cf, cm, sp, bd, g1, g2, ppi, rp, bu⟩ := H
  have rg := c_recing (L := L) (xs := xs) (k := k) ob.1 bd.1
  have rm := c_room (L := L) (xs := xs) (k := k) ob.1 bd.2.2.1
  rw [e171_0, e171_1 (kR_eq ob.1) (by simp [Value.category]), e50_0, e50_1 (kR_eq ob.1) (by simp [Value.category]), rg]
  by_cases z : isr = 1
  · rw [if_pos z]
    have z12 : pl.length = 12 := by omega
    rw [if_neg (by omega)] at rm
    simp only [mAft, Option.toList_none, List.nil_append]
    rw [e50_4, e50_5 (kR_eq ob.1) (by simp [Value.category]), rm]
    simp only [mAft, show mHd mM_50 = [] from rfl, cat_nil, show mCatch (mHd mM_171) 1 1 = some (6, 1) from rfl]
    dsimp only [List.set]
    rw [e171_6, e171_8]
  · rw [if_neg z]
    simp only [mAft, show mHd mM_50 = [] from rfl, cat_nil, show mCatch (mHd mM_171) 1 1 = some (6, 1) from rfl]
    dsimp only [List.set]
    rw [e171_6, e171_8]
theorem sh_keep (H : SH oc np fr be cu mg st ar fa sl isr rq rT gone pl s cov fcl fop fg fz fe h) (h1 : isr = 1) (hl : pl.length < 12) : ∃ h', mW (mRo L xs) mTab 171 0 [some (.ref 8), none] [] h k = some (.inl (some (.int (Int32.ofNat pl.length))), h', k) ∧ SH oc np fr be cu mg st ar fa sl 0 rq rT gone (pl ++ [(rq, rT)]) s cov fcl fop fg fz fe h' := by
  obtain ⟨ow, et, er, nsq, lg, po, fpg, fpl, es, S, ⟨q1, T1, tr⟩, ⟨q2, T2, re⟩, rc, pa, ou, fl, pr, qu, w9, ⟨s2, w10⟩, ob, rr, lw, pg, pp, cf, cm, sp, bd, g1, g2, ppi, rp, bu⟩ := H
  have rg := c_recing (L := L) (xs := xs) (k := k) ob.1 bd.1
  have rm := c_room (L := L) (xs := xs) (k := k) ob.1 bd.2.2.1
  rw [if_pos h1] at rg
  rw [if_pos hl] at rm
  let hA := h.set (8 - 8) (c8 pl.length 0 po)
  have K : mKeep (fun a => a = 8) h hA := keep_set ob.1 rfl rfl
  have F := fr_of (ow := ow) (n0 := 11) K (fun a z => by rw [z]; exact ob.2)
  have ob1 : KOne 11 8 (c8 pl.length 0 po) ow hA := ⟨cell_set ob.1, ob.2⟩
  have H2 : SH oc np fr be cu mg st ar fa sl 0 rq rT gone pl s cov fcl fop fg fz fe hA := ⟨ow, et, er, nsq, lg, po, fpg, fpl, es, sta_keep S (F 0 (by decide)), ⟨q1, T1, krt_keep tr (F 1 (by decide))⟩, ⟨q2, T2, krt_keep re (F 2 (by decide))⟩, rec_keep rc (F 3 (by decide)), pac_keep pa (F 4 (by decide)), kpl_keep ou (F 5 (by decide)), fld_keep fl (F 6 (by decide)), one_keep pr (F 7 (by decide)), que_keep qu (F 8 (by decide)), ⟨one_keep w9.1 (F 9 (by decide)), w9.2⟩, ⟨s2, one_keep w10.1 (F 10 (by decide)), w10.2⟩, ob1, one_keep rr (F 12 (by decide)), law_keep lw (F 13 (by decide)), (fun i p hi hp => (pg i p hi hp).imp fun c z => kpl_keep z (F (20 + i) (by omega))), (fun i hi => plan_keep (pp i hi) (F (40 + i) (by omega))), cf, cm, sp, ⟨by decide, bd.2⟩, g1, g2, ppi, rp, bud_keep bu K⟩
  have rc1 := rec_keep rc (F 3 (by decide))
  obtain ⟨h', B1, B2⟩ := sh_add (L := L) (xs := xs) (k := k) H2 rc1.1 hl (pi_short rp.1 rp.2.1 rp.2.2.1 (by have := rp.2.2.2; omega))
  refine ⟨h', ?_, B2⟩
  have c50 : mW (mRo L xs) mTab 50 0 [some (.ref 8)] [] h k = some (.inl (some (.int (Int32.ofNat pl.length))), h', k) := by
    rw [e50_0, e50_1 (kR_eq ob.1) (by simp [Value.category]), rg]
    simp only [mAft, Option.toList_none, List.nil_append]
    rw [e50_4, e50_5 (kR_eq ob.1) (by simp [Value.category]), rm]
    simp only [mAft, Option.toList_none, List.nil_append]
    rw [e50_8, e50_9, e50_10 (Or.inl rfl), kP_eq ob.1 (by simp)]
    show mW (mRo L xs) mTab 50 13 _ [] hA k = _
    rw [e50_13, e50_14, e50_15, kF_eq ob1.1 (v := .ref 36) rfl, e50_18 (kR_eq ob1.1) (by simp [Value.category]), B1]
    simp only [mAft, Option.toList_some, List.cons_append, List.nil_append]
    rw [e50_21]
  rw [e171_0, e171_1 (kR_eq ob.1) (by simp [Value.category]), c50]
  simp only [mAft, Option.toList_some, List.cons_append, List.nil_append]
  rw [e171_4]
end
