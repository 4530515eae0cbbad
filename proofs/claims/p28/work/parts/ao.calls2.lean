section
variable {L : Nat} {xs : Nat → Int32} {k : Nat} {h : List mCel} {ow : Nat → Nat}
theorem n58_23 {ro : Nat → Nat × (Nat → Int32)} {l0 l1 l2 : Option Value} {st : List Value} {h : List mCel} {x : Nat} : mW ro mTab 58 23 [l0, l1, l2] (.null :: st) h x = mW ro mTab 58 24 [l0, l1, some .null] st h x := (g_step rfl rfl rfl).trans rfl
theorem n58_24 {ro : Nat → Nat × (Nat → Int32)} {l0 l1 : Option Value} {st : List Value} {h : List mCel} {x : Nat} : mW ro mTab 58 24 [l0, l1, some .null] st h x = mW ro mTab 58 25 [l0, l1, some .null] (.null :: st) h x := (g_step rfl rfl rfl).trans rfl
theorem w55_0 {ro : Nat → Nat × (Nat → Int32)} {l0 l1 l2 l3 : Option Value} {st : List Value} {h : List mCel} {x : Nat} : mW ro mTab 55 7 [l0, l1, l2, l3] (.int 0 :: st) h x = mW ro mTab 55 40 [l0, l1, l2, l3] st h x := (g_step rfl rfl rfl).trans rfl
theorem w55_1 {ro : Nat → Nat × (Nat → Int32)} {l0 l1 l2 l3 : Option Value} {st : List Value} {h : List mCel} {x : Nat} : mW ro mTab 55 7 [l0, l1, l2, l3] (.int 1 :: st) h x = mW ro mTab 55 45 [l0, l1, l2, l3] st h x := (g_step rfl rfl rfl).trans rfl
theorem w55_2 {ro : Nat → Nat × (Nat → Int32)} {l0 l1 l2 l3 : Option Value} {st : List Value} {h : List mCel} {x : Nat} : mW ro mTab 55 7 [l0, l1, l2, l3] (.int 2 :: st) h x = mW ro mTab 55 54 [l0, l1, l2, l3] st h x := (g_step rfl rfl rfl).trans rfl
theorem w55_3 {ro : Nat → Nat × (Nat → Int32)} {l0 l1 l2 l3 : Option Value} {st : List Value} {h : List mCel} {x : Nat} : mW ro mTab 55 7 [l0, l1, l2, l3] (.int 3 :: st) h x = mW ro mTab 55 59 [l0, l1, l2, l3] st h x := (g_step rfl rfl rfl).trans rfl
theorem w55_4 {ro : Nat → Nat × (Nat → Int32)} {l0 l1 l2 l3 : Option Value} {st : List Value} {h : List mCel} {x : Nat} : mW ro mTab 55 7 [l0, l1, l2, l3] (.int 4 :: st) h x = mW ro mTab 55 64 [l0, l1, l2, l3] st h x := (g_step rfl rfl rfl).trans rfl
theorem w55_5 {ro : Nat → Nat × (Nat → Int32)} {l0 l1 l2 l3 : Option Value} {st : List Value} {h : List mCel} {x : Nat} : mW ro mTab 55 7 [l0, l1, l2, l3] (.int 5 :: st) h x = mW ro mTab 55 81 [l0, l1, l2, l3] st h x := (g_step rfl rfl rfl).trans rfl
theorem c_reqPlan {pn isr po i rt : Nat} {fpl : Nat → Option Nat} (ob : KOne 11 8 (c8 pn isr po) ow h) (rr : KOne 12 35 (rfC 6 12 fpl) ow h) (hi : i < 12) (hf : fpl i = some rt) : mW (mRo L xs) mTab 58 0 [some (.ref 8), some (.int (Int32.ofNat i)), none] [] h k = some (.inl (some (.ref rt)), h, k) := by
  have hin : 0 ≤ (Int32.ofNat i).toInt ∧ (Int32.ofNat i).toInt < (12 : Nat) := by rw [oi_int (by omega)]; omega
  rw [e58_0, e58_1, if_neg (oi_nneg (by omega)), e58_4, e58_5, e58_6, kF_eq ob.1 (v := .ref 35) rfl, e58_9, kAL_r rr.1 (Or.inr rfl), e58_10, if_neg (by rw [oi_le (by omega) (by omega)]; omega), e58_13, e58_14, kF_eq ob.1 (v := .ref 35) rfl, e58_17, e58_18, kAA_r rr.1 (Or.inr rfl) hin, oi_nat (by omega), hf]
  dsimp only
  rw [e58_19, e58_23, e58_24, e58_25r, e58_39, e58_40]
theorem c_reqNone {pn isr po i : Nat} {fpl : Nat → Option Nat} (ob : KOne 11 8 (c8 pn isr po) ow h) (rr : KOne 12 35 (rfC 6 12 fpl) ow h) (hi : i < 12) (hf : fpl i = none) : mW (mRo L xs) mTab 58 0 [some (.ref 8), some (.int (Int32.ofNat i)), none] [] h k = some (.inr 2, h, k + 1) := by
  have hin : 0 ≤ (Int32.ofNat i).toInt ∧ (Int32.ofNat i).toInt < (12 : Nat) := by rw [oi_int (by omega)]; omega
  rw [e58_0, e58_1, if_neg (oi_nneg (by omega)), e58_4, e58_5, e58_6, kF_eq ob.1 (v := .ref 35) rfl, e58_9, kAL_r rr.1 (Or.inr rfl), e58_10, if_neg (by rw [oi_le (by omega) (by omega)]; omega), e58_13, e58_14, kF_eq ob.1 (v := .ref 35) rfl, e58_17, e58_18, kAA_r rr.1 (Or.inr rfl) hin, oi_nat (by omega), hf]
  dsimp only
  rw [e58_19, n58_23, n58_24, e58_25, e58_28 (by simp [Value.category])]

variable {oc np fr be cu mg st ar fa sl isr rq : Nat} {rT : List (Nat × Nat)} {gone : Nat → Bool} {pl : List (Nat × List (Nat × Nat))} {s : wS} {cov fcl fop fg fz fe : Nat → Int32}

theorem sh_planOf0 (H : SH oc np fr be cu mg st ar fa sl isr rq rT gone pl s cov fcl fop fg fz fe h) {i q : Nat} {T : List (Nat × Nat)} (hi : pl[i]? = some (q, T)) : mW (mRo L xs) mTab 178 0 [some (.ref 8), some (.int (Int32.ofNat i)), some (.int 0), none] [] h k = some (.inl (some (.int (Int32.ofNat T.length))), h, k) := by
  obtain ⟨ow, et, er, nsq, lg, po, fpg, fpl, es, S, ⟨q1, T1, tr⟩, ⟨q2, T2, re⟩, rc, pa, ou, fl, pr, qu, w9, ⟨s2, w10⟩, ob, rr, lw, pg, pp, cf, cm, sp, bd, g1, g2, ppi, rp, bu⟩ := H
  have hi12 : i < 12 := by
    have := (List.getElem?_eq_some_iff.mp hi).1
    have := bd.2.2.1
    omega
  have ppi' := pp i hi12
  rw [hi] at ppi'
  obtain ⟨rt, hf, pa1, ma1, R, r1, r2, r3⟩ := ppi'
  have PIx : PI q T := ppi (q, T) (List.mem_of_getElem? hi)
  obtain ⟨hq, hTv, hvN, _, _, hTl7⟩ := id PIx
  have rk := kR_eq R.2.choose_spec.choose_spec.1.1
  have rp := c_reqPlan (L := L) (xs := xs) (k := k) ob rr hi12 hf
  skip
  rw [e178_0, e178_1, e178_2, e178_3 (kR_eq ob.1) (by simp [Value.category]), e55_0, e55_1, e55_2 (kR_eq ob.1) (by simp [Value.category]), rp]
  simp only [mAft, Option.toList_some, List.cons_append, List.nil_append]
  rw [e55_5, e55_6, w55_0, e55_40, e55_41 rk (by simp [Value.category]), rt_count R]
  simp only [mAft, Option.toList_some, List.cons_append, List.nil_append]
  rw [e55_44]
  simp only [mAft, Option.toList_some, List.cons_append, List.nil_append]
  rw [e178_6]
theorem sh_planOf1 (H : SH oc np fr be cu mg st ar fa sl isr rq rT gone pl s cov fcl fop fg fz fe h) {i q : Nat} {T : List (Nat × Nat)} (hi : pl[i]? = some (q, T)) {cN : Nat → Nat} (C : clOk cov fcl cN) : mW (mRo L xs) mTab 178 0 [some (.ref 8), some (.int (Int32.ofNat i)), some (.int 1), none] [] h k = some (.inl (some (.int (Int32.ofNat (mvW (wtG mg cN) (tcN cu) none q T)))), h, k) := by
  obtain ⟨ow, et, er, nsq, lg, po, fpg, fpl, es, S, ⟨q1, T1, tr⟩, ⟨q2, T2, re⟩, rc, pa, ou, fl, pr, qu, w9, ⟨s2, w10⟩, ob, rr, lw, pg, pp, cf, cm, sp, bd, g1, g2, ppi, rp, bu⟩ := H
  have hi12 : i < 12 := by
    have := (List.getElem?_eq_some_iff.mp hi).1
    have := bd.2.2.1
    omega
  have ppi' := pp i hi12
  rw [hi] at ppi'
  obtain ⟨rt, hf, pa1, ma1, R, r1, r2, r3⟩ := ppi'
  have PIx : PI q T := ppi (q, T) (List.mem_of_getElem? hi)
  obtain ⟨hq, hTv, hvN, _, _, hTl7⟩ := id PIx
  have rk := kR_eq R.2.choose_spec.choose_spec.1.1
  have rp := c_reqPlan (L := L) (xs := xs) (k := k) ob rr hi12 hf
  have cst := rt_cost (L := L) (xs := xs) (k := k) (pc_H fl pr) (geoW_F cm.2 C) cm.1 hq R hTv
  rw [e178_0, e178_1, e178_2, e178_3 (kR_eq ob.1) (by simp [Value.category]), e55_0, e55_1, e55_2 (kR_eq ob.1) (by simp [Value.category]), rp]
  simp only [mAft, Option.toList_some, List.cons_append, List.nil_append]
  rw [e55_5, e55_6, w55_1, e55_45, e55_46, kF_eq ob.1 (v := .ref 17) rfl, e55_49, e55_50 (kR_eq pr.1) (by simp [Value.category]), cst]
  simp only [mAft, Option.toList_some, List.cons_append, List.nil_append]
  rw [e55_53]
  simp only [mAft, Option.toList_some, List.cons_append, List.nil_append]
  rw [e178_6]
theorem sh_planOf2 (H : SH oc np fr be cu mg st ar fa sl isr rq rT gone pl s cov fcl fop fg fz fe h) {i q : Nat} {T : List (Nat × Nat)} (hi : pl[i]? = some (q, T)) : mW (mRo L xs) mTab 178 0 [some (.ref 8), some (.int (Int32.ofNat i)), some (.int 2), none] [] h k = some (.inl (some (.int (Int32.ofNat (nCus none T)))), h, k) := by
  obtain ⟨ow, et, er, nsq, lg, po, fpg, fpl, es, S, ⟨q1, T1, tr⟩, ⟨q2, T2, re⟩, rc, pa, ou, fl, pr, qu, w9, ⟨s2, w10⟩, ob, rr, lw, pg, pp, cf, cm, sp, bd, g1, g2, ppi, rp, bu⟩ := H
  have hi12 : i < 12 := by
    have := (List.getElem?_eq_some_iff.mp hi).1
    have := bd.2.2.1
    omega
  have ppi' := pp i hi12
  rw [hi] at ppi'
  obtain ⟨rt, hf, pa1, ma1, R, r1, r2, r3⟩ := ppi'
  have PIx : PI q T := ppi (q, T) (List.mem_of_getElem? hi)
  obtain ⟨hq, hTv, hvN, _, _, hTl7⟩ := id PIx
  have rk := kR_eq R.2.choose_spec.choose_spec.1.1
  have rp := c_reqPlan (L := L) (xs := xs) (k := k) ob rr hi12 hf
  skip
  rw [e178_0, e178_1, e178_2, e178_3 (kR_eq ob.1) (by simp [Value.category]), e55_0, e55_1, e55_2 (kR_eq ob.1) (by simp [Value.category]), rp]
  simp only [mAft, Option.toList_some, List.cons_append, List.nil_append]
  rw [e55_5, e55_6, w55_2, e55_54, e55_55 rk (by simp [Value.category]), rt_cuspCount R hTv]
  simp only [mAft, Option.toList_some, List.cons_append, List.nil_append]
  rw [e55_58]
  simp only [mAft, Option.toList_some, List.cons_append, List.nil_append]
  rw [e178_6]
theorem sh_planOf3 (H : SH oc np fr be cu mg st ar fa sl isr rq rT gone pl s cov fcl fop fg fz fe h) {i q : Nat} {T : List (Nat × Nat)} (hi : pl[i]? = some (q, T)) : mW (mRo L xs) mTab 178 0 [some (.ref 8), some (.int (Int32.ofNat i)), some (.int 3), none] [] h k = some (.inl (some (.int (Int32.ofNat (nSeg none T)))), h, k) := by
  obtain ⟨ow, et, er, nsq, lg, po, fpg, fpl, es, S, ⟨q1, T1, tr⟩, ⟨q2, T2, re⟩, rc, pa, ou, fl, pr, qu, w9, ⟨s2, w10⟩, ob, rr, lw, pg, pp, cf, cm, sp, bd, g1, g2, ppi, rp, bu⟩ := H
  have hi12 : i < 12 := by
    have := (List.getElem?_eq_some_iff.mp hi).1
    have := bd.2.2.1
    omega
  have ppi' := pp i hi12
  rw [hi] at ppi'
  obtain ⟨rt, hf, pa1, ma1, R, r1, r2, r3⟩ := ppi'
  have PIx : PI q T := ppi (q, T) (List.mem_of_getElem? hi)
  obtain ⟨hq, hTv, hvN, _, _, hTl7⟩ := id PIx
  have rk := kR_eq R.2.choose_spec.choose_spec.1.1
  have rp := c_reqPlan (L := L) (xs := xs) (k := k) ob rr hi12 hf
  skip
  rw [e178_0, e178_1, e178_2, e178_3 (kR_eq ob.1) (by simp [Value.category]), e55_0, e55_1, e55_2 (kR_eq ob.1) (by simp [Value.category]), rp]
  simp only [mAft, Option.toList_some, List.cons_append, List.nil_append]
  rw [e55_5, e55_6, w55_3, e55_59, e55_60 rk (by simp [Value.category]), rt_segCount R hTv]
  simp only [mAft, Option.toList_some, List.cons_append, List.nil_append]
  rw [e55_63]
  simp only [mAft, Option.toList_some, List.cons_append, List.nil_append]
  rw [e178_6]
/-- a plan can be driven now -/
def cDr (fop : Nat → Int32) (q : Nat) (T : List (Nat × Nat)) : Prop := oF fop q = true ∧ Sho.Val (drE (eG (oF fop))) q T
theorem sh_planOf4 (H : SH oc np fr be cu mg st ar fa sl isr rq rT gone pl s cov fcl fop fg fz fe h) {i q : Nat} {T : List (Nat × Nat)} (hi : pl[i]? = some (q, T)) : mW (mRo L xs) mTab 178 0 [some (.ref 8), some (.int (Int32.ofNat i)), some (.int 4), none] [] h k = some (.inl (some (.int (@ite _ (cDr fop q T) (Classical.propDecidable _) 1 0))), h, k) := by
  obtain ⟨ow, et, er, nsq, lg, po, fpg, fpl, es, S, ⟨q1, T1, tr⟩, ⟨q2, T2, re⟩, rc, pa, ou, fl, pr, qu, w9, ⟨s2, w10⟩, ob, rr, lw, pg, pp, cf, cm, sp, bd, g1, g2, ppi, rp, bu⟩ := H
  have hi12 : i < 12 := by
    have := (List.getElem?_eq_some_iff.mp hi).1
    have := bd.2.2.1
    omega
  have ppi' := pp i hi12
  rw [hi] at ppi'
  obtain ⟨rt, hf, pa1, ma1, R, r1, r2, r3⟩ := ppi'
  have PIx : PI q T := ppi (q, T) (List.mem_of_getElem? hi)
  obtain ⟨hq, hTv, hvN, _, _, hTl7⟩ := id PIx
  have rk := kR_eq R.2.choose_spec.choose_spec.1.1
  have rp := c_reqPlan (L := L) (xs := xs) (k := k) ob rr hi12 hf
  have cd := rt_canDrive (L := L) (xs := xs) (k := k) (fF := f12 np fr be) (geoE_F fop) (fun p hp => oF_open hp) hq R hTv hvN fl.1.1 rfl fl.1.2.2.2.2
  have z01 : ∀ (P : Prop), (@ite _ P (Classical.propDecidable _) (1 : Int32) 0) = 0 ∨ (@ite _ P (Classical.propDecidable _) (1 : Int32) 0) = 1 := fun P => by
    by_cases z : P
    · rw [if_pos z]; exact Or.inr rfl
    · rw [if_neg z]; exact Or.inl rfl
  rw [e178_0, e178_1, e178_2, e178_3 (kR_eq ob.1) (by simp [Value.category]), e55_0, e55_1, e55_2 (kR_eq ob.1) (by simp [Value.category]), rp]
  simp only [mAft, Option.toList_some, List.cons_append, List.nil_append]
  rw [e55_5, e55_6, w55_4, e55_64, e55_65, kF_eq ob.1 (v := .ref 12) rfl, e55_68, e55_69 (kR_eq fl.1.1) (by simp [Value.category]), cd]
  simp only [mAft, Option.toList_some, List.cons_append, List.nil_append]
  rw [e55_72]
  unfold cDr
  by_cases z : oF fop q = true ∧ Sho.Val (drE (eG (oF fop))) q T
  · rw [if_pos z, if_neg (by decide), e55_75, e55_76, e55_80]
    simp only [mAft, Option.toList_some, List.cons_append, List.nil_append]
    rw [e178_6]
  · rw [if_neg z, if_pos rfl, e55_79, e55_80]
    simp only [mAft, Option.toList_some, List.cons_append, List.nil_append]
    rw [e178_6]
theorem sh_planOf5 (H : SH oc np fr be cu mg st ar fa sl isr rq rT gone pl s cov fcl fop fg fz fe h) {i q : Nat} {T : List (Nat × Nat)} (hi : pl[i]? = some (q, T)) : mW (mRo L xs) mTab 178 0 [some (.ref 8), some (.int (Int32.ofNat i)), some (.int 5), none] [] h k = some (.inl (some (.int (-1000002))), h, k + 1) := by
  obtain ⟨ow, et, er, nsq, lg, po, fpg, fpl, es, S, ⟨q1, T1, tr⟩, ⟨q2, T2, re⟩, rc, pa, ou, fl, pr, qu, w9, ⟨s2, w10⟩, ob, rr, lw, pg, pp, cf, cm, sp, bd, g1, g2, ppi, rp, bu⟩ := H
  have hi12 : i < 12 := by
    have := (List.getElem?_eq_some_iff.mp hi).1
    have := bd.2.2.1
    omega
  have ppi' := pp i hi12
  rw [hi] at ppi'
  obtain ⟨rt, hf, pa1, ma1, R, r1, r2, r3⟩ := ppi'
  have PIx : PI q T := ppi (q, T) (List.mem_of_getElem? hi)
  obtain ⟨hq, hTv, hvN, _, _, hTl7⟩ := id PIx
  have rk := kR_eq R.2.choose_spec.choose_spec.1.1
  have rp := c_reqPlan (L := L) (xs := xs) (k := k) ob rr hi12 hf
  rw [e178_0, e178_1, e178_2, e178_3 (kR_eq ob.1) (by simp [Value.category]), e55_0, e55_1, e55_2 (kR_eq ob.1) (by simp [Value.category]), rp]
  simp only [mAft, Option.toList_some, List.cons_append, List.nil_append]
  rw [e55_5, e55_6, w55_5, e55_81 (by simp [Value.category])]
  simp only [mAft, show mCatch (mHd mM_178) 3 0 = some (12, 3) from rfl]
  show mW (mRo L xs) mTab 178 12 [some (.ref 8), some (.int (Int32.ofNat i)), some (.int 5), none] [] h (k + 1) = _
  rw [e178_12, e178_14]
theorem sh_planOfNone (H : SH oc np fr be cu mg st ar fa sl isr rq rT gone pl s cov fcl fop fg fz fe h) {i : Nat} (hi : i < 12) (hn : pl[i]? = none) (v : Int32) : mW (mRo L xs) mTab 178 0 [some (.ref 8), some (.int (Int32.ofNat i)), some (.int v), none] [] h k = some (.inl (some (.int (-1000001))), h, k + 1) := by
  obtain ⟨ow, et, er, nsq, lg, po, fpg, fpl, es, S, ⟨q1, T1, tr⟩, ⟨q2, T2, re⟩, rc, pa, ou, fl, pr, qu, w9, ⟨s2, w10⟩, ob, rr, lw, pg, pp, cf, cm, sp, bd, g1, g2, ppi, rp, bu⟩ := H
  have ppi' := pp i hi
  rw [hn] at ppi'
  have rp := c_reqNone (L := L) (xs := xs) (k := k) ob rr hi ppi'
  rw [e178_0, e178_1, e178_2, e178_3 (kR_eq ob.1) (by simp [Value.category]), e55_0, e55_1, e55_2 (kR_eq ob.1) (by simp [Value.category]), rp]
  simp only [mAft, show mHd mM_55 = [] from rfl, cat_nil, show mCatch (mHd mM_178) 3 2 = some (8, 3) from rfl]
  show mW (mRo L xs) mTab 178 8 [some (.ref 8), some (.int (Int32.ofNat i)), some (.int v), none] [] h (k + 1) = _
  rw [e178_8, e178_10]
theorem sh_moveOf (H : SH oc np fr be cu mg st ar fa sl isr rq rT gone pl s cov fcl fop fg fz fe h) {i q : Nat} {T E B : List (Nat × Nat)} {b : Nat × Nat} (hi : pl[i]? = some (q, T)) (hT : T = E ++ b :: B) : mW (mRo L xs) mTab 175 0 [some (.ref 8), some (.int (Int32.ofNat i)), some (.int (Int32.ofNat E.length)), none] [] h k = some (.inl (some (.int (Int32.ofNat b.1))), h, k) := by
  obtain ⟨ow, et, er, nsq, lg, po, fpg, fpl, es, S, ⟨q1, T1, tr⟩, ⟨q2, T2, re⟩, rc, pa, ou, fl, pr, qu, w9, ⟨s2, w10⟩, ob, rr, lw, pg, pp, cf, cm, sp, bd, g1, g2, ppi, rp, bu⟩ := H
  have hi12 : i < 12 := by
    have := (List.getElem?_eq_some_iff.mp hi).1
    have := bd.2.2.1
    omega
  have ppi' := pp i hi12
  rw [hi] at ppi'
  obtain ⟨rt, hf, pa1, ma1, R, r1, r2, r3⟩ := ppi'
  have PIx : PI q T := ppi (q, T) (List.mem_of_getElem? hi)
  obtain ⟨hq, hTv, hvN, _, _, hTl7⟩ := id PIx
  have rk := kR_eq R.2.choose_spec.choose_spec.1.1
  have rp := c_reqPlan (L := L) (xs := xs) (k := k) ob rr hi12 hf
  have mv := rt_next (L := L) (xs := xs) (k := k) R hT
  have hb := (hTv b (by rw [hT]; simp)).1
  rw [e175_0, e175_1, e175_2, e175_3 (kR_eq ob.1) (by simp [Value.category]), e52_0, e52_1, e52_2 (kR_eq ob.1) (by simp [Value.category]), rp]
  simp only [mAft, Option.toList_some, List.cons_append, List.nil_append]
  rw [e52_5, e52_6 rk (by simp [Value.category]), mv]
  simp only [mAft, Option.toList_some, List.cons_append, List.nil_append]
  rw [show oI (Sho.hd (b :: B)) = Int32.ofNat b.1 from rfl, e52_9, e52_10, e52_11, e52_12, if_pos (oI_ne hb), e52_25, e52_26]
  simp only [mAft, Option.toList_some, List.cons_append, List.nil_append]
  rw [e175_6]
theorem sh_moveOut (H : SH oc np fr be cu mg st ar fa sl isr rq rT gone pl s cov fcl fop fg fz fe h) {i q : Nat} {T : List (Nat × Nat)} (hi : pl[i]? = some (q, T)) : mW (mRo L xs) mTab 175 0 [some (.ref 8), some (.int (Int32.ofNat i)), some (.int (Int32.ofNat T.length)), none] [] h k = some (.inl (some (.int (-1000001))), h, k + 1) := by
  obtain ⟨ow, et, er, nsq, lg, po, fpg, fpl, es, S, ⟨q1, T1, tr⟩, ⟨q2, T2, re⟩, rc, pa, ou, fl, pr, qu, w9, ⟨s2, w10⟩, ob, rr, lw, pg, pp, cf, cm, sp, bd, g1, g2, ppi, rp, bu⟩ := H
  have hi12 : i < 12 := by
    have := (List.getElem?_eq_some_iff.mp hi).1
    have := bd.2.2.1
    omega
  have ppi' := pp i hi12
  rw [hi] at ppi'
  obtain ⟨rt, hf, pa1, ma1, R, r1, r2, r3⟩ := ppi'
  have PIx : PI q T := ppi (q, T) (List.mem_of_getElem? hi)
  obtain ⟨hq, hTv, hvN, _, _, hTl7⟩ := id PIx
  have rk := kR_eq R.2.choose_spec.choose_spec.1.1
  have rp := c_reqPlan (L := L) (xs := xs) (k := k) ob rr hi12 hf
  have mv := rt_next (L := L) (xs := xs) (k := k) R (E := T) (B := []) (by simp)
  rw [e175_0, e175_1, e175_2, e175_3 (kR_eq ob.1) (by simp [Value.category]), e52_0, e52_1, e52_2 (kR_eq ob.1) (by simp [Value.category]), rp]
  simp only [mAft, Option.toList_some, List.cons_append, List.nil_append]
  rw [e52_5, e52_6 rk (by simp [Value.category]), mv]
  simp only [mAft, Option.toList_some, List.cons_append, List.nil_append]
  rw [show oI (Sho.hd ([] : List (Nat × Nat))) = -1 from rfl, e52_9, e52_10, e52_11, e52_12, if_neg (fun z => z rfl), e52_15 (by simp [Value.category])]
  simp only [mAft, show mCatch (mHd mM_175) 3 2 = some (8, 3) from rfl]
  show mW (mRo L xs) mTab 175 8 [some (.ref 8), some (.int (Int32.ofNat i)), some (.int (Int32.ofNat T.length)), none] [] h (k + 1) = _
  rw [e175_8, e175_10]
/-- a pose as it is told -/
def told (p : Nat) : Int32 := 1000 * pH (Int32.ofNat p) + (Int32.ofNat p &&& 255)
theorem np_1 {p : Nat} (hp : p < 2048) : ¬ Int32.ofNat p = -1 := fun z => by
  have := congrArg Int32.toInt z
  rw [oi_int (by omega)] at this
  have h2 : (-1 : Int32).toInt = -1 := rfl
  omega
theorem sh_poseOf (H : SH oc np fr be cu mg st ar fa sl isr rq rT gone pl s cov fcl fop fg fz fe h) {i q : Nat} {T E B : List (Nat × Nat)} (hi : pl[i]? = some (q, T)) (hT : T = E ++ B) : mW (mRo L xs) mTab 181 0 [some (.ref 8), some (.int (Int32.ofNat i)), some (.int (Int32.ofNat E.length)), none] [] h k = some (.inl (some (.int (told (Sho.fin q E)))), h, k) := by
  obtain ⟨ow, et, er, nsq, lg, po, fpg, fpl, es, S, ⟨q1, T1, tr⟩, ⟨q2, T2, re⟩, rc, pa, ou, fl, pr, qu, w9, ⟨s2, w10⟩, ob, rr, lw, pg, pp, cf, cm, sp, bd, g1, g2, ppi, rp, bu⟩ := H
  have hi12 : i < 12 := by
    have := (List.getElem?_eq_some_iff.mp hi).1
    have := bd.2.2.1
    omega
  have ppi' := pp i hi12
  rw [hi] at ppi'
  obtain ⟨rt, hf, pa1, ma1, R, r1, r2, r3⟩ := ppi'
  have PIx : PI q T := ppi (q, T) (List.mem_of_getElem? hi)
  obtain ⟨hq, hTv, hvN, _, _, hTl7⟩ := id PIx
  have rk := kR_eq R.2.choose_spec.choose_spec.1.1
  have rp := c_reqPlan (L := L) (xs := xs) (k := k) ob rr hi12 hf
  have mv := rt_poseE (L := L) (xs := xs) (k := k) R hT
  have hE : Sho.fin q E < 2048 := fin_lt hq (fun y hy => hTv y (by rw [hT]; exact List.mem_append_left _ hy))
  rw [e181_0, e181_1, e181_2, e181_3 (kR_eq ob.1) (by simp [Value.category]), e57_0, e57_1, e57_2 (kR_eq ob.1) (by simp [Value.category]), rp]
  simp only [mAft, Option.toList_some, List.cons_append, List.nil_append]
  rw [e57_5, e57_6 (by simp [Value.category]), e59_0, e59_1, e59_2 rk (by simp [Value.category]), mv]
  simp only [mAft, Option.toList_some, List.cons_append, List.nil_append]
  rw [e59_5, e59_6, e59_7, e59_8, if_pos (np_1 hE), e59_22, e59_23]
  simp only [mAft, Option.toList_some, List.cons_append, List.nil_append]
  rw [e57_9, e57_10, e57_13, e57_14 (by simp [Value.category]), c_headingOf]
  simp only [mAft, Option.toList_some, List.cons_append, List.nil_append]
  rw [e57_17, e57_18, e57_19 (by simp [Value.category]), c_cellOf]
  simp only [mAft, Option.toList_some, List.cons_append, List.nil_append]
  rw [e57_22, e57_23]
  simp only [mAft, Option.toList_some, List.cons_append, List.nil_append]
  rw [e181_6]
  rfl
theorem sh_poseOut (H : SH oc np fr be cu mg st ar fa sl isr rq rT gone pl s cov fcl fop fg fz fe h) {i q : Nat} {T : List (Nat × Nat)} (hi : pl[i]? = some (q, T)) : mW (mRo L xs) mTab 181 0 [some (.ref 8), some (.int (Int32.ofNat i)), some (.int (Int32.ofNat (T.length + 1))), none] [] h k = some (.inl (some (.int (-1000001))), h, k + 1) := by
  obtain ⟨ow, et, er, nsq, lg, po, fpg, fpl, es, S, ⟨q1, T1, tr⟩, ⟨q2, T2, re⟩, rc, pa, ou, fl, pr, qu, w9, ⟨s2, w10⟩, ob, rr, lw, pg, pp, cf, cm, sp, bd, g1, g2, ppi, rp, bu⟩ := H
  have hi12 : i < 12 := by
    have := (List.getElem?_eq_some_iff.mp hi).1
    have := bd.2.2.1
    omega
  have ppi' := pp i hi12
  rw [hi] at ppi'
  obtain ⟨rt, hf, pa1, ma1, R, r1, r2, r3⟩ := ppi'
  have PIx : PI q T := ppi (q, T) (List.mem_of_getElem? hi)
  obtain ⟨hq, hTv, hvN, _, _, hTl7⟩ := id PIx
  have rk := kR_eq R.2.choose_spec.choose_spec.1.1
  have rp := c_reqPlan (L := L) (xs := xs) (k := k) ob rr hi12 hf
  have hl := rt_l17 R
  have lt : Int32.ofNat T.length < Int32.ofNat (T.length + 1) := (oi_lt (by omega) (by omega)).mpr (Nat.lt_succ_self _)
  have mv := g_poseOut (L := L) (xs := xs) (k := k) R.2.choose_spec.choose_spec.1 (by have := pow_le R.1.1; omega) R.1.2 (i := Int32.ofNat (T.length + 1)) (Or.inr lt)
  rw [e181_0, e181_1, e181_2, e181_3 (kR_eq ob.1) (by simp [Value.category]), e57_0, e57_1, e57_2 (kR_eq ob.1) (by simp [Value.category]), rp]
  simp only [mAft, Option.toList_some, List.cons_append, List.nil_append]
  rw [e57_5, e57_6 (by simp [Value.category]), e59_0, e59_1, e59_2 rk (by simp [Value.category]), mv]
  simp only [mAft, Option.toList_some, List.cons_append, List.nil_append]
  rw [e59_5, e59_6, e59_7, e59_8, if_neg (fun z => z rfl), e59_11 (by simp [Value.category])]
  simp only [mAft, show mHd mM_57 = [] from rfl, cat_nil, show mCatch (mHd mM_181) 3 2 = some (8, 3) from rfl]
  show mW (mRo L xs) mTab 181 8 [some (.ref 8), some (.int (Int32.ofNat i)), some (.int (Int32.ofNat (T.length + 1))), none] [] h (k + 1) = _
  rw [e181_8, e181_10]
theorem sh_segment (H : SH oc np fr be cu mg st ar fa sl isr rq rT gone pl s cov fcl fop fg fz fe h) {i q j : Nat} {T E B : List (Nat × Nat)} {b : Nat × Nat} (hi : pl[i]? = some (q, T)) (hT : T = E ++ b :: B) (hj : j < 1000000) (hs : sgA j none T 0 0 = some E.length) : mW (mRo L xs) mTab 182 0 [some (.ref 8), some (.int (Int32.ofNat i)), some (.int (Int32.ofNat j)), none] [] h k = some (.inl (some (.int (100 * Int32.ofNat b.1 + Int32.ofNat (alk b.1 (b :: B))))), h, k) := by
  obtain ⟨ow, et, er, nsq, lg, po, fpg, fpl, es, S, ⟨q1, T1, tr⟩, ⟨q2, T2, re⟩, rc, pa, ou, fl, pr, qu, w9, ⟨s2, w10⟩, ob, rr, lw, pg, pp, cf, cm, sp, bd, g1, g2, ppi, rp, bu⟩ := H
  have hi12 : i < 12 := by
    have := (List.getElem?_eq_some_iff.mp hi).1
    have := bd.2.2.1
    omega
  have ppi' := pp i hi12
  rw [hi] at ppi'
  obtain ⟨rt, hf, pa1, ma1, R, r1, r2, r3⟩ := ppi'
  have PIx : PI q T := ppi (q, T) (List.mem_of_getElem? hi)
  obtain ⟨hq, hTv, hvN, _, _, hTl7⟩ := id PIx
  have rk := kR_eq R.2.choose_spec.choose_spec.1.1
  have rp := c_reqPlan (L := L) (xs := xs) (k := k) ob rr hi12 hf
  have hl := rt_l17 R
  have hTl : T.length = E.length + (B.length + 1) := by rw [hT, List.length_append, List.length_cons]
  have ss := rt_segStart (L := L) (xs := xs) (k := k) R hTv hj
  rw [hs] at ss
  have mv := rt_next (L := L) (xs := xs) (k := k) R hT
  have al := rt_alike (L := L) (xs := xs) (k := k) R hTv hT
  have ne : ¬ Int32.ofNat E.length = -1 := fun z => by
    have := congrArg Int32.toInt z
    rw [oi_int (by omega)] at this
    have h2 : (-1 : Int32).toInt = -1 := rfl
    omega
  rw [e182_0, e182_1, e182_2, e182_3 (kR_eq ob.1) (by simp [Value.category]), e63_0, e63_1, e63_2 (kR_eq ob.1) (by simp [Value.category]), rp]
  simp only [mAft, Option.toList_some, List.cons_append, List.nil_append]
  rw [e63_5, e63_6, e63_7, e63_8 rk (by simp [Value.category]), ss]
  simp only [mAft, Option.toList_some, List.cons_append, List.nil_append]
  rw [e63_11, e63_13, e63_15, e63_16, if_pos ne, e63_30, e63_32, e63_33, e63_35 rk (by simp [Value.category]), mv]
  simp only [mAft, Option.toList_some, List.cons_append, List.nil_append]
  rw [e63_38, e63_39, e63_40, e63_42 rk (by simp [Value.category]), al]
  simp only [mAft, Option.toList_some, List.cons_append, List.nil_append]
  rw [e63_45, e63_46]
  simp only [mAft, Option.toList_some, List.cons_append, List.nil_append]
  rw [e182_6]
  rfl
theorem sh_segOut (H : SH oc np fr be cu mg st ar fa sl isr rq rT gone pl s cov fcl fop fg fz fe h) {i q j : Nat} {T : List (Nat × Nat)} (hi : pl[i]? = some (q, T)) (hj : j < 1000000) (hs : sgA j none T 0 0 = none) : mW (mRo L xs) mTab 182 0 [some (.ref 8), some (.int (Int32.ofNat i)), some (.int (Int32.ofNat j)), none] [] h k = some (.inl (some (.int (-1000001))), h, k + 1) := by
  obtain ⟨ow, et, er, nsq, lg, po, fpg, fpl, es, S, ⟨q1, T1, tr⟩, ⟨q2, T2, re⟩, rc, pa, ou, fl, pr, qu, w9, ⟨s2, w10⟩, ob, rr, lw, pg, pp, cf, cm, sp, bd, g1, g2, ppi, rp, bu⟩ := H
  have hi12 : i < 12 := by
    have := (List.getElem?_eq_some_iff.mp hi).1
    have := bd.2.2.1
    omega
  have ppi' := pp i hi12
  rw [hi] at ppi'
  obtain ⟨rt, hf, pa1, ma1, R, r1, r2, r3⟩ := ppi'
  have PIx : PI q T := ppi (q, T) (List.mem_of_getElem? hi)
  obtain ⟨hq, hTv, hvN, _, _, hTl7⟩ := id PIx
  have rk := kR_eq R.2.choose_spec.choose_spec.1.1
  have rp := c_reqPlan (L := L) (xs := xs) (k := k) ob rr hi12 hf
  have ss := rt_segStart (L := L) (xs := xs) (k := k) R hTv hj
  rw [hs] at ss
  rw [e182_0, e182_1, e182_2, e182_3 (kR_eq ob.1) (by simp [Value.category]), e63_0, e63_1, e63_2 (kR_eq ob.1) (by simp [Value.category]), rp]
  simp only [mAft, Option.toList_some, List.cons_append, List.nil_append]
  rw [e63_5, e63_6, e63_7, e63_8 rk (by simp [Value.category]), ss]
  simp only [mAft, Option.toList_some, List.cons_append, List.nil_append]
  rw [e63_11, e63_13, e63_15, e63_16, if_neg (fun z => z rfl), e63_19 (by simp [Value.category])]
  simp only [mAft, show mCatch (mHd mM_182) 3 2 = some (8, 3) from rfl]
  show mW (mRo L xs) mTab 182 8 [some (.ref 8), some (.int (Int32.ofNat i)), some (.int (Int32.ofNat j)), none] [] h (k + 1) = _
  rw [e182_8, e182_10]
theorem sh_found (H : SH oc np fr be cu mg st ar fa sl isr rq rT gone pl s cov fcl fop fg fz fe h) {w : Nat} (hw : w < 4) : mW (mRo L xs) mTab 166 0 [some (.ref 8), some (.int (Int32.ofNat w)), none] [] h k = some (.inl (some (.int (if s.2.1 = 0 then -1 else if w = 0 then Int32.ofNat (s.2.1 - 1) else if w = 1 then Int32.ofNat s.2.2.1 else if w = 2 then Int32.ofNat s.2.2.2.1 else Int32.ofNat s.2.2.2.2))), h, k) := by
  obtain ⟨ow, et, er, nsq, lg, po, fpg, fpl, es, S, ⟨q1, T1, tr⟩, ⟨q2, T2, re⟩, rc, pa, ou, fl, pr, qu, w9, ⟨s2, w10⟩, ob, rr, lw, pg, pp, cf, cm, sp, bd, g1, g2, ppi, rp, bu⟩ := H
  have W := w9.1.1
  have w6 : s.2.1 ≤ 6 := w9.2.1.1
  rw [e166_0, e166_1, e166_2 (kR_eq ob.1) (by simp [Value.category]), e46_0, e46_1, e46_2, e46_3 (by simp [Value.category]), isOut0 (lo := 0) (hi := 3) (nlt_lit (n := 0) (Nat.zero_le _) (by omega)) (le_lit (n := 3) (by omega) (by decide))]
  simp only [mAft, Option.toList_some, List.cons_append, List.nil_append]
  rw [e46_6, if_pos rfl, e46_19, e46_20, kF_eq ob.1 (v := .ref 27) rfl, e46_23, e46_24 (kR_eq W) (by simp [Value.category]), e33_0, e33_1, kF_eq W (v := .int (qDec 1 s.2.1)) rfl, e33_4, e33_5]
  by_cases z : s.2.1 = 0
  · rw [if_pos ((qd_eq w6).mpr z), e33_12, e33_13, kF_eq W (v := .int (qDec 1 s.2.1)) rfl, e33_16]
    simp only [mAft, Option.toList_some, List.cons_append, List.nil_append]
    rw [e46_27]
    simp only [mAft, Option.toList_some, List.cons_append, List.nil_append]
    rw [e166_5, if_pos z, z]
    rfl
  · rw [if_neg (fun y => z ((qd_eq w6).mp y)), e33_8, e33_9, if_neg z]
    obtain rfl | rfl | rfl | rfl : w = 0 ∨ w = 1 ∨ w = 2 ∨ w = 3 := by omega
    · rw [if_neg (by decide), e33_12, e33_13, kF_eq W (v := .int (qDec 1 s.2.1)) rfl, e33_16]
      simp only [mAft, Option.toList_some, List.cons_append, List.nil_append]
      rw [e46_27]
      simp only [mAft, Option.toList_some, List.cons_append, List.nil_append]
      rw [e166_5, qd_succ z w6]
      simp only [if_true]
    · rw [if_pos (by decide), e33_17, e33_18, e33_19, if_neg (by decide), e33_22, e33_23, kF_eq W (v := .int (Int32.ofNat s.2.2.1)) rfl, e33_26]
      simp only [mAft, Option.toList_some, List.cons_append, List.nil_append]
      rw [e46_27]
      simp only [mAft, Option.toList_some, List.cons_append, List.nil_append]
      rw [e166_5, if_neg (by decide)]
      simp only [if_true]
    · rw [if_pos (by decide), e33_17, e33_18, e33_19, if_pos (by decide), e33_27, e33_28, e33_29, if_neg (by decide), e33_32, e33_33, kF_eq W (v := .int (Int32.ofNat s.2.2.2.1)) rfl, e33_36, e33_43]
      simp only [mAft, Option.toList_some, List.cons_append, List.nil_append]
      rw [e46_27]
      simp only [mAft, Option.toList_some, List.cons_append, List.nil_append]
      rw [e166_5, if_neg (by decide), if_neg (by decide)]
      simp only [if_true]
    · rw [if_pos (by decide), e33_17, e33_18, e33_19, if_pos (by decide), e33_27, e33_28, e33_29, if_pos (by decide), e33_39, e33_40, kF_eq W (v := .int (Int32.ofNat s.2.2.2.2)) rfl, e33_43]
      simp only [mAft, Option.toList_some, List.cons_append, List.nil_append]
      rw [e46_27]
      simp only [mAft, Option.toList_some, List.cons_append, List.nil_append]
      rw [e166_5, if_neg (by decide), if_neg (by decide), if_neg (by decide)]
theorem sh_word (H : SH oc np fr be cu mg st ar fa sl isr rq rT gone pl s cov fcl fop fg fz fe h) {p q : Nat} (hp : p < 2048) (hq : q < 2048) : ∃ h', mW (mRo L xs) mTab 190 0 [some (.ref 8), some (.int (Int32.ofNat (p % 16))), some (.int (Int32.ofNat (p / 16 % 16))), some (.int (Int32.ofNat (p / 256))), some (.int (Int32.ofNat (q % 16))), some (.int (Int32.ofNat (q / 16 % 16))), some (.int (Int32.ofNat (q / 256))), none] [] h k =
    some (.inl (some (.int (if (wFd p q s.2.2).2.1 = 0 then -1 else Int32.ofNat (wFd p q s.2.2).1))), h', k) ∧ SH oc np fr be cu mg st ar fa sl isr rq rT gone pl (wFd p q s.2.2) cov fcl fop fg fz fe h' := by
  obtain ⟨ow, et, er, nsq, lg, po, fpg, fpl, es, S, ⟨q1, T1, tr⟩, ⟨q2, T2, re⟩, rc, pa, ou, fl, pr, qu, w9, ⟨s2, w10⟩, ob, rr, lw, pg, pp, cf, cm, sp, bd, g1, g2, ppi, rp, bu⟩ := H
  obtain ⟨fX, fY, A⟩ := S.1
  have r1 := c_reqPose (L := L) (xs := xs) (k := k) (h := h) hp
  have r2 := c_reqPose (L := L) (xs := xs) (k := k) (h := h) hq
  obtain ⟨h', F1, K, F3⟩ := c_find (L := L) (xs := xs) (k := k) hp hq A w9.1.1
  have F3' : mCell h' 27 = some (wC 9 (wFd p q s.2.2)) := F3
  have hw := wFd_in p q (r := s.2.2) w9.2.1.2
  clear F3
  have F := fr_of (ow := ow) (n0 := 9) K (fun a z => by rw [z]; exact w9.1.2)
  have ob' := one_keep ob (F 11 (by decide))
  have cn := c_costOrNone (L := L) (xs := xs) (k := k) F3' hw.1
  refine ⟨h', ?_, ⟨ow, et, er, nsq, lg, po, fpg, fpl, es, sta_keep S (F 0 (by decide)), ⟨q1, T1, krt_keep tr (F 1 (by decide))⟩, ⟨q2, T2, krt_keep re (F 2 (by decide))⟩, rec_keep rc (F 3 (by decide)), pac_keep pa (F 4 (by decide)), kpl_keep ou (F 5 (by decide)), fld_keep fl (F 6 (by decide)), one_keep pr (F 7 (by decide)), que_keep qu (F 8 (by decide)), ⟨⟨F3', w9.1.2⟩, hw⟩, ⟨s2, one_keep w10.1 (F 10 (by decide)), w10.2⟩, one_keep ob (F 11 (by decide)), one_keep rr (F 12 (by decide)), law_keep lw (F 13 (by decide)), (fun i p hi hp => (pg i p hi hp).imp fun c z => kpl_keep z (F (20 + i) (by omega))), (fun i hi => plan_keep (pp i hi) (F (40 + i) (by omega))), cf, cm, sp, bd, g1, g2, ppi, rp, bud_keep bu K⟩⟩
  rw [e190_0, e190_1, e190_2, e190_3, e190_4, e190_6, e190_8, e190_10 (kR_eq ob.1) (by simp [Value.category]), e69_0, e69_1, e69_2, e69_3 (by simp [Value.category]), r1]
  simp only [mAft, Option.toList_some, List.cons_append, List.nil_append]
  rw [e69_6, e69_8, e69_10, e69_12, e69_14 (by simp [Value.category]), r2]
  simp only [mAft, Option.toList_some, List.cons_append, List.nil_append]
  rw [e69_17, e69_19, e69_20, kF_eq ob.1 (v := .ref 27) rfl, e69_23, e69_25, e69_27 (kR_eq w9.1.1) (by simp [Value.category]), F1]
  simp only [mAft, Option.toList_none, List.nil_append]
  rw [e69_30, e69_31, kF_eq ob'.1 (v := .ref 27) rfl, e69_34 (kR_eq F3') (by simp [Value.category]), cn]
  simp only [mAft, Option.toList_some, List.cons_append, List.nil_append]
  rw [e69_37]
  simp only [mAft, Option.toList_some, List.cons_append, List.nil_append]
  rw [e190_13]
theorem sh_wordBad (H : SH oc np fr be cu mg st ar fa sl isr rq rT gone pl s cov fcl fop fg fz fe h) {p q : Nat} (hp : p < 2048) (hq : q < 256) : mW (mRo L xs) mTab 190 0 [some (.ref 8), some (.int (Int32.ofNat (p % 16))), some (.int (Int32.ofNat (p / 16 % 16))), some (.int (Int32.ofNat (p / 256))), some (.int (Int32.ofNat (q % 16))), some (.int (Int32.ofNat (q / 16 % 16))), some (.int 8), none] [] h k =
    some (.inl (some (.int (-1000001))), h, k + 1) := by
  obtain ⟨ow, et, er, nsq, lg, po, fpg, fpl, es, S, ⟨q1, T1, tr⟩, ⟨q2, T2, re⟩, rc, pa, ou, fl, pr, qu, w9, ⟨s2, w10⟩, ob, rr, lw, pg, pp, cf, cm, sp, bd, g1, g2, ppi, rp, bu⟩ := H
  have r1 := c_reqPose (L := L) (xs := xs) (k := k) (h := h) hp
  have r2 := c_reqBad (L := L) (xs := xs) (k := k) (h := h) (x := q % 16) (y := q / 16 % 16) (g := 8) (by omega) (Or.inr (Or.inr (Nat.le_refl _)))
  rw [e190_0, e190_1, e190_2, e190_3, e190_4, e190_6, e190_8, e190_10 (kR_eq ob.1) (by simp [Value.category]), e69_0, e69_1, e69_2, e69_3 (by simp [Value.category]), r1]
  simp only [mAft, Option.toList_some, List.cons_append, List.nil_append]
  rw [e69_6, e69_8, e69_10, e69_12, e69_14 (by simp [Value.category]), show (8 : Int32) = Int32.ofNat 8 from rfl, r2]
  simp only [mAft, show mHd mM_69 = [] from rfl, cat_nil, show mCatch (mHd mM_190) 10 2 = some (16, 7) from rfl]
  dsimp only [List.set]
  rw [e190_16, e190_18]
end
