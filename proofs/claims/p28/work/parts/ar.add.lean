section
variable {L : Nat} {xs : Nat → Int32} {k : Nat} {h : List mCel} {ow : Nat → Nat}
theorem c_addPlan {pn isr po rt pa ma e0 q : Nat} {T : List (Nat × Nat)} {fpl : Nat → Option Nat} (ob : mCell h 8 = some (c8 pn isr po)) (rr : mCell h 35 = some (rfC 6 12 fpl)) (R : RT rt pa ma e0 q T h) (hp : pn < 12) :
    ∃ h' pa' ma' e', mW (mRo L xs) mTab 37 0 [some (.ref 8), some (.ref rt), none] [] h k = some (.inl (some (.int (Int32.ofNat pn))), h', k) ∧ RT (8 + h.length) pa' ma' e' q T h' ∧ (8 + h.length ≤ pa' ∧ 8 + h.length ≤ ma') ∧
      mCell h' 8 = some (c8 (pn + 1) isr po) ∧ mCell h' 35 = some (rfC 6 12 (va_up fpl pn (some (8 + h.length)))) ∧ (∀ a, a < 8 + h.length → a ≠ 8 → a ≠ 35 → mCell h' a = mCell h a) ∧ h'.length = h.length + 3 + 2 * e' ∧ hz h' + 256 = hz h + 131 + 256 * 2 ^ e' := by
  have hin : 0 ≤ (Int32.ofNat pn).toInt ∧ (Int32.ofNat pn).toInt < (12 : Nat) := by rw [oi_int (by omega)]; omega
  obtain ⟨h1, pa', ma', e', A1, A2, A3, A4, A5, A6⟩ := rt_copied (L := L) (xs := xs) (k := k) R
  have l8 := cell_8 ob
  have l35 := cell_8 rr
  have ob1 : mCell h1 8 = some (c8 pn isr po) := (A5.2 8 (by omega) (fun z => z)).trans ob
  have rr1 : mCell h1 35 = some (rfC 6 12 fpl) := (A5.2 35 (by omega) (fun z => z)).trans rr
  let h2 := h1.set (35 - 8) (rfC 6 12 (va_up fpl pn (some (8 + h.length))))
  have K2 : mKeep (fun a => a = 35) h1 h2 := keep_set rr1 rfl rfl
  have ob2 : mCell h2 8 = some (c8 pn isr po) := (K2.2.2 8 (by decide)).trans ob1
  let h3 := h2.set (8 - 8) (c8 (pn + 1) isr po)
  have K3 : mKeep (fun a => a = 8) h2 h3 := keep_set ob2 rfl rfl
  have A2' := rt_keep (rt_keep A2 (ext_of K2) (by omega) (by omega) (by omega)) (ext_of K3) (by omega) (by omega) (by omega)
  refine ⟨h3, pa', ma', e', ?_, A2', A6, cell_set ob2, (K3.2.2 35 (by decide)).trans (cell_set rr1), fun a ha a8 a35 => (K3.2.2 a a8).trans ((K2.2.2 a a35).trans (A5.2 a ha (fun z => z))), ?_, ?_⟩
  · rw [e37_0, e37_1, kF_eq ob (v := .int (Int32.ofNat pn)) rfl, e37_4, e37_5, e37_6, if_neg (oi_nneg (by omega)), e37_9, e37_10, e37_11, kF_eq ob (v := .ref 35) rfl, e37_14, kAL_r rr (Or.inr rfl), e37_15, if_neg (by rw [oi_le (by omega) (by omega)]; omega), e37_18, e37_19, kF_eq ob (v := .ref 35) rfl, e37_22, e37_23, e37_24 (kR_eq R.2.choose_spec.choose_spec.1.1) (by simp [Value.category]), A1]
    simp only [mAft, Option.toList_some, List.cons_append, List.nil_append]
    rw [e37_27, kAS_r rr1 A2.2.choose_spec.choose_spec.1.1 (Or.inr ⟨rfl, rfl⟩) hin, oi_nat (by omega)]
    show mW (mRo L xs) mTab 37 28 _ [] h2 k = _
    rw [e37_28, e37_29r, e37_30, kF_eq ob2 (v := .int (Int32.ofNat pn)) rfl, e37_33, e37_34, oi_succ, e37_35, kP_eq ob2 (by simp)]
    show mW (mRo L xs) mTab 37 38 _ [] h3 k = _
    rw [e37_38, e37_39]
  · rw [K3.1, K2.1, A3]
  · rw [K3.2.1, K2.2.1, A4]
theorem c_room {pn isr po : Nat} (ob : mCell h 8 = some (c8 pn isr po)) (hp : pn ≤ 12) : mW (mRo L xs) mTab 62 0 [some (.ref 8)] [] h k = if pn < 12 then some (.inl none, h, k) else some (.inr 1, h, k + 1) := by
  rw [e62_0, e62_1, kF_eq ob (v := .int (Int32.ofNat pn)) rfl, e62_4, e62_6]
  by_cases z : pn < 12
  · rw [if_pos (show Int32.ofNat pn < 12 from lt_lit (n := 12) z (by decide)), if_pos z, e62_20]
  · rw [if_neg (show ¬ Int32.ofNat pn < 12 from nlt_lit (n := 12) (by omega) (by omega)), if_neg z, e62_9 (by simp [Value.category])]
theorem c_recing {pn isr po : Nat} (ob : mCell h 8 = some (c8 pn isr po)) (hp : isr < 2) : mW (mRo L xs) mTab 61 0 [some (.ref 8)] [] h k = if isr = 1 then some (.inl none, h, k) else some (.inr 1, h, k + 1) := by
  rw [e61_0, e61_1, kF_eq ob (v := .int (Int32.ofNat isr)) rfl, e61_4]
  obtain rfl | rfl : isr = 0 ∨ isr = 1 := by omega
  · rw [if_neg (by decide), if_neg (by decide), e61_7 (by simp [Value.category])]
  · rw [if_pos (by decide), if_pos rfl, e61_18]

variable {oc np fr be cu mg st ar fa sl isr rq : Nat} {rT : List (Nat × Nat)} {gone : Nat → Bool} {pl : List (Nat × List (Nat × Nat))} {s : wS} {cov fcl fop fg fz fe : Nat → Int32}

theorem sh_add (H : SH oc np fr be cu mg st ar fa sl isr rq rT gone pl s cov fcl fop fg fz fe h) {rt pr1 mr1 e0 q : Nat} {T : List (Nat × Nat)} (R : RT rt pr1 mr1 e0 q T h) (hn : pl.length < 12) (hP : PI q T) : ∃ h', mW (mRo L xs) mTab 37 0 [some (.ref 8), some (.ref rt), none] [] h k = some (.inl (some (.int (Int32.ofNat pl.length))), h', k) ∧ SH oc np fr be cu mg st ar fa sl isr rq rT gone (pl ++ [(q, T)]) s cov fcl fop fg fz fe h' := by
  have R0 := R
  obtain ⟨ow, et, er, nsq, lg, po, fpg, fpl, es, S, ⟨q1, T1, tr⟩, ⟨q2, T2, re⟩, rc, pa, ou, fl, pr, qu, w9, ⟨s2, w10⟩, ob, rr, lw, pg, pp, cf, cm, sp, bd, g1, g2, ppi, rp, bu⟩ := H
  obtain ⟨h', pa', ma', e', A1, A2, A3, A4, A5, A6, A7, A8⟩ := c_addPlan (L := L) (xs := xs) (k := k) ob.1 rr.1 R0 hn
  let ow2 := fun a => if a < 8 + h.length then ow a else 40 + pl.length
  have old : ∀ a n, a < 8 + h.length → ow a = n → ow2 a = n := fun a n ha ho => by
    show (if a < 8 + h.length then ow a else 40 + pl.length) = n
    rw [if_pos ha, ho]
  have new : ∀ a, 8 + h.length ≤ a → ow2 a = 40 + pl.length := fun a ha => by
    show (if a < 8 + h.length then ow a else 40 + pl.length) = 40 + pl.length
    rw [if_neg (by omega)]
  have o8 : ow 8 = 11 := ob.2
  have o35 : ow 35 = 12 := rr.2
  have F : ∀ n, n ≠ 11 → n ≠ 12 → FrN n ow ow2 h h' := fun n h11 h12 a ha ho => ⟨old a n ha ho, A6 a ha (fun z => h11 (by rw [← ho, z]; exact o8)) (fun z => h12 (by rw [← ho, z]; exact o35))⟩
  have l8 := cell_8 ob.1
  have l35 := cell_8 rr.1
  have len : (pl ++ [(q, T)]).length = pl.length + 1 := by simp
  refine ⟨h', A1, ow2, et, er, nsq, lg, po, fpg, va_up fpl pl.length (some (8 + h.length)), setN es pl.length e', sta_keep S (F 0 (by decide) (by decide)), ⟨q1, T1, krt_keep tr (F 1 (by decide) (by decide))⟩, ⟨q2, T2, krt_keep re (F 2 (by decide) (by decide))⟩, rec_keep rc (F 3 (by decide) (by decide)), pac_keep pa (F 4 (by decide) (by decide)), kpl_keep ou (F 5 (by decide) (by decide)), fld_keep fl (F 6 (by decide) (by decide)), one_keep pr (F 7 (by decide) (by decide)), que_keep qu (F 8 (by decide) (by decide)), ⟨one_keep w9.1 (F 9 (by decide) (by decide)), w9.2⟩, ⟨s2, one_keep w10.1 (F 10 (by decide) (by decide)), w10.2⟩, ⟨by rw [len]; exact A4, old 8 11 (by omega) o8⟩, ⟨A5, old 35 12 (by omega) o35⟩, law_keep lw (F 13 (by decide) (by decide)), (fun i p hi hp => (pg i p hi hp).imp fun c z => kpl_keep z (F (20 + i) (by omega) (by omega))), ?_, cf, cm, sp, ⟨bd.1, bd.2.1, by omega, bd.2.2.2⟩, g1, g2, ?_, rp, ?_⟩
  · intro i hi
    have pi := pp i hi
    by_cases e : i = pl.length
    · rw [e, List.getElem?_append_right (Nat.le_refl _), Nat.sub_self]
      refine ⟨8 + h.length, vu_at, pa', ma', ?_, new _ (Nat.le_refl _), new _ A3.1, new _ A3.2⟩
      show RT _ _ _ (if pl.length = pl.length then e' else es pl.length) _ _ _
      rw [if_pos rfl]
      exact A2
    · have he : setN es pl.length e' i = es i := by unfold setN; rw [if_neg e]
      by_cases z : i < pl.length
      · rw [List.getElem?_append_left z]
        rw [List.getElem?_eq_getElem z] at pi ⊢
        obtain ⟨rt', y1, y2⟩ := pi
        refine ⟨rt', (vu_ne e).trans y1, ?_⟩
        rw [he]
        exact krt_keep y2 (F (40 + i) (by omega) (by omega))
      · rw [List.getElem?_eq_none (by omega)] at pi
        rw [List.getElem?_eq_none (by omega)]
        exact (vu_ne e).trans pi
  · intro x hx
    rcases List.mem_append.1 hx with y | y
    · exact ppi x y
    · rw [List.mem_singleton.1 y]
      exact hP
  · obtain ⟨u1, u2, u3, u4, u5, u6, u7⟩ := bu
    have z1 := sumE_le (es := setN es pl.length e') (es' := es) pl.length (fun i hi => by unfold setN; rw [if_neg (by omega)])
    have z2 := sumL_le (es := setN es pl.length e') (es' := es) pl.length (fun i hi => by unfold setN; rw [if_neg (by omega)])
    have z3 : setN es pl.length e' pl.length = e' := by unfold setN; rw [if_pos rfl]
    refine ⟨?_, ?_, u3, u4, u5, u6, fun i => ?_⟩
    · rw [len, sumE, z1, z3]
      generalize 256 * 2 ^ et = a at *
      generalize 256 * 2 ^ er = b at *
      generalize 256 * 2 ^ e' = c at *
      omega
    · rw [len, sumL, z2, z3, A7]
      omega
    · unfold setN
      split
      · exact A2.1.1
      · exact u7 i

end
