section
variable {L : Nat} {xs : Nat → Int32} {k : Nat} {h : List mCel} {ow : Nat → Nat}
theorem bud_set {et er nsq lg np pn i er' e' : Nat} {es : Nat → Nat} {h' : List mCel} (bu : Bud et er nsq lg np es pn h) (il : i < pn) (h1 : er' ≤ 11) (h2 : e' ≤ 11) (h3 : es i ≤ e') (h4 : er ≤ er')
    (h5 : h'.length = h.length + 2 * (e' - es i) + 2 * (er' - er)) (h6 : hz h' + 256 * 2 ^ es i + 256 * 2 ^ er = hz h + 256 * 2 ^ e' + 256 * 2 ^ er') : Bud et er' nsq lg np (setN es i e') pn h' := by
  obtain ⟨u1, u2, u3, u4, u5, u6, u7⟩ := bu
  have z1 := sumE_set (es := es) (j := i) (v := e') pn il
  have z2 := sumL_set (es := es) (j := i) (v := e') pn il
  refine ⟨?_, ?_, u3, u4, u5, h1, fun j => ?_⟩
  · clear u2 u3 u4 z2 h5
    generalize 256 * 2 ^ et = a at *
    generalize 256 * 2 ^ er = b at *
    generalize 256 * 2 ^ er' = b' at *
    generalize 256 * 2 ^ e' = c at *
    generalize 256 * 2 ^ es i = d at *
    omega
  · clear u1 u3 u4 z1 h6
    omega
  · unfold setN
    split
    · exact h2
    · exact u7 j
theorem shr_pi {o : Nat → Bool} {mg cu n q : Nat} {cN : Nat → Nat} {T : List (Nat × Nat)} (ho : ∀ p, o p = true → p < 2048) (hc : ∀ p, o p = true → 1 ≤ cN (p % 256)) (hmg : mg ≤ 5) (hv : Sho.Val (drE (eG o)) q T) (hq : q < 2048)
    (h1 : Sho.Val (drE (eG o)) q (Sho.shr (drE (eG o)) wWd (ocE (eG o) (wtG mg cN)) (tcN cu) n none q T)) (h2 : ∀ x ∈ Sho.shr (drE (eG o)) wWd (ocE (eG o) (wtG mg cN)) (tcN cu) n none q T, x.1 < 6 ∧ x.2 < 2048) : PI q (Sho.shr (drE (eG o)) wWd (ocE (eG o) (wtG mg cN)) (tcN cu) n none q T) := by
  have S := shoH ho (mg := mg) (cu := cu) (cN := cN)
  obtain ⟨S0, segs, e1, e2, _, e4⟩ := Sho.main (drE (eG o)) wWd (ocE (eG o) (wtG mg cN)) (tcN cu) (fun m => decide (m < 3)) gN S.1 S.2.1 S.2.2.1 S.2.2.2.1 S.2.2.2.2 (fun q p ws m => fw_wf) fw_tz fw_tf (word_hg ho hc hmg) (fun y => Nat.le_trans (by decide) (gN_2 y)) n [] none q [] T 0 0 [] [] []
    ⟨fun _ _ _ z => (List.not_mem_nil z).elim, fun _ _ _ z => (List.not_mem_nil z).elim, fun _ _ _ z => (List.not_mem_nil z).elim, hv⟩ (fun z => absurd rfl z)
  rw [e2 rfl] at e1 e4
  rw [List.nil_append, List.nil_append] at e1
  rw [e1] at h1 h2 ⊢
  exact pi_dec hq h2 (val_mono (dr_geo (o := o)) _ _ h1) e4
theorem pk_small {o : Nat → Bool} {mg cu q : Nat} {cN : Nat → Nat} {T : List (Nat × Nat)} (ho : ∀ p, o p = true → p < 2048) (hc : ∀ p, o p = true → 1 ≤ cN (p % 256)) (hmg : mg ≤ 5) (hv : Sho.Val (drE (eG o)) q T) (hs : Sho.Suf gN 75 q T) (n : Nat) :
    Sho.pk (drE (eG o)) wWd (ocE (eG o) (wtG mg cN)) (tcN cu) n 0 none q T < 131072 := by
  have S := shoH ho (mg := mg) (cu := cu) (cN := cN)
  have := Sho.pk_le (drE (eG o)) wWd (ocE (eG o) (wtG mg cN)) (tcN cu) (fun m => decide (m < 3)) gN 75 2048 S.1 S.2.1 S.2.2.1 S.2.2.2.1 S.2.2.2.2 (fun q p ws m => fw_wf) fw_tz fw_tf (word_hg ho hc hmg) (fun y => Nat.le_trans (by decide) (gN_2 y)) (fun q m e z => ho _ (dr_some z).1) n [] none q [] T 0 0 [] [] [] 0 []
    ⟨fun _ _ _ z => (List.not_mem_nil z).elim, fun _ _ _ z => (List.not_mem_nil z).elim, fun _ _ _ z => (List.not_mem_nil z).elim, hv⟩ (fun z => absurd rfl z) hs List.nodup_nil (fun z y => (List.not_mem_nil y).elim) (fun z y => (List.not_mem_nil y).elim) (fun _ => Nat.le_refl _) (fun z => absurd rfl z)
  have h2 := gN_sum
  rw [List.nil_append] at this
  omega

variable {oc np fr be cu mg st ar fa sl isr rq : Nat} {rT : List (Nat × Nat)} {gone : Nat → Bool} {pl : List (Nat × List (Nat × Nat))} {s : wS} {cov fcl fop fg fz fe : Nat → Int32}

theorem sh_shorten (H : SH oc np fr be cu mg st ar fa sl isr rq rT gone pl s cov fcl fop fg fz fe h) {cN : Nat → Nat} (C : clOk cov fcl cN) {i q : Nat} {T : List (Nat × Nat)} (hi : pl[i]? = some (q, T)) : @ite _ (cDr fop q T) (Classical.propDecidable _) (∃ h' X, mW (mRo L xs) mTab 183 0 [some (.ref 8), some (.int (Int32.ofNat i)), none] [] h k = some (.inl (some (.int (Int32.ofNat (mvW (wtG mg cN) (tcN cu) none q T - mvW (wtG mg cN) (tcN cu) none q X)))), h', k) ∧ SH oc np fr be cu mg st ar fa sl isr rq rT gone (pl.set i (q, X)) s cov fcl fop fg fz fe h' ∧ PI q X ∧ cDr fop q X ∧ Sho.fin q X = Sho.fin q T ∧ mvW (wtG mg cN) (tcN cu) none q X ≤ mvW (wtG mg cN) (tcN cu) none q T)
    (mW (mRo L xs) mTab 183 0 [some (.ref 8), some (.int (Int32.ofNat i)), none] [] h k = some (.inl (some (.int (-1000003))), h, k + 1)) := by
  obtain ⟨ow, et, er, nsq, lg, po, fpg, fpl, es, S, ⟨q1, T1, tr⟩, ⟨q2, T2, re⟩, rc, pa, ou, fl, pr, qu, w9, ⟨s2, w10⟩, ob, rr, lw, pg, pp, cf, cm, sp, bd, g1, g2, ppi, rp, bu⟩ := H
  have hi12 : i < 12 := by
    have := (List.getElem?_eq_some_iff.mp hi).1
    have := bd.2.2.1
    omega
  have ppi' := pp i hi12
  rw [hi] at ppi'
  obtain ⟨rt, hf, pa1, ma1, R, r1, r2, r3⟩ := ppi'
  have PIx : PI q T := ppi (q, T) (List.mem_of_getElem? hi)
  obtain ⟨hq, hTv, hvN, _, _, hTl7⟩ := id PIx
  have rk := kR_eq R.2.choose_spec.choose_spec.1.1
  have rp := c_reqPlan (L := L) (xs := xs) (k := k) ob rr hi12 hf
  have cd := rt_canDrive (L := L) (xs := xs) (k := k) (fF := f12 np fr be) (geoE_F fop) (fun p hp => oF_open hp) hq R hTv hvN fl.1.1 rfl fl.1.2.2.2.2
  have go : mW (mRo L xs) mTab 183 0 [some (.ref 8), some (.int (Int32.ofNat i)), none] [] h k = mAft (mW (mRo L xs) mTab) (mHd mM_183) 183 2 [some (.ref 8), some (.int (Int32.ofNat i)), none] [] (mW (mRo L xs) mTab 64 14 [some (.ref 8), some (.int (Int32.ofNat i)), some (.ref rt)] [.int (@ite _ (oF fop q = true ∧ Sho.Val (drE (eG (oF fop))) q T) (Classical.propDecidable _) 1 0)] h k) := by
    rw [e183_0, e183_1, e183_2 (kR_eq ob.1) (by simp [Value.category]), e64_0, e64_1, e64_2 (kR_eq ob.1) (by simp [Value.category]), rp]
    simp only [mAft, Option.toList_some, List.cons_append, List.nil_append]
    rw [e64_5, e64_6, e64_7, kF_eq ob.1 (v := .ref 12) rfl, e64_10, e64_11 (kR_eq fl.1.1) (by simp [Value.category]), cd]
    simp only [mAft, Option.toList_some, List.cons_append, List.nil_append]
  by_cases z : cDr fop q T
  · rw [if_pos z]
    obtain ⟨fX, fY, A⟩ := S.1
    have ho := oF_lt fop
    have hc := fun p hp => free_clear (fop := fop) cf.1 C p hp
    obtain ⟨pa2, ma2, R2, t1, t2, t3⟩ := re
    have ne : ∀ a b n m, ow a = n → ow b = m → n ≠ m → a ≠ b := fun a b n m ha hb hn e => hn (by rw [← ha, ← hb, e])
    have o40 : 40 + i ≠ 2 := by omega
    have D1 : 29 ≠ rt ∧ 29 ≠ pa1 ∧ 29 ≠ ma1 ∧ pa2 ≠ rt ∧ pa2 ≠ pa1 ∧ pa2 ≠ ma1 ∧ ma2 ≠ rt ∧ ma2 ≠ pa1 ∧ ma2 ≠ ma1 :=
      ⟨ne _ _ _ _ t1 r1 o40.symm, ne _ _ _ _ t1 r2 o40.symm, ne _ _ _ _ t1 r3 o40.symm, ne _ _ _ _ t2 r1 o40.symm, ne _ _ _ _ t2 r2 o40.symm, ne _ _ _ _ t2 r3 o40.symm, ne _ _ _ _ t3 r1 o40.symm, ne _ _ _ _ t3 r2 o40.symm, ne _ _ _ _ t3 r3 o40.symm⟩
    have D2 : Dj [rt, pa1, ma1, 29, pa2, ma2] [28, 32, 12, 17, 15, 16, 9, 10, 11] := by
      intro a ha b hb
      have ha' : ow a = 40 + i ∨ ow a = 2 := by
        simp only [List.mem_cons, List.not_mem_nil, or_false] at ha
        rcases ha with y | y | y | y | y | y <;> rw [y]
        · exact Or.inl r1
        · exact Or.inl r2
        · exact Or.inl r3
        · exact Or.inr t1
        · exact Or.inr t2
        · exact Or.inr t3
      have hb' : ow b < 40 ∧ ow b ≠ 2 := by
        simp only [List.mem_cons, List.not_mem_nil, or_false] at hb
        rcases hb with y | y | y | y | y | y | y | y | y <;> rw [y]
        · rw [S.2.2.2.2.2.2.2]; decide
        · rw [w10.1.2]; decide
        · rw [fl.2.1]; decide
        · rw [pr.2]; decide
        · rw [fl.2.2.2.2.1]; decide
        · rw [fl.2.2.2.2.2]; decide
        · rw [S.2.2.2.1]; decide
        · rw [S.2.2.2.2.1]; decide
        · rw [S.2.2.2.2.2.1]; decide
      intro e
      rw [e] at ha'
      omega
    have nW : Dj [32] [28, 12, 17, 15, 16, 9, 10, 11] := by
      intro a ha b hb e
      rw [List.mem_singleton.1 ha] at e
      rw [← e] at hb
      revert hb
      decide
    obtain ⟨n, X, h', pa', ma', e', pr', mr', er', qr', Tr', s', A1, V, A3, A4, A5, A6, A7⟩ := c_saveOn (L := L) (xs := xs) (k := k) (rt := rt) (pa := pa1) (ma := ma1) (sh := 28) (W := 32) (rs := 29) (geoE_F fop) (geoW_F cm.2 C) cm.1 hq (shoH ho (mg := mg) (cu := cu) (cN := cN)) nW hTv z.2 D1 D2 R R2 (sw_H S fl pr w10.1) A w10.2.1 w10.2.2 (pk_small ho hc cm.2 z.2 PIx.2.2.2.1)
    obtain ⟨V1, V2, V3, V4, V5, V6, V7, V8, V9, V10⟩ := V
    have hPI : PI q X := by
      rw [A3] at A4 A5 ⊢
      exact shr_pi ho hc cm.2 z.2 hq A4 A5
    have il : i < pl.length := (List.getElem?_eq_some_iff.mp hi).1
    have cl := rt_cells R
    have cl2 := rt_cells R2
    let ow2 := fun a => if a < 8 + h.length then ow a else if a = pa' ∨ a = ma' then 40 + i else 2
    have old : ∀ a n, a < 8 + h.length → ow a = n → ow2 a = n := fun a n ha ho => by
      show (if a < 8 + h.length then ow a else if a = pa' ∨ a = ma' then 40 + i else 2) = n
      rw [if_pos ha, ho]
    have new : ∀ a, 8 + h.length ≤ a → (a = pa' ∨ a = ma') → ow2 a = 40 + i := fun a ha hh => by
      show (if a < 8 + h.length then ow a else if a = pa' ∨ a = ma' then 40 + i else 2) = 40 + i
      rw [if_neg (by omega), if_pos hh]
    have new2 : ∀ a, 8 + h.length ≤ a → ¬ (a = pa' ∨ a = ma') → ow2 a = 2 := fun a ha hh => by
      show (if a < 8 + h.length then ow a else if a = pa' ∨ a = ma' then 40 + i else 2) = 2
      rw [if_neg (by omega), if_neg hh]
    have F2 : ∀ n, n ≠ 2 → n ≠ 40 + i → n ≠ 10 → FrN n ow ow2 h h' := fun n h2 h40 h10 a ha ho => ⟨old a n ha ho, V7.2 a ha fun y => by
      rcases y with (y | y) | y
      · rcases y with y | y | y <;> rw [y] at ho
        · exact h40 (ho.symm.trans r1)
        · exact h40 (ho.symm.trans r2)
        · exact h40 (ho.symm.trans r3)
      · rcases y with y | y | y <;> rw [y] at ho
        · exact h2 (ho.symm.trans t1)
        · exact h2 (ho.symm.trans t2)
        · exact h2 (ho.symm.trans t3)
      · rw [y] at ho
        exact h10 (ho.symm.trans w10.1.2)⟩
    have len : (pl.set i (q, X)).length = pl.length := List.length_set
    have kp : KRt (40 + i) rt e' q X ow2 h' := ⟨pa', ma', V1, old rt _ cl.1.2 r1, by
      rcases V8.1 with y | y
      · rw [y]; exact old _ _ cl.2.1.2 r2
      · exact new _ y (Or.inl rfl), by
      rcases V8.2 with y | y
      · rw [y]; exact old _ _ cl.2.2.1.2 r3
      · exact new _ y (Or.inr rfl)⟩
    have kr : KRt 2 29 er' qr' Tr' ow2 h' := ⟨pr', mr', V2, old 29 _ cl2.1.2 t1, by
      rcases V9.1 with y | y
      · rw [y]; exact old _ _ cl2.2.1.2 t2
      · exact new2 _ y (fun w => w.elim V10.1 V10.2.1), by
      rcases V9.2 with y | y
      · rw [y]; exact old _ _ cl2.2.2.1.2 t3
      · exact new2 _ y (fun w => w.elim V10.2.2.1 V10.2.2.2)⟩
    have ow10 : ow2 32 = 10 := old 32 10 (by have := cell_8 w10.1.1; omega) w10.1.2
    refine ⟨h', X, ?_, ⟨ow2, et, er', nsq, lg, po, fpg, fpl, setN es i e', sta_keep S (F2 0 (by decide) (by omega) (by decide)), ⟨q1, T1, krt_keep tr (F2 1 (by decide) (by omega) (by decide))⟩, ⟨qr', Tr', kr⟩, rec_keep rc (F2 3 (by decide) (by omega) (by decide)), pac_keep pa (F2 4 (by decide) (by omega) (by decide)), kpl_keep ou (F2 5 (by decide) (by omega) (by decide)), fld_keep fl (F2 6 (by decide) (by omega) (by decide)), one_keep pr (F2 7 (by decide) (by omega) (by decide)), que_keep qu (F2 8 (by decide) (by omega) (by decide)), ⟨one_keep w9.1 (F2 9 (by decide) (by omega) (by decide)), w9.2⟩, ⟨s', ⟨V3.1, ow10⟩, V3.2⟩, by rw [len]; exact one_keep ob (F2 11 (by decide) (by omega) (by decide)), one_keep rr (F2 12 (by decide) (by omega) (by decide)), law_keep lw (F2 13 (by decide) (by omega) (by decide)), (fun j p hj hp => (pg j p hj hp).imp fun c z => kpl_keep z (F2 (20 + j) (by omega) (by omega) (by omega))), ?_, cf, cm, sp, by rw [len]; exact bd, g1, g2, ?_, by assumption, ?_⟩, hPI, ⟨z.1, A4⟩, A6, A7⟩
    · have kv : mW (mRo L xs) mTab 64 14 [some (.ref 8), some (.int (Int32.ofNat i)), some (.ref rt)] [.int (@ite _ (oF fop q = true ∧ Sho.Val (drE (eG (oF fop))) q T) (Classical.propDecidable _) 1 0)] h k = some (.inl (some (.int (Int32.ofNat (mvW (wtG mg cN) (tcN cu) none q T - mvW (wtG mg cN) (tcN cu) none q X)))), h', k) := by
        rw [if_pos (show oF fop q = true ∧ Sho.Val (drE (eG (oF fop))) q T from z), e64_14, if_pos (by decide), e64_27, e64_28, kF_eq ob.1 (v := .ref 28) rfl, e64_31, e64_32 (kR_eq S.2.2.1) (by simp [Value.category]), A1]
        simp only [mAft, Option.toList_some, List.cons_append, List.nil_append]
        rw [e64_35]
      rw [go, kv]
      simp only [mAft, Option.toList_some, List.cons_append, List.nil_append]
      rw [e183_5]
    · intro j hj
      have pj := pp j hj
      by_cases y : j = i
      · rw [y, List.getElem?_set_self il]
        refine ⟨rt, hf, ?_⟩
        show KRt _ _ (if i = i then e' else es i) _ _ _ _
        rw [if_pos rfl]
        exact kp
      · rw [List.getElem?_set_ne (Ne.symm y)]
        have he : setN es i e' j = es j := by unfold setN; rw [if_neg y]
        rw [he]
        exact plan_keep pj (F2 (40 + j) (by omega) (by omega) (by omega))
    · intro x hx
      rcases List.mem_or_eq_of_mem_set hx with y | y
      · exact ppi x y
      · rw [y]; exact hPI
    · rw [len]
      exact bud_set bu il V2.1.1 V1.1.1 V4.1 V4.2 V5 V6
  · rw [if_neg z, go, if_neg (show ¬ (oF fop q = true ∧ Sho.Val (drE (eG (oF fop))) q T) from z), e64_14, if_neg (fun y => y rfl), e64_17 (by simp [Value.category])]
    simp only [mAft, show mCatch (mHd mM_183) 2 1 = some (11, 2) from rfl]
    dsimp only [List.set]
    rw [e183_11, e183_13]
end
