theorem chkA_of {M : mM} (hok : mOk0 M) {pc r1 r2 w len : Nat} {i : Instr} (h : mAt (mCd M) pc = some (i, len, r1, r2, w)) : chkA M (pc, i, len, r1, r2, w) = true := by
  have key : ∀ (cd : List mEnt), mAt cd pc = some (i, len, r1, r2, w) → (pc, i, len, r1, r2, w) ∈ cd := by
    intro cd
    induction cd with
    | nil => intro h; cases h
    | cons a t ih =>
      obtain ⟨q, e⟩ := a
      intro h
      unfold mAt at h
      split at h
      · next z => cases h; subst z; exact List.mem_cons_self
      · exact List.mem_cons_of_mem _ (ih h)
  exact List.all_eq_true.mp hok.1 _ (key _ h)
theorem hd_nil {M : mM} (h : mHd M = []) : tableOf (mHh M) = [] := by unfold mHh; rw [h]; rfl
theorem chkA_thr {M : mM} {pc r1 r2 w len : Nat} {i : Instr} (h : chkA M (pc, i, len, r1, r2, w) = true) (k0 : mKnd i r1 ≠ 0) (k1 : mKnd i r1 ≠ 1) (k2 : mKnd i r1 ≠ 2) : ∃ ik, i = .new ik ∧ chkT M pc ik (r1 - 900) r2 w = true := by
  unfold chkA at h
  simp only at h
  split at h
  · next ik => exact ⟨ik, rfl, h⟩
  · cases h
theorem rn_X {ro : Nat → Nat × (Nat → Int32)} (hok : ∀ (mid : Nat) (M : mM), mTab[mid]? = some M → mOk0 M) : ∀ (n : Nat) {mid pc : Nat} {lo : List (Option Value)} {st : List Value} {h : List mCel} {x : Nat} {E : Nat} {h1 : List mCel} {x1 : Nat} {M : mM}, mTab[mid]? = some M → rn ro mTab n mid pc lo st h x = some (.inr E, h1, x1) → x1 ≠ 0 ∧ E < 3 ∧ mHd M = [] ∧ (mWs M).1 = 1
  | 0, _, _, _, _, _, _, _, _, _, _, _, hh => by cases hh
  | n + 1, mid, pc, lo, st, h, x, E, h1, x1, M, hM, hh => by
    have ih := fun {mid pc lo st h x E h1 x1 M} => @rn_X ro hok n mid pc lo st h x E h1 x1 M
    replace hh : mF ro mTab (rn ro mTab n) mid pc lo st h x = some (.inr E, h1, x1) := hh
    unfold mF at hh
    rw [hM] at hh
    simp only at hh
    split at hh
    · cases hh
    · next i len r1 r2 w hat =>
      have hck := chkA_of (hok _ _ hM) hat
      split at hh
      · split at hh
        · exact ih hM hh
        · cases hh
      · split at hh <;> cases hh
      · next hk =>
        unfold chkA at hck
        simp only [hk] at hck
        unfold chkC at hck
        simp only [Bool.and_eq_true] at hck
        split at hh
        · split at hh
          · split at hh
            · exact ih hM hh
            · cases hh
          · cases hh
        · next h1000 =>
          rw [if_neg h1000] at hck
          split at hh
          · split at hh
            · exact ih hM hh
            · cases hh
          next h1001 =>
          rw [if_neg h1001] at hck
          split at hh
          · cases hh
          · next M' hM' =>
            rw [hM'] at hck
            simp only [Bool.and_eq_true, decide_eq_true_eq] at hck
            split at hh
            · cases hh
            · split at hh
              · cases hc : rn ro mTab n _ 0 _ [] h x with
                | none => rw [hc] at hh; cases hh
                | some o =>
                  obtain ⟨r9, h9, x9⟩ := o
                  rw [hc] at hh
                  unfold mAft at hh
                  split at hh
                  · exact ih hM hh
                  · next e =>
                    cases e
                    split at hh
                    · exact ih hM hh
                    · split at hh
                      · next hnil =>
                        cases hh
                        obtain ⟨a1, a2, a3, a4⟩ := ih hM' hc
                        refine ⟨a1, a2, hnil, ?_⟩
                        rcases hck.2.1.1.2 with z | z | z
                        · omega
                        · exact z
                        · exact absurd hnil z
                      · cases hh
                  · cases hh
              · cases hh
      · next k0 k1 k2 =>
        split at hh
        · simp only [Option.some.injEq, Prod.mk.injEq, Sum.inr.injEq] at hh
          obtain ⟨rfl, rfl, rfl⟩ := hh
          obtain ⟨ik, rfl, hc1⟩ := chkA_thr hck k0 k1 k2
          unfold chkT at hc1
          simp only [Bool.and_eq_true, decide_eq_true_eq] at hc1
          exact ⟨Nat.succ_ne_zero _, hc1.1.1.1.1.1.1.1.1.1.1, hc1.1.1.2, hc1.2⟩
        · cases hh
theorem rn_int {ro : Nat → Nat × (Nat → Int32)} : ∀ (n : Nat) {mid pc : Nat} {lo : List (Option Value)} {st : List Value} {h : List mCel} {x : Nat} {v : Option Value} {h1 : List mCel} {x1 : Nat} {M : mM}, mTab[mid]? = some M → mRt M = some .int → rn ro mTab n mid pc lo st h x = some (.inl v, h1, x1) → ∃ r, v = some (.int r)
  | 0, _, _, _, _, _, _, _, _, _, _, _, _, hh => by cases hh
  | n + 1, mid, pc, lo, st, h, x, v, h1, x1, M, hM, hrt, hh => by
    have ih := fun {mid pc lo st h x v h1 x1 M} => @rn_int ro n mid pc lo st h x v h1 x1 M
    replace hh : mF ro mTab (rn ro mTab n) mid pc lo st h x = some (.inl v, h1, x1) := hh
    unfold mF at hh
    rw [hM] at hh
    simp only at hh
    split at hh
    · cases hh
    · split at hh
      · split at hh
        · exact ih hM hrt hh
        · cases hh
      · split at hh
        · next v9 hv =>
          cases hh
          rw [hrt] at hv
          unfold mRet at hv
          split at hv
          · simp at hv; exact ⟨_, hv.symm⟩
          · simp at hv
          · simp at hv
          · simp at hv
          · cases hv
        · cases hh
      · split at hh
        · split at hh
          · split at hh
            · exact ih hM hrt hh
            · cases hh
          · cases hh
        · split at hh
          · split at hh
            · exact ih hM hrt hh
            · cases hh
          split at hh
          · cases hh
          · split at hh
            · cases hh
            · split at hh
              · cases hc : rn ro mTab n _ 0 _ [] h x with
                | none => rw [hc] at hh; cases hh
                | some o =>
                  obtain ⟨r9, h9, x9⟩ := o
                  rw [hc] at hh
                  unfold mAft at hh
                  split at hh
                  · exact ih hM hrt hh
                  · next e =>
                    cases e
                    split at hh
                    · exact ih hM hrt hh
                    · split at hh <;> cases hh
                  · cases hh
              · cases hh
      · split at hh <;> cases hh
theorem rn_flt {ro : Nat → Nat × (Nat → Int32)} : ∀ (n : Nat) {mid pc : Nat} {lo : List (Option Value)} {st : List Value} {h : List mCel} {x : Nat} {v : Option Value} {h1 : List mCel} {x1 : Nat} {M : mM}, mTab[mid]? = some M → mRt M = some .float → rn ro mTab n mid pc lo st h x = some (.inl v, h1, x1) → ∃ r, v = some (.float r)
  | 0, _, _, _, _, _, _, _, _, _, _, _, _, hh => by cases hh
  | n + 1, mid, pc, lo, st, h, x, v, h1, x1, M, hM, hrt, hh => by
    have ih := fun {mid pc lo st h x v h1 x1 M} => @rn_flt ro n mid pc lo st h x v h1 x1 M
    replace hh : mF ro mTab (rn ro mTab n) mid pc lo st h x = some (.inl v, h1, x1) := hh
    unfold mF at hh
    rw [hM] at hh
    simp only at hh
    split at hh
    · cases hh
    · split at hh
      · split at hh
        · exact ih hM hrt hh
        · cases hh
      · split at hh
        · next v9 hv =>
          cases hh
          rw [hrt] at hv
          unfold mRet at hv
          split at hv
          · simp at hv
          · simp at hv
          · simp at hv; exact ⟨_, hv.symm⟩
          · simp at hv
          · cases hv
        · cases hh
      · split at hh
        · split at hh
          · split at hh
            · exact ih hM hrt hh
            · cases hh
          · cases hh
        · split at hh
          · split at hh
            · exact ih hM hrt hh
            · cases hh
          split at hh
          · cases hh
          · split at hh
            · cases hh
            · split at hh
              · cases hc : rn ro mTab n _ 0 _ [] h x with
                | none => rw [hc] at hh; cases hh
                | some o =>
                  obtain ⟨r9, h9, x9⟩ := o
                  rw [hc] at hh
                  unfold mAft at hh
                  split at hh
                  · exact ih hM hrt hh
                  · next e =>
                    cases e
                    split at hh
                    · exact ih hM hrt hh
                    · split at hh <;> cases hh
                  · cases hh
              · cases hh
      · split at hh <;> cases hh
theorem rcv_spec {kd : Nat} {as : List Value} {h : List mCel} (hk : 1000 ≤ kd) (hr : mRcv kd as h = true) : ∃ b as' ci fs, as = .ref b :: as' ∧ mCell h b = some (.inr (ci, fs)) ∧ ci = kd % 1000 := by
  unfold mRcv at hr
  rw [if_neg (by omega)] at hr
  split at hr
  · next a t =>
    split at hr
    · next c fs e => exact ⟨a, t, c, fs, rfl, e, of_decide_eq_true hr⟩
    · cases hr
  · cases hr
theorem math_words : Jvm.Cond.initialized "java/lang/Math" ∈ gF ∧ (Jvm.Cond.static Lib.Math.max.name ∈ gF ∧ Jvm.Cond.code Lib.Math.max.name Lib.Math.max.code 2 (some .int) ∈ gF) ∧ (Jvm.Cond.static Lib.Math.min.name ∈ gF ∧ Jvm.Cond.code Lib.Math.min.name Lib.Math.min.code 2 (some .int) ∈ gF) ∧ (Jvm.Cond.static Lib.Math.abs.name ∈ gF ∧ Jvm.Cond.code Lib.Math.abs.name Lib.Math.abs.code 1 (some .int) ∈ gF) := by decide +kernel
theorem obj_words : Jvm.Cond.instanceMethod Lib.objectInit ∈ gF ∧ Jvm.Cond.code Lib.objectInit ⟨#[0xb1]⟩ 1 none ∈ gF := by decide +kernel
set_option maxHeartbeats 4000000 in
theorem simW {l : Launch} (hl : l.stackTraces = false) {ro : Nat → Nat × (Nat → Int32)} (hok : ∀ (mid : Nat) (M : mM), mTab[mid]? = some M → mOk0 M) (hokc : ∀ (mid : Nat) (M : mM), mTab[mid]? = some M → (mWs M).2.1 = 0 → mOkM M) (n : Nat) : mSim l ro n := by
  induction n with
  | zero => unfold mSim; intro _ _ _ _ _ _ _ _ _ _ _ hh; cases hh
  | succ n IH =>
    unfold mSim
    intro mid pc lo st h x r h1 x1 M hM hh ql qs qh p e R s m args below meth c κ ρ0 n0 D A Q cells slots hn C hR hc hT hend
    have hokM := hok _ _ hM
    have hmono := rn_mono (n + 1) hh
    replace hh : mF ro mTab (rn ro mTab n) mid pc lo st h x = some (r, h1, x1) := hh
    unfold mF at hh
    rw [hM] at hh
    simp only at hh
    split at hh
    · cases hh
    · next i len r1 r2 w hat =>
      have hck := chkA_of hokM hat
      split at hh
      · -- a step
        next hk =>
        unfold chkA at hck
        simp only [hk] at hck
        split at hh
        · next pc' lo' st' h' hs =>
          have m1 := stp_mono hs
          have m2 := rn_mono n hh
          obtain ⟨ql', qs', qh'⟩ := stp_ok hs ql qs qh
          refine simS C hR hn ql qs qh hck hk hs ?_ (IH hM hh ql' qs' qh' (by omega) C hR ?_ hT ?_)
          · unfold mC mS at hc; omega
          · unfold mC mS at hc ⊢; omega
          · have e1 : cells + (h'.length - h.length) + mC h' x h1 x1 = cells + mC h x h1 x1 := by unfold mC; omega
            have e2 : slots + (hz h' - hz h) + mS h' x h1 x1 = slots + mS h x h1 x1 := by unfold mS; omega
            rw [e1, e2]; exact hend
        · cases hh
      · -- an end
        next hk =>
        unfold chkA at hck
        simp only [hk] at hck
        split at hh
        · next v hv =>
          cases hh
          have e1 : cells + mC h x h x = cells := by unfold mC; omega
          have e2 : slots + mS h x h x = slots := by unfold mS; omega
          rw [e1, e2] at hend
          have hst : st = v.toList := by
            unfold mRet at hv
            split at hv
            · split at hv
              · split at hv <;> cases hv; rfl
              · split at hv <;> cases hv; rfl
            · split at hv <;> cases hv <;> rfl
            · split at hv <;> cases hv; rfl
            · split at hv <;> cases hv; rfl
            · cases hv
          subst hst
          exact fun ρ H locs ls hρ hH hL => hend i pc ρ H locs ls hρ (dOk_spec hck) hv hH
        · cases hh
      · -- a call
        next hk =>
        unfold chkA at hck
        simp only [hk] at hck
        unfold chkC at hck
        simp only [Bool.and_eq_true] at hck
        obtain ⟨hd, hck⟩ := hck
        have hd := dOk_spec hd
        split at hh
        · next h1000 =>
          rw [if_pos h1000] at hck
          split at hck
          · next k =>
            simp only [Bool.and_eq_true, decide_eq_true_eq] at hck
            split at hh
            · next a st9 =>
              split at hh
              · next hsum =>
                intro ρ H locs ls hρ hH hL
                have hw1 : Jvm.Cond.instanceMethod Lib.objectInit ∈ gF := obj_words.1
                have hw2 : Jvm.Cond.code Lib.objectInit ⟨#[0xb1]⟩ 1 none ∈ gF := obj_words.2
                refine W.objInit C.1 C.2.1 C.2.2.2.1 (C.2.2.1 _ (List.mem_of_getElem? hck.1)) (C.2.2.1 _ hw1) (C.2.2.1 _ hw2) rfl (by rw [C.2.2.2.2.2.2.2.1]; exact hL.1) rfl hd (by omega) ?_ ?_
                · have := cat_map (ρ := ρ) hsum
                  show 2 * 0 + _ + 12 ≤ _
                  omega
                · exact W.eq (g2 := F0 m (pc + 3) ls (st9.map (rv ρ))) rfl (IH hM hh ql (sOk_cons.mp qs).2 qh hn C hR hc hT hend ρ H locs ls hρ hH hL)
              · cases hh
            · cases hh
          · cases hck
        · next h1000 =>
          rw [if_neg h1000] at hck
          split at hh
          · next h1001 =>
            rw [if_pos h1001] at hck
            split at hh
            · next st9 hmath =>
              have kk := IH hM hh ql (math_ok hmath qs) qh hn C hR hc hT hend
              have hm := math_words
              intro ρ H locs ls hρ hH hL
              have hcel : cells ≤ R.cells := by omega
              have hslo : slots ≤ R.slots := by omega
              have hml : c.maxLocals = ls.size := by rw [C.2.2.2.2.2.2.2.1, hL.1]
              have k1 := kk ρ H locs ls hρ hH hL
              split at hck
              · next k =>
                simp only [Bool.and_eq_true, decide_eq_true_eq] at hck
                unfold mMath at hmath
                split at hmath
                · split at hmath
                  · next hsum =>
                    cases hmath
                    have h9 := cat_map (ρ := ρ) hsum
                    exact va_mmax C.1 C.2.1 hml C.2.2.2.1 (C.2.2.1 _ (List.mem_of_getElem? hck.1)) (C.2.2.1 _ hm.2.1.1) (C.2.2.1 _ hm.1) (C.2.2.1 _ hm.2.1.2) (by omega) (by omega) hcel hslo hd k1
                  · cases hmath
                · split at hmath
                  · next hsum =>
                    cases hmath
                    have h9 := cat_map (ρ := ρ) hsum
                    exact va_mmin C.1 C.2.1 hml C.2.2.2.1 (C.2.2.1 _ (List.mem_of_getElem? hck.1)) (C.2.2.1 _ hm.2.2.1.1) (C.2.2.1 _ hm.1) (C.2.2.1 _ hm.2.2.1.2) (by omega) (by omega) hcel hslo hd k1
                  · cases hmath
                · split at hmath
                  · next hsum =>
                    cases hmath
                    have h9 := cat_map (ρ := ρ) hsum
                    exact va_mabs C.1 C.2.1 hml C.2.2.2.1 (C.2.2.1 _ (List.mem_of_getElem? hck.1)) (C.2.2.1 _ hm.2.2.2.1) (C.2.2.1 _ hm.1) (C.2.2.1 _ hm.2.2.2.2) (by omega) (by omega) hcel hslo hd k1
                  · cases hmath
                · cases hmath
              · cases hck
            · cases hh
          next h1001 =>
          rw [if_neg h1001] at hck
          split at hh
          · cases hh
          · next M' hM' =>
            rw [hM'] at hck
            simp only [Bool.and_eq_true, decide_eq_true_eq] at hck
            obtain ⟨⟨⟨⟨f1, f2⟩, f3⟩, f4⟩, hck⟩ := hck
            have hok' := hokc _ _ hM' f4
            split at hh
            · cases hh
            · next as st' hpop =>
              obtain ⟨qa, qs'⟩ := pop_ok hpop sOk_nil qs
              obtain ⟨bs, has, hst, hbl, hcat, hsum⟩ := mPop_spec _ hpop
              rw [List.append_nil] at has
              have hlen : as.length = mNa M' := by rw [has, List.length_reverse]; exact hbl
              have hst : st = as.reverse ++ st' := by rw [has, List.reverse_reverse]; exact hst
              have hcat : ∀ v ∈ as, v.category = 1 := fun v hv => hcat v (by rw [has] at hv; exact List.mem_reverse.mp hv)
              split at hh
              · next hrcv =>
                cases hcal : rn ro mTab n r1 0 (mIn M' as) [] h x with
                | none => rw [hcal] at hh; cases hh
                | some o =>
                  obtain ⟨r9, h9, x9⟩ := o
                  rw [hcal] at hh
                  have m1 := rn_mono n hcal
                  obtain ⟨qh9, qr9⟩ := rn_ok n hcal (in_ok qa) sOk_nil qh
                  have hR' : mFr M' + 1 ≤ R.frames ∧ 8 + (mMx M' + 11) + mLc M' ≤ R.locals := ⟨by omega, by omega⟩
                  unfold mAft at hh
                  cases r9 with
                  | inl v =>
                    simp only at hh
                    have m2 := rn_mono n hh
                    have hc9 : cells + (0 + mC h x h9 x9) ≤ R.cells ∧ slots + (0 + mS h x h9 x9) ≤ R.slots := by unfold mC mS at hc ⊢; omega
                    have kk : mGo p l e R s m args below meth c M κ ρ0 n0 D A Q (pc + 3) lo (v.toList ++ st') h9 (cells + (0 + mC h x h9 x9)) (slots + (0 + mS h x h9 x9)) := by
                      refine IH hM hh (lOk_mono (by omega) ql) (sOk_app.mpr ⟨qr9, sOk_mono (by omega) qs'⟩) qh9 (by omega) C hR ?_ hT ?_
                      · unfold mC mS at hc ⊢; omega
                      · have e1 : cells + (0 + mC h x h9 x9) + mC h9 x9 h1 x1 = cells + mC h x h1 x1 := by unfold mC; omega
                        have e2 : slots + (0 + mS h x h9 x9) + mS h9 x9 h1 x1 = slots + mS h x h1 x1 := by unfold mS; omega
                        rw [e1, e2]; exact hend
                    split at hck
                    · next k =>
                      simp only [Bool.and_eq_true, decide_eq_true_eq] at hck
                      by_cases hHd : mHd M' = []
                      · exact c_S C hok' hck.2 hHd hd (List.mem_of_getElem? hck.1) hR' hlen hst hsum hc9 hn ql qs' (fun ρ sz hN => met_ret IH hM' hok' hHd hcal hcat hlen hl hN qa qh) kk
                      · rcases (ok_words hok').2.2.2.2.2.2.2 hHd with hri | hrf
                        · obtain ⟨r0, rfl⟩ := rn_int n hM' hri hcal
                          exact c_W C hok' hck.2 hHd hd (List.mem_of_getElem? hck.1) hR' hlen hst hsum hc9 hn ql qs' (fun ρ sz hN => met_wrap IH hM' hok' hHd hcal hcat hlen hl hN qa qh) kk
                        · obtain ⟨r0, rfl⟩ := rn_flt n hM' hrf hcal
                          exact c_Wf C hok' hck.2 hHd hd (List.mem_of_getElem? hck.1) hR' hlen hst hsum hc9 hn ql qs' (fun ρ sz hN => met_wrap IH hM' hok' hHd hcal hcat hlen hl hN qa qh) kk
                    · next k =>
                      simp only [Bool.and_eq_true, decide_eq_true_eq] at hck
                      obtain ⟨b, as', ci, fs, g1, g2, g3⟩ := rcv_spec (by omega) hrcv
                      exact c_V C hok' (show mKd M' = 1000 + ci by omega) (by omega) hck.2 hd (List.mem_of_getElem? hck.1.1) hR' g1 g2 hlen hst hsum hc9 hn ql qs' (fun ρ sz hN => met_ret IH hM' hok' hck.2 hcal hcat hlen hl hN qa qh) kk
                    · next k =>
                      simp only [Bool.and_eq_true, decide_eq_true_eq] at hck
                      obtain ⟨⟨⟨⟨k1, k2⟩, k3⟩, k4⟩, k5⟩ := hck
                      obtain ⟨b, as', ci, fs, g1, g2, g3⟩ := rcv_spec (by omega) hrcv
                      by_cases hn2 : r2 = 1
                      · rw [if_pos hn2] at k1
                        exact c_IN C hok' k2 k3 k4 hd (of_decide_eq_true k1) hR' g1 hlen hst hsum hc9 hn ql qs' (fun ρ sz hN => met_ret IH hM' hok' k3 hcal hcat hlen hl hN qa qh) kk
                      · rw [if_neg hn2] at k1
                        exact c_I C hok' k2 k3 k4 hd (List.mem_of_getElem? (of_decide_eq_true k1)) hR' g1 hlen hst hsum hc9 hn ql qs' (fun ρ sz hN => met_ret IH hM' hok' k3 hcal hcat hlen hl hN qa qh) kk
                    · cases hck
                  | inr E =>
                    simp only at hh
                    obtain ⟨hx9, hE, hHd', hT1⟩ := rn_X hok n hM' hcal
                    have hc9 : cells + (0 + mC h x h9 x9) ≤ R.cells ∧ slots + (0 + mS h x h9 x9) ≤ R.slots := by
                      split at hh
                      · have m2 := rn_mono n hh
                        unfold mC mS at hc ⊢; omega
                      · split at hh
                        · cases hh; unfold mC mS at hc ⊢; omega
                        · cases hh
                    have kx : mX p l e R s m args below meth c M κ ρ0 n0 D A Q pc lo st' h9 (cells + (0 + mC h x h9 x9)) (slots + (0 + mS h x h9 x9)) E := by
                      split at hh
                      · next hp k hcatch =>
                        have m2 := rn_mono n hh
                        refine x_catch C hE (mHd M) [] (fun q hq => List.all_eq_true.mp hokM.2 q (by simpa using hq)) (fun q hq => absurd hq List.not_mem_nil) (by rw [hT]; rfl) hcatch (IH hM hh (lOk_none (lOk_mono (by omega) ql)) sOk_nil qh9 (by omega) C hR ?_ hT ?_)
                        · unfold mC mS at hc ⊢; omega
                        · have e1 : cells + (0 + mC h x h9 x9) + mC h9 x9 h1 x1 = cells + mC h x h1 x1 := by unfold mC; omega
                          have e2 : slots + (0 + mS h x h9 x9) + mS h9 x9 h1 x1 = slots + mS h x h1 x1 := by unfold mS; omega
                          rw [e1, e2]; exact hend
                      · split at hh
                        · next hHd =>
                          cases hh
                          have e1 : cells + (0 + mC h x h1 x1) = cells + mC h x h1 x1 := by omega
                          have e2 : slots + (0 + mS h x h1 x1) = slots + mS h x h1 x1 := by omega
                          rw [e1, e2]
                          exact x_out C (by rw [hT]; exact hd_nil hHd) hend
                        · cases hh
                    split at hck
                    · next k =>
                      simp only [Bool.and_eq_true, decide_eq_true_eq] at hck
                      exact t_S C hok' hck.2 hHd' hd (List.mem_of_getElem? hck.1) hR' hlen hst hsum hc9 hn ql qs' (fun ρ sz hN => met_thr IH hM' hok' hHd' hcal hcat hlen hl hN qa qh) kx
                    · next k =>
                      simp only [Bool.and_eq_true, decide_eq_true_eq] at hck
                      obtain ⟨b, as', ci, fs, g1, g2, g3⟩ := rcv_spec (by omega) hrcv
                      exact t_V C hok' (show mKd M' = 1000 + ci by omega) (by omega) hHd' hd (List.mem_of_getElem? hck.1.1) hR' g1 g2 hlen hst hsum hc9 hn ql qs' (fun ρ sz hN => met_thr IH hM' hok' hHd' hcal hcat hlen hl hN qa qh) kx
                    · next k =>
                      simp only [Bool.and_eq_true, decide_eq_true_eq] at hck
                      have := hck.2
                      omega
                    · cases hck
              · cases hh
      · -- a throw
        next k0 k1 k2 =>
        split at hh
        · next hsum =>
          simp only [Option.some.injEq, Prod.mk.injEq] at hh
          obtain ⟨rfl, rfl, rfl⟩ := hh
          obtain ⟨ik, rfl, hck2⟩ := chkA_thr hck k0 k1 k2
          have hc1 := hck2
          unfold chkT at hc1
          simp only [Bool.and_eq_true, decide_eq_true_eq] at hc1
          have hE : r1 - 900 < 3 := hc1.1.1.1.1.1.1.1.1.1.1
          have hHd : mHd M = [] := hc1.1.1.2
          obtain ⟨g1, g2, g3⟩ := ex_words C (k := ik) hE (List.all_eq_true.mp gF_good _ hc1.1.1.1.1.1.2)
          have e1 : mC h x h (x + 1) = 1 := by unfold mC; omega
          have e2 : mS h x h (x + 1) = 6 := by unfold mS; omega
          rw [e1, e2] at hc hend
          exact t_new C hck2 hR hsum (by rw [hT]; exact hd_nil hHd) hc g1 g2 g3 hend
        · cases hh
