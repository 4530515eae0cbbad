section GO
variable {p : Program} {l : Launch} {e : Env} {R : Room} {s : State} {m : MethodId} {args : Array Value} {below : List Frame} {meth : Method} {c : Code} {M M' : mM} {κ ρ0 ρ : Nat → Nat} {n0 : Nat} {D : va_G} {ro : Nat → Nat × (Nat → Int32)} {A : Nat → Prop} {Q : State → Prop}
variable {pc x x1 n mid k E : Nat} {lo : List (Option Value)} {as st st' st0 : List Value} {h h1 : List mCel} {cells slots mc ms : Nat} {v : Option Value} {H : Heap} {locs : List Loc} {ls : Array Slot} {a : Array Value}
theorem free_of (C : mCtx p l s m args meth c M κ ρ0 D ro A) (hH : mHp κ ρ D A s h H locs) : ∀ q, va_A (xW κ ρ h) H.size q → A q := by
  intro q hq
  rcases hq with ⟨i, en, hi⟩ | hq
  · exact hH.2.1.2 i (q, en) hi
  · exact C.2.2.2.2.2.2.1 q (Nat.le_trans hH.2.2.1.1 hq)
theorem mSta_ag {u : State} {H0 : Heap} {B : Nat → Prop} (h : mAg n0 ρ0 ρ) (q : mSta ρ0 ro B u H0) : mSta ρ ro B u H0 := by
  have e : ∀ k, k < 6 → ρ k = ρ0 k := fun k hk => h k (Or.inl (by omega))
  refine ⟨⟨?_, fun k h1 h2 => ?_⟩, fun k h1 h2 => ?_, q.2.2⟩
  · rw [e 0 (by omega)]; exact q.1.1
  · rw [e k h2]; exact q.1.2 k h1 h2
  · rw [e k h2]; exact q.2.1 k h1 h2
theorem pre_at (C : mCtx p l s m args meth c M κ ρ0 D ro A) (hρ : mAg n0 ρ0 ρ) (hH : mHp κ ρ D A s h H locs) : ∀ U : State, U.heap = H → s.WarmedH U.vm → mPc κ ρ D ro as h H.size (as.map (rv ρ)).toArray U := fun U hU hW =>
  ⟨rfl, by rw [hU], by rw [hU]; exact hH.1, va_K.moved hW.alike C.2.2.2.2.1, hH.2.1.weaken (fun _ _ _ _ => trivial), by
    rw [hU]
    exact mSta_ag hρ (((C.2.2.2.2.2.1.kept hH.2.2.1.1 (fun a h1 h2 => hH.2.2.1.2.1 a h1 h2)).narrow (free_of C hH)).warm hW)⟩
theorem go_ret (C : mCtx p l s m args meth c M κ ρ0 D ro A) (hρ : mAg n0 ρ0 ρ) (hn : n0 ≤ 8 + h.length) (ql : lOk (8 + h.length) lo) (qs : sOk (8 + h.length) st') (hH : mHp κ ρ D A s h H locs) (hL : mL ρ (mMx M) lo ls)
    (hr : va_Run p l e R s m args below meth c H locs cells slots mc ms (F0 m pc ls st0) (st'.map (rv ρ)) (mQc κ ρ (8 + h.length) D (va_A (xW κ ρ h) H.size) h1 v a) (va_A (xW κ ρ h) H.size))
    (kk : mGo p l e R s m args below meth c M κ ρ0 n0 D A Q (pc + 3) lo (v.toList ++ st') h1 (cells + mc) (slots + ms)) : W p l e R s m args below meth c H locs cells slots Q (F0 m pc ls st0) := by
  have hF := free_of C hH
  have new : ∀ (ρ1 : Nat → Nat) (t : State) (H1 : Heap) (locs1 : List Loc), t.heap = H1 → mBx κ ρ1 D (va_A (xW κ ρ h) H.size) h1 t → va_S A s.heap H1 locs1 → mHp κ ρ1 D A s h1 H1 locs1 := fun ρ1 t H1 locs1 e1 hB hS =>
    ⟨by rw [← e1]; exact hB.1, hB.2.1.weaken (fun _ q _ z => hF q.1 z), hS, by rw [← e1]; exact hB.2.2⟩
  have go : ∀ (ρ1 : Nat → Nat) (H1 : Heap) (locs1 : List Loc), mAg (8 + h.length) ρ ρ1 → mHp κ ρ1 D A s h1 H1 locs1 → W p l e R s m args below meth c H1 locs1 (cells + mc) (slots + ms) Q (F0 m (pc + 3) ls (v.toList.map (rv ρ1) ++ st'.map (rv ρ))) := fun ρ1 H1 locs1 hag hm => by
    have k := kk ρ1 H1 locs1 ls (mAg_tr hρ hag hn) hm (mL_ag hag (Nat.le_refl _) ql hL)
    rw [List.map_append, st_ag hag (Nat.le_refl _) qs] at k
    exact k
  rcases v with _ | v
  · exact va_callv (a := a) hr hH.2.2.1 (fun q _ z => hF q z) hF (fun u t H1 locs1 e1 _ _ hB _ _ hS => by obtain ⟨ρ1, hag, hX⟩ := hB; exact go ρ1 H1 locs1 hag (new ρ1 t H1 locs1 e1 hX hS))
  · cases v with
    | int r => exact va_calli (a := a) hr hH.2.2.1 (fun q _ z => hF q z) hF (fun r' u t H1 locs1 e1 _ hp hB _ _ hS => by subst hp; obtain ⟨ρ1, hag, hX⟩ := hB; exact go ρ1 H1 locs1 hag (new ρ1 t H1 locs1 e1 hX hS))
    | float r => exact va_callf (a := a) hr hH.2.2.1 (fun q _ z => hF q z) hF (fun r' u t H1 locs1 e1 _ hp hB _ _ hS => by subst hp; obtain ⟨ρ1, hag, hX⟩ := hB; exact go ρ1 H1 locs1 hag (new ρ1 t H1 locs1 e1 hX hS))
    | ref r => exact va_callr (a := a) hr hH.2.2.1 (fun q _ z => hF q z) hF (fun u ra t H1 locs1 e1 _ _ hB _ _ hS => by obtain ⟨ρ1, ⟨hag, hX⟩, hp⟩ := hB; subst hp; exact go ρ1 H1 locs1 hag (new ρ1 t H1 locs1 e1 hX hS))
    | _ =>
      intro T hT X
      obtain ⟨_, _, _, _, _, _, _, _, _, _, z, _⟩ := hr T hT X
      exact z.elim
theorem ok_words (hok : mOkM M') : (mY M').cls = mOwn M' ∧ (mY M').cls ≠ "java/lang/invoke/MethodHandle" ∧ (mY M').cls ≠ "java/lang/invoke/VarHandle" ∧
    (parseMethodDescriptor (mY M').desc).map (fun d => d.parameters.length) = some (if mKd M' = 0 then mNa M' else mNa M' - 1) ∧ Jvm.Cond.initialized (mY M').cls ∈ gF ∧
    (mKd M' = 0 → Jvm.Cond.static (mY M') ∈ gF) ∧ (mKd M' ≠ 0 → Jvm.Cond.instanceMethod (mY M') ∈ gF ∧ 1 ≤ mNa M' ∧ (∃ X, vwCl[mKd M' % 1000]? = some X ∧ X.1 = mOwn M') ∧ (mKd M' < 2000 → Jvm.Cond.selects (mOwn M') (mY M') (mY M') ∈ gF) ∧ (2000 ≤ mKd M' → (mY M').name = "<init>")) ∧ (mHd M' ≠ [] → mRt M' = some .int ∨ mRt M' = some .float) := by
  have hc := hok.1
  unfold chkM at hc
  simp only [Bool.and_eq_true, decide_eq_true_eq] at hc
  obtain ⟨⟨⟨⟨⟨⟨⟨⟨c1, c2⟩, c3⟩, c4⟩, c5⟩, c6⟩, c7⟩, c8⟩, c9⟩ := hc
  refine ⟨c1, c3.1, c3.2, c4, c6, fun hk => ?_, fun hk => ?_, c9⟩
  · rw [if_pos hk] at c7
    exact of_decide_eq_true c7
  · rw [if_neg hk] at c7
    simp only [Bool.and_eq_true, decide_eq_true_eq] at c7
    obtain ⟨⟨⟨d1, d2⟩, d3⟩, d4⟩ := c7
    refine ⟨d1, d2, ?_, fun q => ?_, fun q => ?_⟩
    · split at d3
      · next X e => exact ⟨X, e, of_decide_eq_true d3⟩
      · cases d3
    · rw [if_pos q] at d4
      exact of_decide_eq_true d4
    · rw [if_neg (by omega)] at d4
      exact of_decide_eq_true d4
theorem hts_A (C : mCtx p l s m args meth c M κ ρ0 D ro A) : ∀ w ∈ gA, w.before args s = true := fun w hw => by
  rcases List.mem_append.mp hw with q | q
  · exact C.2.2.1 w q
  · obtain ⟨X, h1, h2⟩ := List.mem_flatMap.mp q
    obtain ⟨i, hi⟩ := List.getElem?_of_mem h1
    exact C.2.2.2.2.2.2.2.2.2.2.2 i X hi w h2
theorem fix_of (C : mCtx p l s m args meth c M κ ρ0 D ro A) : CallFix p m c (mBy M) (mMx M) s args gA (mOwn M) := ⟨C.1, C.2.1, C.2.2.2.2.2.2.2.1, C.2.2.2.1, hts_A C⟩
theorem wd_in (hok : mOkM M') : ∀ w ∈ mWd M', w ∈ gA := fun w hw => by
  rcases List.mem_cons.mp hw with rfl | hw
  · exact gF_A hok.2.1
  · exact hw
theorem cat_map {st : List Value} (h : (st.map Value.category).sum ≤ 8) : ((st.map (rv ρ)).map fun v => v.category).sum ≤ 8 := by
  have : (st.map (rv ρ)).map (fun v => v.category) = st.map Value.category := by
    rw [List.map_map]
    exact List.map_congr_left fun v _ => rv_cat ρ v
  rw [this]; exact h
/-- a static call of a method without handlers, that returns -/
theorem c_S (C : mCtx p l s m args meth c M κ ρ0 D ro A) (hok : mOkM M') (hk : mKd M' = 0) (hHd : mHd M' = []) (hd : decode (mBy M) pc = .ok (.invokestatic k, 3)) (hl : Jvm.Cond.methodLink (mOwn M) k (mY M') ∈ gF) (hR : mFr M' + 1 ≤ R.frames ∧ 8 + (mMx M' + 11) + mLc M' ≤ R.locals)
    (hlen : as.length = mNa M') (hst : st = as.reverse ++ st') (hsum : (st'.map Value.category).sum ≤ 8) (hc : cells + (0 + mC h x h1 x1) ≤ R.cells ∧ slots + (0 + mS h x h1 x1) ≤ R.slots)
    (hn : n0 ≤ 8 + h.length) (ql : lOk (8 + h.length) lo) (qs : sOk (8 + h.length) st') (hM : ∀ (ρ : Nat → Nat) sz, (∀ j, 8 + h.length ≤ j → ρ j = sz + (j - (8 + h.length))) → Met l (mY M') (mWd M') (mRm M' h x h1 x1) (mPc κ ρ D ro as h sz) (mQc κ ρ (8 + h.length) D (va_A (xW κ ρ h) sz) h1 v) (0 + mC h x h1 x1) (0 + mS h x h1 x1) (va_A (xW κ ρ h) sz))
    (kk : mGo p l e R s m args below meth c M κ ρ0 n0 D A Q (pc + 3) lo (v.toList ++ st') h1 (cells + (0 + mC h x h1 x1)) (slots + (0 + mS h x h1 x1))) : mGo p l e R s m args below meth c M κ ρ0 n0 D A Q pc lo st h cells slots := by
  intro ρ H locs ls hρ hH hL
  obtain ⟨w1, w2, w3, w4, w5, w6, -, -⟩ := ok_words hok
  rw [if_pos hk] at w4
  refine go_ret C hρ hn ql qs hH hL (va_runS (fix_of C) (hM ρ H.size hH.2.2.2) (va_cwS (mNa M') (hts_A C) (gA_in fun w hw => ?_) (by unfold mWd; rw [mCw_nil hHd]) rfl rfl ⟨w2, w3, w4⟩ hR) ⟨mPc_blind, pre_at C hρ hH⟩ rfl (by rw [List.length_map]; exact hlen) hL.1 (by rw [hst, List.map_append, List.map_reverse]) (lv_room (cat_map hsum)) hd hc) kk
  simp only [va_wsS, List.mem_append, List.mem_cons, List.not_mem_nil, or_false] at hw
  rcases hw with (rfl | rfl | rfl) | hw
  · exact gF_A hl
  · exact gF_A (w6 hk)
  · exact gF_A w5
  · exact wd_in hok w hw
/-- a virtual call -/
theorem c_V (C : mCtx p l s m args meth c M κ ρ0 D ro A) (hok : mOkM M') {ci b : Nat} {fs : List Value} {as' : List Value} (hk : mKd M' = 1000 + ci) (hci : ci < 1000) (hHd : mHd M' = []) (hd : decode (mBy M) pc = .ok (.invokevirtual k, 3)) (hl : Jvm.Cond.methodLink (mOwn M) k (mY M') ∈ gF) (hR : mFr M' + 1 ≤ R.frames ∧ 8 + (mMx M' + 11) + mLc M' ≤ R.locals)
    (has : as = .ref b :: as') (hb : mCell h b = some (.inr (ci, fs))) (hlen : as.length = mNa M') (hst : st = as.reverse ++ st') (hsum : (st'.map Value.category).sum ≤ 8) (hc : cells + (0 + mC h x h1 x1) ≤ R.cells ∧ slots + (0 + mS h x h1 x1) ≤ R.slots)
    (hn : n0 ≤ 8 + h.length) (ql : lOk (8 + h.length) lo) (qs : sOk (8 + h.length) st') (hM : ∀ (ρ : Nat → Nat) sz, (∀ j, 8 + h.length ≤ j → ρ j = sz + (j - (8 + h.length))) → Met l (mY M') (mWd M') (mRm M' h x h1 x1) (mPc κ ρ D ro as h sz) (mQc κ ρ (8 + h.length) D (va_A (xW κ ρ h) sz) h1 v) (0 + mC h x h1 x1) (0 + mS h x h1 x1) (va_A (xW κ ρ h) sz))
    (kk : mGo p l e R s m args below meth c M κ ρ0 n0 D A Q (pc + 3) lo (v.toList ++ st') h1 (cells + (0 + mC h x h1 x1)) (slots + (0 + mS h x h1 x1))) : mGo p l e R s m args below meth c M κ ρ0 n0 D A Q pc lo st h cells slots := by
  intro ρ H locs ls hρ hH hL
  obtain ⟨w1, w2, w3, w4, w5, -, w7, -⟩ := ok_words hok
  obtain ⟨w8, w9, ⟨X, w10, w11⟩, w12, -⟩ := w7 (by omega)
  rw [if_neg (by omega)] at w4
  rw [show mKd M' % 1000 = ci by omega] at w10
  subst has
  have hpre := pre_at C hρ hH (as := .ref b :: as')
  rw [List.length_cons] at hlen
  have hrcv := va_recv C.2.2.2.2.1 hH.1 w10 (xW_cell hb).1
  rw [w11] at hrcv
  refine go_ret C hρ hn ql qs hH hL (va_runV (C := mOwn M') (b := ρ b) (As := as'.map (rv ρ)) (fix_of C) (hM ρ H.size hH.2.2.2) (cwV (mNa M' - 1) (hts_A C) (gA_in fun w hw => ?_) (by unfold mWd; rw [mCw_nil hHd]) rfl rfl ⟨w1, w2, w3, w4⟩ hR) ⟨mPc_blind, hrcv, hpre⟩ rfl (by rw [List.length_map]; omega) hL.1 (by rw [hst]; simp [rv]) (lv_room (cat_map hsum)) hd hc) kk
  simp only [wsV, List.mem_append, List.mem_cons, List.not_mem_nil, or_false] at hw
  rcases hw with (rfl | rfl | rfl | rfl) | hw
  · exact gF_A hl
  · exact gF_A w8
  · exact gF_A (w12 (by omega))
  · exact gF_A (by rw [← w1]; exact w5)
  · exact wd_in hok w hw
/-- a constructor -/
theorem c_I (C : mCtx p l s m args meth c M κ ρ0 D ro A) (hok : mOkM M') {b : Nat} {as' : List Value} (hk : 2000 ≤ mKd M') (hHd : mHd M' = []) (hrt : mRt M' = none) (hd : decode (mBy M) pc = .ok (.invokespecial k, 3)) (hl : Jvm.Cond.methodLink (mOwn M) k (mY M') ∈ gF) (hR : mFr M' + 1 ≤ R.frames ∧ 8 + (mMx M' + 11) + mLc M' ≤ R.locals)
    (has : as = .ref b :: as') (hlen : as.length = mNa M') (hst : st = as.reverse ++ st') (hsum : (st'.map Value.category).sum ≤ 8) (hc : cells + (0 + mC h x h1 x1) ≤ R.cells ∧ slots + (0 + mS h x h1 x1) ≤ R.slots)
    (hn : n0 ≤ 8 + h.length) (ql : lOk (8 + h.length) lo) (qs : sOk (8 + h.length) st') (hM : ∀ (ρ : Nat → Nat) sz, (∀ j, 8 + h.length ≤ j → ρ j = sz + (j - (8 + h.length))) → Met l (mY M') (mWd M') (mRm M' h x h1 x1) (mPc κ ρ D ro as h sz) (mQc κ ρ (8 + h.length) D (va_A (xW κ ρ h) sz) h1 v) (0 + mC h x h1 x1) (0 + mS h x h1 x1) (va_A (xW κ ρ h) sz))
    (kk : mGo p l e R s m args below meth c M κ ρ0 n0 D A Q (pc + 3) lo (v.toList ++ st') h1 (cells + (0 + mC h x h1 x1)) (slots + (0 + mS h x h1 x1))) : mGo p l e R s m args below meth c M κ ρ0 n0 D A Q pc lo st h cells slots := by
  intro ρ H locs ls hρ hH hL
  obtain ⟨w1, w2, w3, w4, w5, -, w7, -⟩ := ok_words hok
  obtain ⟨w8, w9, -, -, w12⟩ := w7 (by omega)
  rw [if_neg (by omega)] at w4
  subst has
  have hpre := pre_at C hρ hH (as := .ref b :: as')
  rw [List.length_cons] at hlen
  exact go_ret C hρ hn ql qs hH hL (va_runI (b := ρ b) (As := as'.map (rv ρ)) (fix_of C) (hM ρ H.size hH.2.2.2) (cwI (mNa M' - 1) (hts_A C) (gA_in (wd_in hok)) (by unfold mWd; rw [mCw_nil hHd, hrt]) rfl rfl (C.2.2.1 _ w5) (C.2.2.1 _ hl) (C.2.2.1 _ w8) (w12 hk) ⟨w2, w3, w4⟩ hR) ⟨mPc_blind, hpre⟩ rfl (by rw [List.length_map]; omega) hL.1 (by rw [hst]; simp [rv]) (lv_room (cat_map hsum)) hd hc) kk
/-- a constructor of a nest mate -/
theorem c_IN (C : mCtx p l s m args meth c M κ ρ0 D ro A) (hok : mOkM M') {b : Nat} {as' : List Value} (hk : 2000 ≤ mKd M') (hHd : mHd M' = []) (hrt : mRt M' = none) (hd : decode (mBy M) pc = .ok (.invokespecial k, 3)) (hl : Jvm.Cond.methodLinkNest (mOwn M) k (mY M') RX11 ∈ mNest) (hR : mFr M' + 1 ≤ R.frames ∧ 8 + (mMx M' + 11) + mLc M' ≤ R.locals)
    (has : as = .ref b :: as') (hlen : as.length = mNa M') (hst : st = as.reverse ++ st') (hsum : (st'.map Value.category).sum ≤ 8) (hc : cells + (0 + mC h x h1 x1) ≤ R.cells ∧ slots + (0 + mS h x h1 x1) ≤ R.slots)
    (hn : n0 ≤ 8 + h.length) (ql : lOk (8 + h.length) lo) (qs : sOk (8 + h.length) st') (hM : ∀ (ρ : Nat → Nat) sz, (∀ j, 8 + h.length ≤ j → ρ j = sz + (j - (8 + h.length))) → Met l (mY M') (mWd M') (mRm M' h x h1 x1) (mPc κ ρ D ro as h sz) (mQc κ ρ (8 + h.length) D (va_A (xW κ ρ h) sz) h1 v) (0 + mC h x h1 x1) (0 + mS h x h1 x1) (va_A (xW κ ρ h) sz))
    (kk : mGo p l e R s m args below meth c M κ ρ0 n0 D A Q (pc + 3) lo (v.toList ++ st') h1 (cells + (0 + mC h x h1 x1)) (slots + (0 + mS h x h1 x1))) : mGo p l e R s m args below meth c M κ ρ0 n0 D A Q pc lo st h cells slots := by
  intro ρ H locs ls hρ hH hL
  obtain ⟨w1, w2, w3, w4, w5, -, w7, -⟩ := ok_words hok
  obtain ⟨w8, w9, -, -, w12⟩ := w7 (by omega)
  rw [if_neg (by omega)] at w4
  subst has
  have hpre := pre_at C hρ hH (as := .ref b :: as')
  rw [List.length_cons] at hlen
  exact go_ret C hρ hn ql qs hH hL (va_runIN (b := ρ b) (As := as'.map (rv ρ)) (fix_of C) (hM ρ H.size hH.2.2.2) ⟨va_cnB (mNa M' - 1) (hts_A C) (gA_in (wd_in hok)) (by unfold mWd; rw [mCw_nil hHd, hrt]) rfl rfl (C.2.2.2.2.2.1.2.2.2.2.1 _ hl) (C.2.2.1 _ w5) ⟨w2, w3, w4⟩ hR, w12 hk, C.2.2.1 _ w8⟩ ⟨mPc_blind, hpre⟩ rfl (by rw [List.length_map]; omega) hL.1 (by rw [hst]; simp [rv]) (lv_room (cat_map hsum)) hd hc) kk
/-- a static call of a wrapper, that returns -/
theorem c_W (C : mCtx p l s m args meth c M κ ρ0 D ro A) (hok : mOkM M') {r : Int32} (hk : mKd M' = 0) (hHd : mHd M' ≠ []) (hd : decode (mBy M) pc = .ok (.invokestatic k, 3)) (hl : Jvm.Cond.methodLink (mOwn M) k (mY M') ∈ gF) (hR : mFr M' + 1 ≤ R.frames ∧ 8 + (mMx M' + 11) + mLc M' ≤ R.locals)
    (hlen : as.length = mNa M') (hst : st = as.reverse ++ st') (hsum : (st'.map Value.category).sum ≤ 8) (hc : cells + (0 + mC h x h1 x1) ≤ R.cells ∧ slots + (0 + mS h x h1 x1) ≤ R.slots)
    (hn : n0 ≤ 8 + h.length) (ql : lOk (8 + h.length) lo) (qs : sOk (8 + h.length) st') (hM : ∀ (ρ : Nat → Nat) sz, (∀ j, 8 + h.length ≤ j → ρ j = sz + (j - (8 + h.length))) → vx_Met l (mY M') (mWd M') (mRm M' h x h1 x1) (mPc κ ρ D ro as h sz) (mQc κ ρ (8 + h.length) D (va_A (xW κ ρ h) sz) h1 (some (.int r))) (vx_X (S := Unit) (fun _ => False) (fun _ _ _ => False) (fun _ => False)) (0 + mC h x h1 x1) (0 + mS h x h1 x1) (va_A (xW κ ρ h) sz))
    (kk : mGo p l e R s m args below meth c M κ ρ0 n0 D A Q (pc + 3) lo (.int r :: st') h1 (cells + (0 + mC h x h1 x1)) (slots + (0 + mS h x h1 x1))) : mGo p l e R s m args below meth c M κ ρ0 n0 D A Q pc lo st h cells slots := by
  intro ρ H locs ls hρ hH hL
  obtain ⟨w1, w2, w3, w4, w5, w6, -, w8⟩ := ok_words hok
  rw [if_pos hk] at w4
  have hF := free_of C hH
  refine vx_calli (vx_runSX (hh := mHh M') (As := as.map (rv ρ)) (rest := st'.map (rv ρ)) (g := F0 m pc ls (st.map (rv ρ))) (fix_of C) (hM ρ H.size hH.2.2.2) (vx_cwSW (mNa M') (hts_A C) (gA_in fun w hw => ?_) (by unfold mWd; rw [mCw_cons hHd]) rfl rfl ⟨w2, w3, w4⟩ hR) ⟨mPc_blind, pre_at C hρ hH⟩ rfl (by rw [List.length_map]; exact hlen) hL.1 (by rw [hst, List.map_append, List.map_reverse]) (lv_room (cat_map hsum)) hd hc) hH.2.2.1 (fun q _ z => hF q z) hF (fun q _ z => z.elim) (fun _ _ _ _ _ _ _ _ _ z => z.elim) (fun r' u t H1 locs1 e1 _ hp hB _ _ hS => ?_)
  · simp only [va_wsS, List.mem_append, List.mem_cons, List.not_mem_nil, or_false] at hw
    rcases hw with (rfl | rfl | rfl) | hw
    · exact gF_A hl
    · exact gF_A (w6 hk)
    · exact gF_A w5
    · exact wd_in hok w hw
  · subst hp
    obtain ⟨ρ1, hag, hX⟩ := hB
    have k := kk ρ1 H1 locs1 ls (mAg_tr hρ hag hn) ⟨by rw [← e1]; exact hX.1, hX.2.1.weaken (fun _ q _ z => hF q.1 z), hS, by rw [← e1]; exact hX.2.2⟩ (mL_ag hag (Nat.le_refl _) ql hL)
    rw [List.map_cons, st_ag hag (Nat.le_refl _) qs] at k
    exact k
/-- a static call of a wrapper, that returns -/
theorem c_Wf (C : mCtx p l s m args meth c M κ ρ0 D ro A) (hok : mOkM M') {r : UInt32} (hk : mKd M' = 0) (hHd : mHd M' ≠ []) (hd : decode (mBy M) pc = .ok (.invokestatic k, 3)) (hl : Jvm.Cond.methodLink (mOwn M) k (mY M') ∈ gF) (hR : mFr M' + 1 ≤ R.frames ∧ 8 + (mMx M' + 11) + mLc M' ≤ R.locals)
    (hlen : as.length = mNa M') (hst : st = as.reverse ++ st') (hsum : (st'.map Value.category).sum ≤ 8) (hc : cells + (0 + mC h x h1 x1) ≤ R.cells ∧ slots + (0 + mS h x h1 x1) ≤ R.slots)
    (hn : n0 ≤ 8 + h.length) (ql : lOk (8 + h.length) lo) (qs : sOk (8 + h.length) st') (hM : ∀ (ρ : Nat → Nat) sz, (∀ j, 8 + h.length ≤ j → ρ j = sz + (j - (8 + h.length))) → vx_Met l (mY M') (mWd M') (mRm M' h x h1 x1) (mPc κ ρ D ro as h sz) (mQc κ ρ (8 + h.length) D (va_A (xW κ ρ h) sz) h1 (some (.float r))) (vx_X (S := Unit) (fun _ => False) (fun _ _ _ => False) (fun _ => False)) (0 + mC h x h1 x1) (0 + mS h x h1 x1) (va_A (xW κ ρ h) sz))
    (kk : mGo p l e R s m args below meth c M κ ρ0 n0 D A Q (pc + 3) lo (.float r :: st') h1 (cells + (0 + mC h x h1 x1)) (slots + (0 + mS h x h1 x1))) : mGo p l e R s m args below meth c M κ ρ0 n0 D A Q pc lo st h cells slots := by
  intro ρ H locs ls hρ hH hL
  obtain ⟨w1, w2, w3, w4, w5, w6, -, w8⟩ := ok_words hok
  rw [if_pos hk] at w4
  have hF := free_of C hH
  refine vx_callf (vx_runSX (hh := mHh M') (As := as.map (rv ρ)) (rest := st'.map (rv ρ)) (g := F0 m pc ls (st.map (rv ρ))) (fix_of C) (hM ρ H.size hH.2.2.2) (vx_cwSW (mNa M') (hts_A C) (gA_in fun w hw => ?_) (by unfold mWd; rw [mCw_cons hHd]) rfl rfl ⟨w2, w3, w4⟩ hR) ⟨mPc_blind, pre_at C hρ hH⟩ rfl (by rw [List.length_map]; exact hlen) hL.1 (by rw [hst, List.map_append, List.map_reverse]) (lv_room (cat_map hsum)) hd hc) hH.2.2.1 (fun q _ z => hF q z) hF (fun q _ z => z.elim) (fun _ _ _ _ _ _ _ _ _ z => z.elim) (fun r' u t H1 locs1 e1 _ hp hB _ _ hS => ?_)
  · simp only [va_wsS, List.mem_append, List.mem_cons, List.not_mem_nil, or_false] at hw
    rcases hw with (rfl | rfl | rfl) | hw
    · exact gF_A hl
    · exact gF_A (w6 hk)
    · exact gF_A w5
    · exact wd_in hok w hw
  · subst hp
    obtain ⟨ρ1, hag, hX⟩ := hB
    have k := kk ρ1 H1 locs1 ls (mAg_tr hρ hag hn) ⟨by rw [← e1]; exact hX.1, hX.2.1.weaken (fun _ q _ z => hF q.1 z), hS, by rw [← e1]; exact hX.2.2⟩ (mL_ag hag (Nat.le_refl _) ql hL)
    rw [List.map_cons, st_ag hag (Nat.le_refl _) qs] at k
    exact k
end GO
