section THR
variable {p : Program} {l : Launch} {e : Env} {R : Room} {s : State} {m : MethodId} {args : Array Value} {below : List Frame} {meth : Method} {c : Code} {M M' : mM} {κ ρ0 ρ : Nat → Nat} {n0 : Nat} {D : va_G} {ro : Nat → Nat × (Nat → Int32)} {A : Nat → Prop} {Q : State → Prop}
variable {pc x x1 n mid k E : Nat} {lo : List (Option Value)} {as st st' st0 : List Value} {h h1 : List mCel} {cells slots mc ms : Nat} {H : Heap} {locs : List Loc} {ls : Array Slot} {a : Array Value}
/-- what a throw at a place needs -/
def mX (p : Program) (l : Launch) (e : Env) (R : Room) (s : State) (m : MethodId) (args : Array Value) (below : List Frame) (meth : Method) (c : Code) (M : mM) (κ ρ0 : Nat → Nat) (n0 : Nat) (D : va_G) (A : Nat → Prop) (Q : State → Prop) (pc : Nat) (lo : List (Option Value)) (st' : List Value) (h1 : List mCel) (cells slots E : Nat) : Prop :=
  ∀ (ρ : Nat → Nat) (H : Heap) (locs : List Loc) (ls : Array Slot) (ce : Cell) (q9 : Addr), mAg n0 ρ0 ρ → mHp κ ρ D A s h1 H locs → mL ρ (mMx M) lo ls → H[q9]? = some ce → ce.vm = .none → s.vm.findClass (mEx E) = some ce.cls → vx_W p l e R s m args below meth c H locs cells slots Q (F0 m pc ls (st'.map (rv ρ))) q9
theorem go_thr (C : mCtx p l s m args meth c M κ ρ0 D ro A) (hρ : mAg n0 ρ0 ρ) (hn : n0 ≤ 8 + h.length) (ql : lOk (8 + h.length) lo) (qs : sOk (8 + h.length) st') (hH : mHp κ ρ D A s h H locs) (hL : mL ρ (mMx M) lo ls)
    (hr : vx_Run p l e R s m args below meth c H locs cells slots mc ms (F0 m pc ls st0) (st'.map (rv ρ)) (va_Qv (S := Unit) (fun _ => False) (fun _ _ => False) (fun _ => False) a) (vx_X (S := Unit) (fun _ => True) (fun E' _ t => E' = mEx E ∧ mBt κ ρ (8 + h.length) D (va_A (xW κ ρ h) H.size) h1 t) (va_A (xW κ ρ h) H.size)) (va_A (xW κ ρ h) H.size))
    (kx : mX p l e R s m args below meth c M κ ρ0 n0 D A Q pc lo st' h1 (cells + mc) (slots + ms) E) : W p l e R s m args below meth c H locs cells slots Q (F0 m pc ls st0) := by
  have hF := free_of C hH
  refine vx_callv (a := a) hr hH.2.2.1 (fun q _ z => z.elim) hF (fun q _ z => hF q z) (fun E' ce q9 u t H1 locs1 e1 _ _ hB _ _ hS hce hcv hcl => ?_) (fun _ _ _ _ _ _ z => z.elim)
  obtain ⟨rfl, ρ1, hag, hB⟩ := hB
  have k := kx ρ1 H1 locs1 ls ce q9 (mAg_tr hρ hag hn) ⟨by rw [← e1]; exact hB.1, hB.2.1.weaken (fun _ q _ z => hF q.1 z), hS, by rw [← e1]; exact hB.2.2⟩ (mL_ag hag (Nat.le_refl _) ql hL) hce hcv hcl
  rw [st_ag hag (Nat.le_refl _) qs] at k
  exact k
theorem t_S (C : mCtx p l s m args meth c M κ ρ0 D ro A) (hok : mOkM M') (hk : mKd M' = 0) (hHd : mHd M' = []) (hd : decode (mBy M) pc = .ok (.invokestatic k, 3)) (hl : Jvm.Cond.methodLink (mOwn M) k (mY M') ∈ gF) (hR : mFr M' + 1 ≤ R.frames ∧ 8 + (mMx M' + 11) + mLc M' ≤ R.locals)
    (hlen : as.length = mNa M') (hst : st = as.reverse ++ st') (hsum : (st'.map Value.category).sum ≤ 8) (hc : cells + (0 + mC h x h1 x1) ≤ R.cells ∧ slots + (0 + mS h x h1 x1) ≤ R.slots)
    (hn : n0 ≤ 8 + h.length) (ql : lOk (8 + h.length) lo) (qs : sOk (8 + h.length) st') (hM : ∀ (ρ : Nat → Nat) sz, (∀ j, 8 + h.length ≤ j → ρ j = sz + (j - (8 + h.length))) → vx_Met l (mY M') (mWd M') (mRm M' h x h1 x1) (mPc κ ρ D ro as h sz) (va_Qv (S := Unit) (fun _ => False) (fun _ _ => False) (fun _ => False)) (vx_X (S := Unit) (fun _ => True) (fun E' _ t => E' = mEx E ∧ mBt κ ρ (8 + h.length) D (va_A (xW κ ρ h) sz) h1 t) (va_A (xW κ ρ h) sz)) (0 + mC h x h1 x1) (0 + mS h x h1 x1) (va_A (xW κ ρ h) sz))
    (kx : mX p l e R s m args below meth c M κ ρ0 n0 D A Q pc lo st' h1 (cells + (0 + mC h x h1 x1)) (slots + (0 + mS h x h1 x1)) E) : mGo p l e R s m args below meth c M κ ρ0 n0 D A Q pc lo st h cells slots := by
  intro ρ H locs ls hρ hH hL
  obtain ⟨w1, w2, w3, w4, w5, w6, -, -⟩ := ok_words hok
  rw [if_pos hk] at w4
  refine go_thr C hρ hn ql qs hH hL (vx_runS (fix_of C) (hM ρ H.size hH.2.2.2) (va_cwS (mNa M') (hts_A C) (gA_in fun w hw => ?_) (by unfold mWd; rw [mCw_nil hHd]) rfl rfl ⟨w2, w3, w4⟩ hR) ⟨mPc_blind, pre_at C hρ hH⟩ rfl (by rw [List.length_map]; exact hlen) hL.1 (by rw [hst, List.map_append, List.map_reverse]) (lv_room (cat_map hsum)) hd hc) kx
  simp only [va_wsS, List.mem_append, List.mem_cons, List.not_mem_nil, or_false] at hw
  rcases hw with (rfl | rfl | rfl) | hw
  · exact gF_A hl
  · exact gF_A (w6 hk)
  · exact gF_A w5
  · exact wd_in hok w hw
theorem t_V (C : mCtx p l s m args meth c M κ ρ0 D ro A) (hok : mOkM M') {ci b : Nat} {fs : List Value} {as' : List Value} (hk : mKd M' = 1000 + ci) (hci : ci < 1000) (hHd : mHd M' = []) (hd : decode (mBy M) pc = .ok (.invokevirtual k, 3)) (hl : Jvm.Cond.methodLink (mOwn M) k (mY M') ∈ gF) (hR : mFr M' + 1 ≤ R.frames ∧ 8 + (mMx M' + 11) + mLc M' ≤ R.locals)
    (has : as = .ref b :: as') (hb : mCell h b = some (.inr (ci, fs))) (hlen : as.length = mNa M') (hst : st = as.reverse ++ st') (hsum : (st'.map Value.category).sum ≤ 8) (hc : cells + (0 + mC h x h1 x1) ≤ R.cells ∧ slots + (0 + mS h x h1 x1) ≤ R.slots)
    (hn : n0 ≤ 8 + h.length) (ql : lOk (8 + h.length) lo) (qs : sOk (8 + h.length) st') (hM : ∀ (ρ : Nat → Nat) sz, (∀ j, 8 + h.length ≤ j → ρ j = sz + (j - (8 + h.length))) → vx_Met l (mY M') (mWd M') (mRm M' h x h1 x1) (mPc κ ρ D ro as h sz) (va_Qv (S := Unit) (fun _ => False) (fun _ _ => False) (fun _ => False)) (vx_X (S := Unit) (fun _ => True) (fun E' _ t => E' = mEx E ∧ mBt κ ρ (8 + h.length) D (va_A (xW κ ρ h) sz) h1 t) (va_A (xW κ ρ h) sz)) (0 + mC h x h1 x1) (0 + mS h x h1 x1) (va_A (xW κ ρ h) sz))
    (kx : mX p l e R s m args below meth c M κ ρ0 n0 D A Q pc lo st' h1 (cells + (0 + mC h x h1 x1)) (slots + (0 + mS h x h1 x1)) E) : mGo p l e R s m args below meth c M κ ρ0 n0 D A Q pc lo st h cells slots := by
  intro ρ H locs ls hρ hH hL
  obtain ⟨w1, w2, w3, w4, w5, -, w7, -⟩ := ok_words hok
  obtain ⟨w8, w9, ⟨X, w10, w11⟩, w12, -⟩ := w7 (by omega)
  rw [if_neg (by omega)] at w4
  rw [show mKd M' % 1000 = ci by omega] at w10
  subst has
  have hpre := pre_at C hρ hH (as := .ref b :: as')
  rw [List.length_cons] at hlen
  have hrcv := va_recv C.2.2.2.2.1 hH.1 w10 (xW_cell hb).1
  rw [w11] at hrcv
  refine go_thr C hρ hn ql qs hH hL (vx_runV (C := mOwn M') (b := ρ b) (As := as'.map (rv ρ)) (fix_of C) (hM ρ H.size hH.2.2.2) (cwV (mNa M' - 1) (hts_A C) (gA_in fun w hw => ?_) (by unfold mWd; rw [mCw_nil hHd]) rfl rfl ⟨w1, w2, w3, w4⟩ hR) ⟨mPc_blind, hrcv, hpre⟩ rfl (by rw [List.length_map]; omega) hL.1 (by rw [hst]; simp [rv]) (lv_room (cat_map hsum)) hd hc) kx
  simp only [wsV, List.mem_append, List.mem_cons, List.not_mem_nil, or_false] at hw
  rcases hw with (rfl | rfl | rfl | rfl) | hw
  · exact gF_A hl
  · exact gF_A w8
  · exact gF_A (w12 (by omega))
  · exact gF_A (by rw [← w1]; exact w5)
  · exact wd_in hok w hw
/-- it goes on to the caller -/
theorem x_out (C : mCtx p l s m args meth c M κ ρ0 D ro A) (hT : c.exceptionTable.toList = []) (hend : mEnd p l e R s m args below meth c M κ ρ0 n0 D A Q h1 cells slots (.inr E)) : mX p l e R s m args below meth c M κ ρ0 n0 D A Q pc lo st' h1 cells slots E := by
  intro ρ H locs ls ce q9 hρ hH hL hce hcv hcl
  obtain ⟨Qc, XC, mc, ms, free, rfl, h1, h2, h3, h4⟩ := hend
  refine vx_out (fun y hy => by rw [hT] at hy; exact absurd hy List.not_mem_nil) C.2.2.2.2.2.2.2.2.2.1 hce hcv hcl (fun t ht hvm => h4 ρ H locs t hρ hH hvm (by rw [ht]; exact Nat.le_refl _) (fun q _ => by rw [ht])) (fun z hz => h3 _ (hH.2.2.1.2.2 z hz)) h1 h2
theorem mL_kill {n i : Nat} {ls' : Array Slot} {q : Nat} (h : mL ρ n lo ls) (h' : lv_has ls' n ((i, .ref q) :: (mLl ρ lo).filter (fun q => !(q.1 == i) && !(q.1 + 1 == i && q.2.category == 2)))) : mL ρ n (lo.set i none) ls' := by
  refine ⟨h'.1, h'.2.1, by rw [List.length_set]; exact h.2.2.1, fun j w hw => ?_⟩
  by_cases hj : j = i
  · subst hj
    have hl := mLo_lt hw
    rw [List.length_set] at hl
    unfold mLo at hw
    rw [List.getElem?_set_self hl] at hw
    cases hw
  · have e : mLo lo j = some w := by
      unfold mLo at hw ⊢
      rw [List.getElem?_set_ne (Ne.symm hj)] at hw
      exact hw
    have hc := (h.2.2.2 j w e).2
    refine ⟨h'.2.2 (j, rv ρ w) (List.mem_cons_of_mem _ (List.mem_filter.mpr ⟨List.mem_filterMap.mpr ⟨j, List.mem_range.mpr (mLo_lt e), by rw [e]; rfl⟩, ?_⟩)), hc⟩
    have hc2 : (rv ρ w).category = 1 := by rw [rv_cat]; exact hc
    simp [hj, hc2]
/-- it is caught here -/
theorem x_catch (C : mCtx p l s m args meth c M κ ρ0 D ro A) (hE : E < 3) {hp : Nat} : ∀ (hd pre : List (Nat × Nat × Nat × Nat × Nat × Nat × Nat)), (∀ q ∈ pre ++ hd, chkH M q = true) → (∀ q ∈ pre, ¬ ((q.1 ≤ pc ∧ pc < q.2.1) ∧ q.2.2.2.1 = E)) →
    c.exceptionTable.toList = tableOf ((pre ++ hd).map fun q => (q.1, q.2.1, q.2.2.1, q.2.2.2.2.2.1)) → mCatch hd pc E = some (hp, k) →
    mGo p l e R s m args below meth c M κ ρ0 n0 D A Q hp (lo.set k none) [] h1 cells slots → mX p l e R s m args below meth c M κ ρ0 n0 D A Q pc lo st' h1 cells slots E
  | [], pre, _, _, _, hcat, _ => by cases hcat
  | (a, b, hp', E', l', t, k') :: tl, pre, hch, hpre, hT, hcat, kk => by
    unfold mCatch at hcat
    split at hcat
    · next q =>
      obtain ⟨⟨q1, q2⟩, rfl⟩ := q
      cases hcat
      intro ρ H locs ls ce q9 hρ hH hL hce hcv hcl
      have hX := C.2.2.2.2.2.1.2.2.2.2.2.2
      have hthis := hch _ (List.mem_append_right _ List.mem_cons_self)
      unfold chkH at hthis
      simp only [Bool.and_eq_true, decide_eq_true_eq] at hthis
      obtain ⟨⟨⟨⟨c1, c2⟩, c3⟩, c4⟩, c5⟩ := hthis
      refine vx_catch (own := mOwn M) (name := mEx E') (E := mEx E') C.2.2.2.1 (tableOf (pre.map fun q => (q.1, q.2.1, q.2.2.1, q.2.2.2.2.2.1))) ⟨a, b, hp', t⟩ (tableOf (tl.map fun q => (q.1, q.2.1, q.2.2.1, q.2.2.2.2.2.1))) ?_ ?_ ?_ c2 (C.2.2.1 _ c3) (va_Nw.use rfl (hX.1.1 E' hE)) hce hcv hcl ?_
      · rw [hT]; simp [tableOf]
      · intro z hz
        obtain ⟨q4, hq4, rfl⟩ := List.mem_map.mp hz
        obtain ⟨q5, hq5, rfl⟩ := List.mem_map.mp hq4
        by_cases hcov : q5.1 ≤ pc ∧ pc < q5.2.1
        · have hne : q5.2.2.2.1 ≠ E' := fun z => hpre q5 hq5 ⟨hcov, z⟩
          have h5 := hch q5 (List.mem_append_left _ hq5)
          obtain ⟨a5, b5, hp5, E5, l5, t5, k5⟩ := q5
          unfold chkH at h5
          simp only [Bool.and_eq_true, decide_eq_true_eq] at h5
          exact Or.inr ⟨h5.1.1.1.2, mEx E5, C.2.2.1 _ h5.1.1.2, hX.2.1 E' E5 hE h5.1.1.1.1 (Ne.symm hne)⟩
        · refine Or.inl ?_
          show (decide (q5.1 ≤ pc) && decide (pc < q5.2.1)) = false
          by_cases z : q5.1 ≤ pc
          · simp [z]; omega
          · simp [z]
      · show (decide (a ≤ pc) && decide (pc < b)) = true
        simp [q1, q2]
      · simp only [Bool.or_eq_true, Bool.and_eq_true, decide_eq_true_eq] at c5
        rcases c5 with ⟨rfl, c5⟩ | ⟨rfl, c5⟩
        · split at c5
          · next hk4 => exact lv_astore_n C.1 C.2.1 (dOk_spec c5) rfl (mL_has hL) c4 rfl (fun ls' h9 => kk ρ H locs ls' hρ hH (mL_kill hL h9))
          · cases c5
        · exact lv_astore C.1 C.2.1 (dOk_spec c5) (mL_has hL) c4 rfl (fun ls' h9 => kk ρ H locs ls' hρ hH (mL_kill hL h9))
    · next q =>
      refine x_catch C hE tl (pre ++ [(a, b, hp', E', l', t, k')]) ?_ ?_ ?_ hcat kk
      · intro z hz; exact hch z (by simpa using hz)
      · intro z hz
        rcases List.mem_append.mp hz with hz | hz
        · exact hpre z hz
        · rw [List.mem_singleton.mp hz]; exact q
      · rw [hT]; simp
/-- a throw -/
theorem t_new (C : mCtx p l s m args meth c M κ ρ0 D ro A) {kind is : Nat} (hck : chkT M pc k E kind is = true) (hR : mFr M ≤ R.frames ∧ mLc M ≤ R.locals) (hsum : (st.map Value.category).sum ≤ 8) (hT : c.exceptionTable.toList = []) (hc : cells + 1 ≤ R.cells ∧ slots + 6 ≤ R.slots)
    (hat : ∀ w ∈ vx_atS RX11 (mIc E) (mEx E) ["java/lang/RuntimeException", "java/lang/Exception"], w.before args s = true) (hgood : ∀ w ∈ Jvm.Cond.classLink RX11 k (mEx E) :: Jvm.Cond.initialized (mEx E) :: vx_atS RX11 (mIc E) (mEx E) ["java/lang/RuntimeException", "java/lang/Exception"], vx_ot w = true)
    (hfit : Bundle.fit (mEx E) = true) (hend : mEnd p l e R s m args below meth c M κ ρ0 n0 D A Q h (cells + 1) (slots + 6) (.inr E)) : mGo p l e R s m args below meth c M κ ρ0 n0 D A Q pc lo st h cells slots := by
  intro ρ H locs ls hρ hH hL
  unfold chkT at hck
  simp only [Bool.and_eq_true, decide_eq_true_eq] at hck
  obtain ⟨⟨⟨⟨⟨⟨⟨⟨⟨⟨c1, c2⟩, c3⟩, c4⟩, c5⟩, c6⟩, c7⟩, c8⟩, c9⟩, c10⟩, -⟩ := hck
  obtain ⟨Qc, XC, mc, ms, free, rfl, h1, h2, h3, h4⟩ := hend
  have hSt := C.2.2.2.2.2.1
  obtain ⟨q, hq, hqe⟩ := List.any_eq_true.mp c8
  have hqe : q.1 = is := of_decide_eq_true hqe
  obtain ⟨sa, hsa⟩ := hSt.2.2.2.2.2.1 q hq
  rw [hqe] at hsa
  have hown := C.2.2.2.1
  rw [c5] at hown
  have hout : ∀ (pc9 : Nat), ∀ y ∈ c.exceptionTable.toList, covers y pc9 = false := fun pc9 y hy => by rw [hT] at hy; exact absurd hy List.not_mem_nil
  have hx9 : ∀ t : State, s.vm.Alike t.vm → H.size ≤ t.heap.size → (∀ q : Nat, q < H.size → t.heap[q]? = H[q]?) → XC (mEx E) s t := fun t hvm hs hq => h4 ρ H locs t hρ hH hvm hs hq
  have hsz : ls.size = c.maxLocals := by rw [hL.1, C.2.2.2.2.2.2.2.1]
  have hloc : ((st.map (rv ρ)).map fun v => v.category).sum + (13 * (["java/lang/RuntimeException", "java/lang/Exception"].length + 1) + 43) ≤ R.locals := by
    have := cat_map (ρ := ρ) hsum
    simp only [List.length_cons, List.length_nil]
    omega
  have hfr : ["java/lang/RuntimeException", "java/lang/Exception"].length + 3 < R.frames := by
    simp only [List.length_cons, List.length_nil]
    omega
  have hnm : ∀ n ∈ ["java/lang/RuntimeException", "java/lang/Exception"], Bundle.fit n = true := by decide
  by_cases hk0 : kind = 0
  · rw [if_pos hk0] at c4
    simp only [Bool.and_eq_true] at c4
    exact vx_throwS C.1 C.2.1 C.2.2.2.2.2.2.2.2.2.2.1 hown hfit hnm (C.2.2.1 _ c6) (C.2.2.1 _ c7) hsa hat hgood hSt.2.2.1 hSt.2.2.2.1 hH.2.2.1 hsz (dOk_spec c2) (dOk_spec c3) (dOk_spec c4.1.1) (dOk_spec c4.1.2) (dOk_spec c4.2) (hout _) hfr hloc hc.1 hc.2 C.2.2.2.2.2.2.2.2.2.1 hx9 (fun z hz => h3 _ (hH.2.2.1.2.2 z hz)) h1 h2
  · rw [if_neg hk0] at c4
    simp only [Bool.and_eq_true] at c4
    exact vx_throwSW C.1 C.2.1 C.2.2.2.2.2.2.2.2.2.2.1 hown hfit hnm (C.2.2.1 _ c6) (C.2.2.1 _ c7) hsa hat hgood hSt.2.2.1 hSt.2.2.2.1 hH.2.2.1 hsz (dOk_spec c2) (dOk_spec c3) (dOk_spec c4.1.1) (dOk_spec c4.1.2) (dOk_spec c4.2) (hout _) hfr hloc hc.1 hc.2 C.2.2.2.2.2.2.2.2.2.1 hx9 (fun z hz => h3 _ (hH.2.2.1.2.2 z hz)) h1 h2
end THR
