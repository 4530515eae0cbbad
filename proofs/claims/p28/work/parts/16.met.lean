theorem mCw_nil {M : mM} (h : mHd M = []) : mCw M = .code (mY M) (mBy M) (mMx M) (mRt M) := by unfold mCw; rw [h]
theorem mCw_cons {M : mM} (h : mHd M ≠ []) : mCw M = .codeWith (mY M) (mBy M) (mMx M) (mRt M) (mHh M) := by
  unfold mCw mHh
  split
  · next e => exact absurd e h
  · rfl
theorem ok_plain {M : mM} (hok : mOkM M) : plainName (mY M).cls = true := by
  have hc := hok.1
  unfold chkM at hc
  simp only [Bool.and_eq_true, decide_eq_true_eq] at hc
  exact hc.1.1.1.1.1.1.1.2
theorem ok_len {M : mM} (hok : mOkM M) : mNa M ≤ mMx M := by
  have hc := hok.1
  unfold chkM at hc
  simp only [Bool.and_eq_true, decide_eq_true_eq] at hc
  exact hc.1.1.1.1.2
theorem no_table {p : Program} {l : Launch} {y : MethodName} {S : Spec} {cc : ByteArray} {maxL : Nat} {ret : Option FieldType} {e : Env} {s s₁ : State} {m : MethodId} {args : Array Value} {below : List Frame} {meth : Method} {c : Code} (B : BodyLoose p l y S cc maxL ret e s m args below meth c s₁) (h : (Jvm.Cond.code y cc maxL ret).before args s = true) : c.exceptionTable.toList = tableOf [] := by
  have h1 := BodyLoose.noHandlers B h
  rw [Array.isEmpty_iff.mp h1]
  rfl
section MET
variable {l : Launch} {ro : Nat → Nat × (Nat → Int32)} {n mid : Nat} {M : mM} {as : List Value} {h h1 : List mCel} {x x1 sz E : Nat} {v : Option Value} {κ ρ : Nat → Nat} {D : va_G}
abbrev mIn (M : mM) (as : List Value) : List (Option Value) := as.map some ++ List.replicate (mMx M - as.length) none
/-- a method that returns -/
theorem met_ret (IH : mSim l ro n) (hM : mTab[mid]? = some M) (hok : mOkM M) (hHd : mHd M = []) (hrun : rn ro mTab n mid 0 (mIn M as) [] h x = some (.inl v, h1, x1)) (hcat : ∀ v ∈ as, v.category = 1) (hlen : as.length = mNa M) (hl : l.stackTraces = false)
    (hN : ∀ j, 8 + h.length ≤ j → ρ j = sz + (j - (8 + h.length))) (qa : sOk (8 + h.length) as) (qh : hOk h) :
    Met l (mY M) (mWd M) (mRm M h x h1 x1) (mPc κ ρ D ro as h sz) (mQc κ ρ (8 + h.length) D (va_A (xW κ ρ h) sz) h1 v) (0 + mC h x h1 x1) (0 + mS h x h1 x1) (va_A (xW κ ρ h) sz) := by
  refine Met.ofW (cc := mBy M) (maxL := mMx M) (ret := mRt M) (ok_plain hok) (by unfold mWd; rw [mCw_nil hHd]) ?_
  intro p e s m args below meth c s₁ B hml hv
  obtain ⟨rfl, hsz, hP, hK, hD0, hSt⟩ := hv
  subst hsz
  have C := ctx_of (ro := ro) hok hl B hml hP hK hD0 hSt
  rw [lg_entry_eq]
  have hT : c.exceptionTable.toList = tableOf (mHh M) := by
    rw [show mHh M = [] by unfold mHh; rw [hHd]; rfl]
    exact no_table B (by rw [← mCw_nil hHd]; exact atoms_spec (ws := mWd M) B.pre _ List.mem_cons_self)
  refine IH hM hrun (in_ok qa) sOk_nil qh (R := mRm M h x h1 x1) (Nat.le_refl _) C ⟨Nat.le_refl _, Nat.le_refl _⟩ ⟨Nat.le_refl _, Nat.le_refl _⟩ hT ?_ ρ s.heap [] _ (mAg_rf _ _) ⟨hP, hD0.self, va_S.rf, hN⟩ (mL_entry ρ as (mMx M) (by rw [hlen]; exact ok_len hok) hcat)
  exact fin_ret C B.returns
/-- a wrapper, with its own handlers -/
theorem met_wrap (IH : mSim l ro n) (hM : mTab[mid]? = some M) (hok : mOkM M) (hHd : mHd M ≠ []) (hrun : rn ro mTab n mid 0 (mIn M as) [] h x = some (.inl v, h1, x1)) (hcat : ∀ v ∈ as, v.category = 1) (hlen : as.length = mNa M) (hl : l.stackTraces = false)
    (hN : ∀ j, 8 + h.length ≤ j → ρ j = sz + (j - (8 + h.length))) (qa : sOk (8 + h.length) as) (qh : hOk h) :
    vx_Met l (mY M) (mWd M) (mRm M h x h1 x1) (mPc κ ρ D ro as h sz) (mQc κ ρ (8 + h.length) D (va_A (xW κ ρ h) sz) h1 v) (vx_X (S := Unit) (fun _ => False) (fun _ _ _ => False) (fun _ => False)) (0 + mC h x h1 x1) (0 + mS h x h1 x1) (va_A (xW κ ρ h) sz) := by
  refine vx_ofWH (cc := mBy M) (maxL := mMx M) (ret := mRt M) (hh := mHh M) (ok_plain hok) (by unfold mWd; rw [mCw_cons hHd]) ?_
  intro p e s m args below meth c s₁ B hml hv
  obtain ⟨rfl, hsz, hP, hK, hD0, hSt⟩ := hv
  subst hsz
  have C := ctx_of (ro := ro) hok hl B hml hP hK hD0 hSt
  rw [lg_entry_eq]
  have hts := atoms_spec (ws := mWd M) B.pre
  have hT : c.exceptionTable.toList = tableOf (mHh M) := vx_table (x := mY M) (y := mY M) (bytes := mBy M) (maxL' := mMx M) (ret' := mRt M) (hh := mHh M) B (by rw [← mCw_cons hHd]; exact hts _ List.mem_cons_self)
  refine vx_ret ?_
  refine IH hM hrun (in_ok qa) sOk_nil qh (R := mRm M h x h1 x1) (Nat.le_refl _) C ⟨Nat.le_refl _, Nat.le_refl _⟩ ⟨Nat.le_refl _, Nat.le_refl _⟩ hT ?_ ρ s.heap [] _ (mAg_rf _ _) ⟨hP, hD0.self, va_S.rf, hN⟩ (mL_entry ρ as (mMx M) (by rw [hlen]; exact ok_len hok) hcat)
  exact fin_ret C B.returns
/-- a method that throws -/
theorem met_thr (IH : mSim l ro n) (hM : mTab[mid]? = some M) (hok : mOkM M) (hHd : mHd M = []) (hrun : rn ro mTab n mid 0 (mIn M as) [] h x = some (.inr E, h1, x1)) (hcat : ∀ v ∈ as, v.category = 1) (hlen : as.length = mNa M) (hl : l.stackTraces = false)
    (hN : ∀ j, 8 + h.length ≤ j → ρ j = sz + (j - (8 + h.length))) (qa : sOk (8 + h.length) as) (qh : hOk h) :
    vx_Met l (mY M) (mWd M) (mRm M h x h1 x1) (mPc κ ρ D ro as h sz) (va_Qv (S := Unit) (fun _ => False) (fun _ _ => False) (fun _ => False)) (vx_X (S := Unit) (fun _ => True) (fun E' _ t => E' = mEx E ∧ mBt κ ρ (8 + h.length) D (va_A (xW κ ρ h) sz) h1 t) (va_A (xW κ ρ h) sz)) (0 + mC h x h1 x1) (0 + mS h x h1 x1) (va_A (xW κ ρ h) sz) := by
  refine vx_ofW (cc := mBy M) (maxL := mMx M) (ret := mRt M) (ok_plain hok) (by unfold mWd; rw [mCw_nil hHd]) ?_
  intro p e s m args below meth c s₁ B hml hno hv
  obtain ⟨rfl, hsz, hP, hK, hD0, hSt⟩ := hv
  subst hsz
  have C := ctx_of (ro := ro) hok hl B hml hP hK hD0 hSt
  rw [lg_entry_eq]
  have hT : c.exceptionTable.toList = tableOf (mHh M) := by
    rw [show mHh M = [] by unfold mHh; rw [hHd]; rfl]
    exact no_table B (by rw [← mCw_nil hHd]; exact atoms_spec (ws := mWd M) B.pre _ List.mem_cons_self)
  refine IH hM hrun (in_ok qa) sOk_nil qh (R := mRm M h x h1 x1) (Nat.le_refl _) C ⟨Nat.le_refl _, Nat.le_refl _⟩ ⟨Nat.le_refl _, Nat.le_refl _⟩ hT ?_ ρ s.heap [] _ (mAg_rf _ _) ⟨hP, hD0.self, va_S.rf, hN⟩ (mL_entry ρ as (mMx M) (by rw [hlen]; exact ok_len hok) hcat)
  have hok1 := (rn_ok n hrun (in_ok qa) sOk_nil qh).1
  have hlen1 := (rn_mono n hrun).1
  refine ⟨_, _, _, _, _, rfl, Nat.le_refl _, Nat.le_refl _, fun _ h => h, fun ρ' H locs t hρ' hH hvm hsz hq => ⟨(), trivial, ⟨rfl, mSh (8 + h1.length) t.heap.size ρ', mAg_tr hρ' (mSh_ag (by omega)) (by omega), ?_, ?_, mSh_at⟩, ?_⟩⟩
  · rw [xW_ag (mSh_ag (by omega)) (Nat.le_refl _) hok1]
    exact hH.1.kept (fun k q hk => hq _ (hH.1 k q hk).lt)
  · rw [xW_ag (mSh_ag (by omega)) (Nat.le_refl _) hok1]
    exact hH.2.1
  · exact ⟨Nat.le_trans hH.2.2.1.1 hsz, fun q h1 h2 => (hq q (Nat.lt_of_lt_of_le h1 hH.2.2.1.1)).trans (hH.2.2.1.2.1 q h1 h2)⟩
end MET
