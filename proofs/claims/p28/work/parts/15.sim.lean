theorem lg_cat1 : ∀ (vs : List Value), (∀ v ∈ vs, v.category = 1) → lg_sl vs = vs.map Slot.val
  | [], _ => rfl
  | v :: t, h => by
    have h1 : v.category = 1 := h v List.mem_cons_self
    have ih := lg_cat1 t (fun w hw => h w (List.mem_cons_of_mem _ hw))
    unfold lg_sl at ih ⊢
    rw [List.flatMap_cons, ih, if_neg (by omega)]
    rfl
theorem mL_entry (ρ : Nat → Nat) (as : List Value) (n : Nat) (hlen : as.length ≤ n) (hcat : ∀ v ∈ as, v.category = 1) :
    mL ρ n (as.map some ++ List.replicate (n - as.length) none) ((lg_sl (as.map (rv ρ)) ++ List.replicate (n - (lg_sl (as.map (rv ρ))).length) Slot.unset).toArray) := by
  have hc2 : ∀ v ∈ as.map (rv ρ), v.category = 1 := fun v hv => by
    obtain ⟨w, hw, rfl⟩ := List.mem_map.mp hv
    rw [rv_cat]; exact hcat w hw
  have e0 := lg_cat1 _ hc2
  have e1 : (lg_sl (as.map (rv ρ))).length = as.length := by rw [e0]; simp
  obtain ⟨h1, h2, -⟩ := lv_entry (as.map (rv ρ)) (n := n) (by omega)
  refine ⟨h1, h2, by simp; omega, fun i v hv => ?_⟩
  have hi := mLo_lt hv
  unfold mLo at hv
  by_cases hia : i < as.length
  · rw [List.getElem?_append_left (by simpa using hia), List.getElem?_map, List.getElem?_eq_getElem hia] at hv
    cases hv
    refine ⟨?_, hcat _ (List.getElem_mem hia)⟩
    rw [List.getElem?_toArray, List.getElem?_append_left (by rw [e1]; exact hia), e0, List.getElem?_map, List.getElem?_map, List.getElem?_eq_getElem hia]
    rfl
  · rw [List.getElem?_append_right (by simpa using hia)] at hv
    have h9 : (List.replicate (n - as.length) (none : Option Value))[i - (List.map some as).length]? = some none ∨ (List.replicate (n - as.length) (none : Option Value))[i - (List.map some as).length]? = none := by
      rw [List.getElem?_replicate]
      split
      · exact Or.inl rfl
      · exact Or.inr rfl
    rcases h9 with h9 | h9 <;> (rw [h9] at hv; cases hv)
theorem mPop_spec : ∀ (n : Nat) {acc st as st' : List Value}, mPop n acc st = some (as, st') → ∃ bs, as = bs.reverse ++ acc ∧ st = bs ++ st' ∧ bs.length = n ∧ (∀ v ∈ bs, v.category = 1) ∧ (st'.map Value.category).sum ≤ 8
  | 0, acc, st, as, st', h => by
    unfold mPop at h
    split at h
    · next q => cases h; exact ⟨[], rfl, rfl, rfl, fun v hv => absurd hv List.not_mem_nil, q⟩
    · cases h
  | n + 1, acc, [], as, st', h => by cases h
  | n + 1, acc, v :: t, as, st', h => by
    unfold mPop at h
    split at h
    · next q =>
      obtain ⟨bs, h1, h2, h3, h4, h5⟩ := mPop_spec n h
      refine ⟨v :: bs, by rw [h1]; simp, by rw [h2]; rfl, by rw [List.length_cons, h3], fun w hw => ?_, h5⟩
      rcases List.mem_cons.mp hw with rfl | hw
      · exact q
      · exact h4 w hw
    · cases h
def mC (h : List mCel) (x : Nat) (h1 : List mCel) (x1 : Nat) : Nat := (h1.length + x1) - (h.length + x)
def mS (h : List mCel) (x : Nat) (h1 : List mCel) (x1 : Nat) : Nat := (hz h1 + 6 * x1) - (hz h + 6 * x)
/-- what the rest of the walk needs at a method's end -/
def mEnd (p : Program) (l : Launch) (e : Env) (R : Room) (s : State) (m : MethodId) (args : Array Value) (below : List Frame) (meth : Method) (c : Code) (M : mM) (κ ρ0 : Nat → Nat) (n0 : Nat) (D : va_G) (A : Nat → Prop) (Q : State → Prop) (h1 : List mCel) (cells1 slots1 : Nat) : Option Value ⊕ Nat → Prop
  | .inl v => ∀ (i : Instr) (pc9 : Nat) (ρ : Nat → Nat) (H : Heap) (locs : List Loc) (ls : Array Slot), mAg n0 ρ0 ρ → decode (mBy M) pc9 = .ok (i, 1) → mRet (mRt M) i v.toList = some v → mHp κ ρ D A s h1 H locs → W p l e R s m args below meth c H locs cells1 slots1 Q (F0 m pc9 ls (v.toList.map (rv ρ)))
  | .inr E => ∃ (Qc : Array Value → State → Outcome → State → Prop) (XC : String → State → State → Prop) (mc ms : Nat) (free : Addr → Prop), Q = vx_MQ below Qc XC args s mc ms free ∧ cells1 ≤ mc ∧ slots1 ≤ ms ∧ (∀ q, A q → free q) ∧
      ∀ (ρ : Nat → Nat) (H : Heap) (locs : List Loc) (t : State), mAg n0 ρ0 ρ → mHp κ ρ D A s h1 H locs → s.vm.Alike t.vm → H.size ≤ t.heap.size → (∀ q : Nat, q < H.size → t.heap[q]? = H[q]?) → XC (mEx E) s t
def mHh (M : mM) : List (Nat × Nat × Nat × Nat) := (mHd M).map fun q => (q.1, q.2.1, q.2.2.1, q.2.2.2.2.2.1)
def mSim (l : Launch) (ro : Nat → Nat × (Nat → Int32)) (n : Nat) : Prop :=
  ∀ {mid pc : Nat} {lo : List (Option Value)} {st : List Value} {h : List mCel} {x : Nat} {r : Option Value ⊕ Nat} {h1 : List mCel} {x1 : Nat} {M : mM}, mTab[mid]? = some M → rn ro mTab n mid pc lo st h x = some (r, h1, x1) →
  lOk (8 + h.length) lo → sOk (8 + h.length) st → hOk h →
  ∀ {p : Program} {e : Env} {R : Room} {s : State} {m : MethodId} {args : Array Value} {below : List Frame} {meth : Method} {c : Code} {κ ρ0 : Nat → Nat} {n0 : Nat} {D : va_G} {A : Nat → Prop} {Q : State → Prop} {cells slots : Nat},
  n0 ≤ 8 + h.length → mCtx p l s m args meth c M κ ρ0 D ro A → mFr M ≤ R.frames ∧ mLc M ≤ R.locals → cells + mC h x h1 x1 ≤ R.cells ∧ slots + mS h x h1 x1 ≤ R.slots → c.exceptionTable.toList = tableOf (mHh M) →
  mEnd p l e R s m args below meth c M κ ρ0 n0 D A Q h1 (cells + mC h x h1 x1) (slots + mS h x h1 x1) r → mGo p l e R s m args below meth c M κ ρ0 n0 D A Q pc lo st h cells slots
def mRm (M : mM) (h : List mCel) (x : Nat) (h1 : List mCel) (x1 : Nat) : Room := { frames := mFr M, cells := 0 + mC h x h1 x1, slots := 0 + mS h x h1 x1, locals := mLc M }
/-- the context of a method's own walk -/
theorem ctx_of {p : Program} {l : Launch} {s s₁ : State} {m : MethodId} {args : Array Value} {below : List Frame} {meth : Method} {c : Code} {M : mM} {κ ρ : Nat → Nat} {D : va_G} {ro : Nat → Nat × (Nat → Int32)} {e : Env} {h : List mCel} {rm : Room}
    (hok : mOkM M) (hl : l.stackTraces = false) (B : BodyLoose p l (mY M) (headSpec (mWd M) rm) (mBy M) (mMx M) (mRt M) e s m args below meth c s₁) (hml : c.maxLocals = mMx M)
    (hP : va_P D vwCl (xW κ ρ h) s.heap) (hK : va_K D vwCl (tyl κ) s) (hD : va_D (fun _ => True) (xW κ ρ h)) (hS : mSta ρ ro (va_A (xW κ ρ h) s.heap.size) s s.heap) :
    mCtx p l s m args meth c M κ ρ D ro (va_A (xW κ ρ h) s.heap.size) := by
  have hts := atoms_spec (ws := mWd M) B.pre
  have hc := hok.1
  unfold chkM at hc
  simp only [Bool.and_eq_true, decide_eq_true_eq] at hc
  refine ⟨B.exec, B.bytes, fun w hw => hts w (List.mem_cons_of_mem _ (gF_A hw)), ?_, hK, hS, fun q h => Or.inr h, hml, fun h9 => ?_, B.notSynchronized, hl, fun k X hk w hw => hts w (List.mem_cons_of_mem _ (uW_A hk hw))⟩
  · rw [← hc.1.1.1.1.1.1.1.1]; exact findClass_of_methodNamed B.named
  · rw [(name_of_methodNamed B.named B.method).1]; exact h9
theorem mRet_cases {rt : Option FieldType} {i : Instr} {v : Option Value} (h : mRet rt i v.toList = some v) :
    (∃ r, i = .ireturn ∧ v = some (.int r) ∧ ((rt = some .boolean ∧ (r = 0 ∨ r = 1)) ∨ rt = some .int)) ∨ (∃ a t, i = .areturn ∧ v = some (.ref a) ∧ rt = some t ∧ ((∃ n, t = .object n) ∨ ∃ u, t = .array u)) ∨ (∃ a, i = .freturn ∧ v = some (.float a) ∧ rt = some .float) ∨ (i = .return_ ∧ v = none ∧ rt = none) := by
  have tl : ∀ {w : Value}, v.toList = [w] → v = some w := fun {w} e => by cases v <;> cases e; rfl
  unfold mRet at h
  split at h
  · next r e =>
    have e := tl e
    subst e
    refine Or.inl ⟨r, rfl, rfl, ?_⟩
    split at h
    · next e2 =>
      split at h
      · next e3 => exact Or.inl ⟨e2, e3⟩
      · cases h
    · split at h
      · next e2 => exact Or.inr e2
      · cases h
  · next a e =>
    have e := tl e
    subst e
    refine Or.inr (Or.inl ?_)
    split at h
    · exact ⟨a, _, rfl, rfl, rfl, Or.inl ⟨_, rfl⟩⟩
    · exact ⟨a, _, rfl, rfl, rfl, Or.inr ⟨_, rfl⟩⟩
    · cases h
  · next a e =>
    have e := tl e
    subst e
    refine Or.inr (Or.inr (Or.inl ?_))
    split at h
    · next e2 => exact ⟨a, rfl, rfl, e2⟩
    · cases h
  · next e =>
    have e : v = none := by cases v <;> first | rfl | cases e
    subst e
    refine Or.inr (Or.inr (Or.inr ?_))
    split at h
    · next e2 => exact ⟨rfl, rfl, e2⟩
    · cases h
  · cases h
theorem fin_ret {p : Program} {l : Launch} {e : Env} {R : Room} {s : State} {m : MethodId} {args : Array Value} {below : List Frame} {meth : Method} {c : Code} {M : mM} {κ ρ0 : Nat → Nat} {n0 : Nat} {D : va_G} {ro : Nat → Nat × (Nat → Int32)} {A : Nat → Prop} {h1 : List mCel} {cells slots : Nat} {v : Option Value}
    (C : mCtx p l s m args meth c M κ ρ0 D ro A) (hr : meth.sig.returnType = mRt M) :
    mEnd p l e R s m args below meth c M κ ρ0 n0 D A (MQ below (mQc κ ρ0 n0 D A h1 v) args s cells slots A) h1 cells slots (.inl v) := by
  intro i pc9 ρ H locs ls hρ hd hret hH
  have hX : ∀ t : State, t.heap = H → mBx κ ρ D A h1 t := fun t ht => ⟨by rw [ht]; exact hH.1, hH.2.1, by rw [ht]; exact hH.2.2.2⟩
  have hB : ∀ t : State, t.heap = H → mBt κ ρ0 n0 D A h1 t := fun t ht => ⟨ρ, hρ, hX t ht⟩
  have hF : ∀ t : State, t.heap = H → va_F A s t := fun t ht => hH.2.2.1.F ht
  have hlocks := C.2.2.2.2.2.2.2.2.2.1
  rcases mRet_cases hret with ⟨r, rfl, rfl, h9 | h9⟩ | ⟨a, rt, rfl, rfl, e2, e3⟩ | ⟨a, rfl, rfl, e2⟩ | ⟨rfl, rfl, e2⟩
  · exact W.zret (ty := .boolean) C.1 C.2.1 (hr.trans h9.1) (by rcases h9.2 with rfl | rfl <;> rfl) (fun t ht hW => ⟨⟨_, (), rfl, rfl, hB t ht⟩, hF t ht⟩) hH.2.2.1.2.2 hd
  · exact W.iret C.1 C.2.1 (hr.trans h9) (fun t ht hW => ⟨⟨_, (), rfl, rfl, hB t ht⟩, hF t ht⟩) hH.2.2.1.2.2 hd
  · exact W.aret (v := .ref (ρ a)) C.1 C.2.1 (hr.trans e2) e3 (Or.inr ⟨_, rfl⟩) (fun t ht hW => ⟨⟨(), ρ a, rfl, trivial, ρ, ⟨hρ, hX t ht⟩, rfl⟩, hF t ht⟩) hH.2.2.1.2.2 hd
  · exact W.fret C.1 C.2.1 (hr.trans e2) (fun t ht hW => ⟨⟨_, (), rfl, rfl, hB t ht⟩, hF t ht⟩) hH.2.2.1.2.2 hd
  · exact W.vret C.1 C.2.1 (hr.trans e2) (fun t ht hW => ⟨⟨(), rfl, trivial, hB t ht⟩, hF t ht⟩) hH.2.2.1.2.2 hd
