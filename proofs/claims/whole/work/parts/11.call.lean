theorem gF_good : gF.all goodWord = true := by decide +kernel
def uW : List Jvm.Cond := vwCl.flatMap fun X => u_ws X.1 X.2.1 X.2.2
theorem uW_good : uW.all goodWord = true := by decide +kernel
/-- all words that a method of the class may need -/
def gA : List Jvm.Cond := gF ++ uW
theorem gA_good : ∀ w ∈ gA, goodWord w = true := fun w h => (List.mem_append.mp h).elim (List.all_eq_true.mp gF_good w) (List.all_eq_true.mp uW_good w)
theorem gA_in {ws : List Jvm.Cond} (h : ∀ w ∈ ws, w ∈ gA) : GoodIn gA ws := fun w hw => ⟨h w hw, good_of_word (gA_good w (h w hw))⟩
theorem gF_A {w : Jvm.Cond} (h : w ∈ gF) : w ∈ gA := List.mem_append_left _ h
theorem uW_A {k : Nat} {X : vw_C} (hk : vwCl[k]? = some X) {w : Jvm.Cond} (h : w ∈ u_ws X.1 X.2.1 X.2.2) : w ∈ gA := List.mem_append_right _ (List.mem_flatMap.mpr ⟨X, List.mem_of_getElem? hk, h⟩)
section STA
variable {ρ : Nat → Nat} {ro : Nat → Nat × (Nat → Int32)} {A B : Nat → Prop} {u U : State} {H H1 : Heap}
theorem mSta.kept (h : mSta ρ ro A U H) (hs : H.size ≤ H1.size) (hq : ∀ a : Nat, a < H.size → ¬ A a → H1[a]? = H[a]?) : mSta ρ ro A U H1 :=
  ⟨fun k hk => ⟨(h.1 k hk).1.kept (hq _ (h.1 k hk).2.1 (h.1 k hk).2.2), Nat.lt_of_lt_of_le (h.1 k hk).2.1 hs, (h.1 k hk).2.2⟩, fun k h1 h2 => va_Z.kept (h.2.1 k h1 h2) hq, vx_Zq.kept h.2.2.1 hq, vx_Zq.kept h.2.2.2.1 hq, h.2.2.2.2⟩
theorem mSta.narrow (h : mSta ρ ro A U H) (hAB : ∀ q, B q → A q) : mSta ρ ro B U H :=
  ⟨fun k hk => ⟨(h.1 k hk).1, (h.1 k hk).2.1, fun z => (h.1 k hk).2.2 (hAB _ z)⟩, fun k h1 h2 => va_Z.narrow (h.2.1 k h1 h2) hAB, vx_Zq.narrow h.2.2.1 hAB, vx_Zq.narrow h.2.2.2.1 hAB, h.2.2.2.2⟩
theorem mNest_m {w : Jvm.Cond} (h : w ∈ mNest) : ∃ a i x o, w = .methodLinkNest a i x o := by
  simp only [mNest, List.mem_cons, List.not_mem_nil, or_false] at h
  rcases h with rfl | rfl | rfl | rfl | rfl | rfl <;> exact ⟨_, _, _, _, rfl⟩
theorem mSta.warm {s : State} (hW : s.WarmedH U.vm) (h : mSta ρ ro A s H) : mSta ρ ro A U H := by
  refine ⟨fun k hk => ⟨(h.1 k hk).1.moved hW.alike, (h.1 k hk).2.1, (h.1 k hk).2.2⟩, fun k h1 h2 => va_Z.moved hW.alike (h.2.1 k h1 h2), vx_Zq.moved hW.alike h.2.2.1, vx_Zq.moved hW.alike h.2.2.2.1, fun w hw => ?_, fun q hq => ?_, ⟨fun E hE => va_Nw.warmC hW (h.2.2.2.2.2.2.1.1 E hE), fun y hy => va_Nw.warmD hW (h.2.2.2.2.2.2.1.2 y hy)⟩, fun E E' h1 h2 h3 => va_Nc.moved hW.alike (h.2.2.2.2.2.2.2.1 E E' h1 h2 h3), va_AO.moved hW.alike h.2.2.2.2.2.2.2.2.1, va_AO.moved hW.alike h.2.2.2.2.2.2.2.2.2⟩
  · obtain ⟨a, i, x, o, rfl⟩ := mNest_m hw
    exact va_Nw.warmM hW (h.2.2.2.2.1 _ hw)
  · obtain ⟨a, ha⟩ := h.2.2.2.2.2.1 q hq
    exact ⟨a, vk_R.warm hW ha⟩
theorem mSta.same (hv : u.vm = U.vm) (h : mSta ρ ro A u H) : mSta ρ ro A U H := by
  have hA : u.vm.Alike U.vm := by rw [hv]; exact Vm.Alike.refl _
  refine ⟨fun k hk => ⟨(h.1 k hk).1.moved hA, (h.1 k hk).2.1, (h.1 k hk).2.2⟩, fun k h1 h2 => va_Z.moved hA (h.2.1 k h1 h2), vx_Zq.moved hA h.2.2.1, vx_Zq.moved hA h.2.2.2.1, fun w hw => ?_, fun q hq => ?_, ⟨fun E hE => va_Nw.same rfl hv (h.2.2.2.2.2.2.1.1 E hE), fun y hy => va_Nw.same rfl hv (h.2.2.2.2.2.2.1.2 y hy)⟩, fun E E' h1 h2 h3 => va_Nc.moved hA (h.2.2.2.2.2.2.2.1 E E' h1 h2 h3), va_AO.moved hA h.2.2.2.2.2.2.2.2.1, va_AO.moved hA h.2.2.2.2.2.2.2.2.2⟩
  · obtain ⟨a, i, x, o, rfl⟩ := mNest_m hw
    exact va_Nw.same rfl hv (h.2.2.2.2.1 _ hw)
  · obtain ⟨a, ha⟩ := h.2.2.2.2.2.1 q hq
    exact ⟨a, vk_R.same hv.symm ha⟩
end STA
def mPc (κ ρ : Nat → Nat) (D : va_G) (ro : Nat → Nat × (Nat → Int32)) (as : List Value) (h : List mCel) (sz : Nat) : Array Value → State → Prop :=
  va_Pc (as.map (rv ρ)) (fun U => U.heap.size = sz ∧ va_P D vwCl (xW κ ρ h) U.heap ∧ va_K D vwCl (tyl κ) U ∧ va_D (fun _ => True) (xW κ ρ h) ∧ mSta ρ ro (va_A (xW κ ρ h) sz) U U.heap)
theorem mPc_blind {κ ρ : Nat → Nat} {D : va_G} {ro : Nat → Nat × (Nat → Int32)} {as : List Value} {h : List mCel} {sz : Nat} : FrameBlind (mPc κ ρ D ro as h sz) := fun a U g mk q =>
  ⟨q.1, q.2.1, q.2.2.1, va_K.moved (u := U) (U := U.calling g mk a) (Vm.Alike.refl U.vm) q.2.2.2.1, q.2.2.2.2.1, mSta.same (u := U) (U := U.calling g mk a) rfl q.2.2.2.2.2⟩
def mBt (κ ρ : Nat → Nat) (D : va_G) (A : Nat → Prop) (h1 : List mCel) (x1 : Nat) (t : State) : Prop :=
  va_P D vwCl (xW κ ρ h1) t.heap ∧ va_D A (xW κ ρ h1) ∧ (x1 = 0 → ∀ j, 8 + h1.length ≤ j → ρ j = t.heap.size + (j - (8 + h1.length)))
def mQc (κ ρ : Nat → Nat) (D : va_G) (A : Nat → Prop) (h1 : List mCel) (x1 : Nat) : Option Value → Array Value → State → Outcome → State → Prop
  | none => va_Qv (S := Unit) (fun _ => True) (fun _ t => mBt κ ρ D A h1 x1 t) A
  | some (.int r) => va_Qi (S := Unit) (fun r' _ => r' = r) (fun _ t => mBt κ ρ D A h1 x1 t) A
  | some (.float r) => va_Qf (S := Unit) (fun r' _ => r' = r) (fun _ t => mBt κ ρ D A h1 x1 t) A
  | some (.ref a) => va_Qr (S := Unit) (fun _ => True) (fun _ ra t => ra = ρ a ∧ mBt κ ρ D A h1 x1 t) A
  | _ => fun _ _ _ _ => False
/-- a word that gives a method's code -/
def mCw (M : mM) : Jvm.Cond := match mHd M with
  | [] => .code (mY M) (mBy M) (mMx M) (mRt M)
  | hd => .codeWith (mY M) (mBy M) (mMx M) (mRt M) (hd.map fun q => (q.1, q.2.1, q.2.2.1, q.2.2.2.2.2.1))
def mWd (M : mM) : List Jvm.Cond := mCw M :: gA
/-- a throw: its rows -/
def chkT (M : mM) (pc ik E kind is : Nat) : Bool :=
  decide (E < 3) && dOk (mBy M) pc (.new ik) 3 && dOk (mBy M) (pc + 3) .dup 1 &&
  (if kind = 0 then dOk (mBy M) (pc + 4) (.ldc is) 2 && dOk (mBy M) (pc + 6) (.invokespecial (mIc E)) 3 && dOk (mBy M) (pc + 9) .athrow 1
   else dOk (mBy M) (pc + 4) (.ldc_w is) 3 && dOk (mBy M) (pc + 7) (.invokespecial (mIc E)) 3 && dOk (mBy M) (pc + 10) .athrow 1) &&
  decide (mOwn M = RX11) && decide (Jvm.Cond.classLink RX11 ik (mEx E) ∈ gF) && decide (Jvm.Cond.initialized (mEx E) ∈ gF) && (mStrs.any fun q => decide (q.1 = is)) && decide (mHd M = []) && decide (6 ≤ mFr M ∧ 90 ≤ mLc M) && decide ((mWs M).1 = 1)
/-- a call's words and room -/
def chkC (M : mM) (pc : Nat) (i : Instr) (r1 r2 w : Nat) : Bool :=
  dOk (mBy M) pc i 3 &&
  (if r1 = 1000 then match i with
    | .invokespecial k => decide (gF[w]? = some (Jvm.Cond.methodLink (mOwn M) k Lib.objectInit)) && decide (1 ≤ mFr M ∧ 20 ≤ mLc M)
    | _ => false
   else if 1000 < r1 then match i with
    | .invokestatic k => decide (gF[w]? = some (Jvm.Cond.methodLink (mOwn M) k (if r1 = 1002 then Lib.Math.max.name else if r1 = 1003 then Lib.Math.min.name else Lib.Math.abs.name))) && decide (1 ≤ mFr M ∧ 25 ≤ mLc M)
    | _ => false
   else match mTab[r1]? with
    | none => false
    | some M' => decide (mFr M' + 1 ≤ mFr M) && decide (8 + (mMx M' + 11) + mLc M' ≤ mLc M) && decide ((mWs M').1 = 0 ∨ (mWs M).1 = 1 ∨ mHd M ≠ []) && decide ((mWs M').2.1 = 0) &&
      (match i with
        | .invokestatic k => decide (gF[w]? = some (Jvm.Cond.methodLink (mOwn M) k (mY M'))) && decide (mKd M' = 0)
        | .invokevirtual k => decide (gF[w]? = some (Jvm.Cond.methodLink (mOwn M) k (mY M'))) && decide (1000 ≤ mKd M' ∧ mKd M' < 2000) && decide (mHd M' = [])
        | .invokespecial k => (if r2 = 1 then decide (Jvm.Cond.methodLinkNest (mOwn M) k (mY M') RX11 ∈ mNest) else decide (gF[w]? = some (Jvm.Cond.methodLink (mOwn M) k (mY M')))) && decide (2000 ≤ mKd M') && decide (mHd M' = []) && decide (mRt M' = none) && decide ((mWs M').1 = 0)
        | _ => false))
def chkA (M : mM) (q : mEnt) : Bool := match q with
  | (pc, i, len, r1, r2, w) => match mKnd i r1 with
    | 0 => chkE M q
    | 1 => dOk (mBy M) pc i 1
    | 2 => chkC M pc i r1 r2 w
    | _ => match i with
      | .new ik => chkT M pc ik (r1 - 900) r2 w
      | _ => false
/-- what is checked of a method by itself -/
def chkM (M : mM) : Bool :=
  decide ((mY M).cls = mOwn M) && plainName (mY M).cls && decide ((mY M).cls ≠ "java/lang/invoke/MethodHandle" ∧ (mY M).cls ≠ "java/lang/invoke/VarHandle") &&
  decide ((parseMethodDescriptor (mY M).desc).map (fun d => d.parameters.length) = some (if mKd M = 0 then mNa M else mNa M - 1)) &&
  decide (mNa M ≤ mMx M) && decide (Jvm.Cond.initialized (mY M).cls ∈ gF) &&
  (if mKd M = 0 then decide (Jvm.Cond.static (mY M) ∈ gF) else decide (Jvm.Cond.instanceMethod (mY M) ∈ gF) && decide (1 ≤ mNa M) &&
    (match vwCl[mKd M % 1000]? with | some X => decide (X.1 = mOwn M) | none => false) &&
    (if mKd M < 2000 then decide (Jvm.Cond.selects (mOwn M) (mY M) (mY M) ∈ gF) else decide ((mY M).name = "<init>"))) &&
  decide (mKd M = 0 ∨ (1000 ≤ mKd M ∧ mHd M = [])) && decide (mHd M ≠ [] → mRt M = some .int)
/-- a handler: its exception's word, its first row -/
def chkH (M : mM) (q : Nat × Nat × Nat × Nat × Nat × Nat × Nat) : Bool := match q with
  | (_, _, hp, E, l, t, k) => decide (E < 3) && decide (t ≠ 0) && decide (Jvm.Cond.classLink (mOwn M) t (mEx E) ∈ gF) && decide (k < mMx M) &&
    ((decide (l = 1) && (if hk : k < 4 then dOk (mBy M) hp (.astore_n ⟨k, hk⟩) 1 else false)) || (decide (l = 2) && dOk (mBy M) hp (.astore k) 2))
def mOkM (M : mM) : Prop := chkM M = true ∧ mCw M ∈ gF ∧ (mCd M).all (chkA M) = true ∧ (mHd M).all (chkH M) = true
def mOk0 (M : mM) : Prop := (mCd M).all (chkA M) = true ∧ (mHd M).all (chkH M) = true
