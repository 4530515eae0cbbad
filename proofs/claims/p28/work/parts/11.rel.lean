/-! The small machine's state against the real one -/
def rv (ρ : Nat → Nat) : Value → Value
  | .ref a => .ref (ρ a)
  | v => v
def rc (κ ρ : Nat → Nat) : mCel → va_E
  | .inl (t, n, .inr (.inr (.inr (.inr f)))) => .inl (κ t, n, .inr (.inr (.inr (.inr fun i => (f i).map ρ))))
  | .inl (t, n, .inr (.inr (.inr (.inl f)))) => .inl (κ t, n, .inr (.inr (.inr (.inl f))))
  | .inl (t, n, .inr (.inr (.inl f))) => .inl (κ t, n, .inr (.inr (.inl f)))
  | .inl (t, n, .inr (.inl f)) => .inl (κ t, n, .inr (.inl f))
  | .inl (t, n, .inl f) => .inl (κ t, n, .inl f)
  | .inr (c, fs) => .inr (c, fs.map (rv ρ))
def xWf (κ ρ : Nat → Nat) : Nat → List mCel → va_W
  | _, [] => []
  | k, c :: t => (ρ k, rc κ ρ c) :: xWf κ ρ (k + 1) t
abbrev xW (κ ρ : Nat → Nat) (h : List mCel) : va_W := xWf κ ρ 8 h
theorem xWf_get (κ ρ : Nat → Nat) : ∀ (h : List mCel) (k i : Nat), (xWf κ ρ k h)[i]? = (h[i]?).map (fun c => (ρ (k + i), rc κ ρ c))
  | [], k, i => by simp [xWf]
  | c :: t, k, 0 => by simp [xWf]
  | c :: t, k, i + 1 => by
    simp only [xWf, List.getElem?_cons_succ]
    rw [xWf_get κ ρ t (k + 1) i, show k + 1 + i = k + (i + 1) by omega]
theorem xWf_set (κ ρ : Nat → Nat) : ∀ (h : List mCel) (k i : Nat) (c : mCel), xWf κ ρ k (h.set i c) = (xWf κ ρ k h).set i (ρ (k + i), rc κ ρ c)
  | [], k, i, c => by simp [xWf]
  | d :: t, k, 0, c => by simp [xWf]
  | d :: t, k, i + 1, c => by
    simp only [xWf, List.set_cons_succ]
    rw [xWf_set κ ρ t (k + 1) i, show k + 1 + i = k + (i + 1) by omega]
theorem xWf_app (κ ρ : Nat → Nat) : ∀ (h : List mCel) (k : Nat) (c : mCel), xWf κ ρ k (h ++ [c]) = xWf κ ρ k h ++ [(ρ (k + h.length), rc κ ρ c)]
  | [], k, c => by simp [xWf]
  | d :: t, k, c => by
    simp only [xWf, List.cons_append, List.length_cons]
    rw [xWf_app κ ρ t (k + 1) c, show k + 1 + t.length = k + (t.length + 1) by omega]
theorem xW_cell {κ ρ : Nat → Nat} {h : List mCel} {a : Nat} {c : mCel} (e : mCell h a = some c) : (xW κ ρ h)[a - 8]? = some (ρ a, rc κ ρ c) ∧ 8 ≤ a ∧ h[a - 8]? = some c := by
  unfold mCell at e
  split at e
  · cases e
  · next hl =>
    refine ⟨?_, by omega, e⟩
    rw [xWf_get, e, Option.map_some, show 8 + (a - 8) = a by omega]
def hz1 : mCel → Nat
  | .inl (_, n, _) => n
  | .inr (_, fs) => fs.length
def hz (h : List mCel) : Nat := (h.map hz1).sum
theorem hz_app (h : List mCel) (c : mCel) : hz (h ++ [c]) = hz h + hz1 c := by simp [hz]
theorem hz_set : ∀ (h : List mCel) (i : Nat) (c d : mCel), h[i]? = some d → hz1 c = hz1 d → hz (h.set i c) = hz h
  | [], i, c, d, e, _ => by simp at e
  | b :: t, 0, c, d, e, q => by
    simp at e
    subst e
    simp [hz, q]
  | b :: t, i + 1, c, d, e, q => by
    simp only [List.getElem?_cons_succ] at e
    have := hz_set t i c d e q
    simp [hz] at this ⊢
    omega
def tyl (κ : Nat → Nat) : List (ClassId × FieldType) := [(κ 0, mTy 0), (κ 1, mTy 1), (κ 2, mTy 2), (κ 5, mTy 5), (κ 6, mTy 6)]
def tI (t : Nat) : Nat := if t = 5 then 3 else if t = 6 then 4 else t
/-- locals -/
def mL (ρ : Nat → Nat) (n : Nat) (lo : List (Option Value)) (ls : Array Slot) : Prop :=
  ls.size = n ∧ lv_wf ls ∧ lo.length ≤ n ∧ ∀ (i : Nat) (v : Value), mLo lo i = some v → ls[i]? = some (.val (rv ρ v)) ∧ v.category = 1
def mLl (ρ : Nat → Nat) (lo : List (Option Value)) : List (Nat × Value) := (List.range lo.length).filterMap fun i => (mLo lo i).map fun v => (i, rv ρ v)
theorem mLo_lt {lo : List (Option Value)} {i : Nat} {v : Value} (h : mLo lo i = some v) : i < lo.length := by
  unfold mLo at h
  split at h
  · next e => exact (List.getElem?_eq_some_iff.mp e).1
  · cases h
theorem rv_cat (ρ : Nat → Nat) (v : Value) : (rv ρ v).category = v.category := by cases v <;> rfl
theorem mL_has {ρ : Nat → Nat} {n : Nat} {lo : List (Option Value)} {ls : Array Slot} (h : mL ρ n lo ls) : lv_has ls n (mLl ρ lo) := by
  refine ⟨h.1, h.2.1, fun q hq => ?_⟩
  obtain ⟨i, -, hi⟩ := List.mem_filterMap.mp hq
  cases e : mLo lo i with
  | none => rw [e] at hi; cases hi
  | some v =>
    rw [e] at hi
    cases hi
    exact (h.2.2.2 i v e).1
theorem mL_set {ρ : Nat → Nat} {n i : Nat} {lo : List (Option Value)} {ls ls' : Array Slot} {v : Value} (h : mL ρ n lo ls) (hv : v.category = 1)
    (h' : lv_has ls' n ((i, rv ρ v) :: (mLl ρ lo).filter (fun q => !(q.1 == i) && !(q.1 + 1 == i && q.2.category == 2)))) : mL ρ n (lo.set i (some v)) ls' := by
  refine ⟨h'.1, h'.2.1, by rw [List.length_set]; exact h.2.2.1, fun j w hw => ?_⟩
  by_cases hj : j = i
  · subst hj
    have hl := mLo_lt hw
    rw [List.length_set] at hl
    unfold mLo at hw
    rw [List.getElem?_set_self hl] at hw
    cases hw
    exact ⟨h'.2.2 (j, rv ρ v) List.mem_cons_self, hv⟩
  · have e : mLo lo j = some w := by
      unfold mLo at hw ⊢
      rw [List.getElem?_set_ne (Ne.symm hj)] at hw
      exact hw
    have hc := (h.2.2.2 j w e).2
    refine ⟨h'.2.2 (j, rv ρ w) (List.mem_cons_of_mem _ (List.mem_filter.mpr ⟨List.mem_filterMap.mpr ⟨j, List.mem_range.mpr (mLo_lt e), by rw [e]; rfl⟩, ?_⟩)), hc⟩
    have hc2 : (rv ρ w).category = 1 := by rw [rv_cat]; exact hc
    simp [hj, hc2]
theorem mL_none {ρ : Nat → Nat} {n i : Nat} {lo : List (Option Value)} {ls : Array Slot} (h : mL ρ n lo ls) : mL ρ n (lo.set i none) ls := by
  refine ⟨h.1, h.2.1, by rw [List.length_set]; exact h.2.2.1, fun j w hw => h.2.2.2 j w ?_⟩
  by_cases hj : j = i
  · subst hj
    have hl := mLo_lt hw
    rw [List.length_set] at hl
    unfold mLo at hw
    rw [List.getElem?_set_self hl] at hw
    cases hw
  · unfold mLo at hw ⊢
    rw [List.getElem?_set_ne (Ne.symm hj)] at hw
    exact hw
/-- what stands beside the cells: rows that are read alone, and words that move with the tables -/
def mSta (ρ : Nat → Nat) (ro : Nat → Nat × (Nat → Int32)) (A : Nat → Prop) (U : State) (H : Heap) : Prop :=
  ((va_X (ρ 0) (ro 0).1 (ro 0).2 U H ∧ ρ 0 < H.size ∧ ¬ A (ρ 0)) ∧ ∀ k, 1 ≤ k → k < 6 → va_T .int (ρ k) (ro k).1 (fun j => .int ((ro k).2 j)) A U H) ∧
  (∀ k, 1 ≤ k → k < 6 → va_Z (mSC k).1 (mSC k).2 "[I" (.ref (ρ k)) A U H) ∧
  vx_Zq Bundle.tN "UNASSIGNED_STACK" Bundle.steD A U H ∧ vx_Zq Bundle.tN "SUPPRESSED_SENTINEL" Bundle.listD A U H ∧
  (∀ w ∈ mNest, va_Nw w U) ∧ (∀ q ∈ mStrs, ∃ a, vk_R RX11 q.1 q.2 a U) ∧ ((∀ E, E < 3 → va_Nw (.castable (mEx E) (mEx E)) U) ∧ ∀ y ∈ mDecl, va_Nw (.declares y) U) ∧ (∀ E E', E < 3 → E' < 3 → E ≠ E' → va_Nc (mEx E) (mEx E') U) ∧ va_AO "Swervewright$Polygon" U ∧ va_AO "Swervewright$Route" U
/-- the cells -/
def mHp (κ ρ : Nat → Nat) (D : va_G) (A : Nat → Prop) (s : State) (h : List mCel) (H : Heap) (locs : List Loc) : Prop :=
  va_P D vwCl (xW κ ρ h) H ∧ va_D A (xW κ ρ h) ∧ va_S A s.heap H locs ∧ ∀ j, 8 + h.length ≤ j → ρ j = H.size + (j - (8 + h.length))
/-- the words agree on what stands before a frame -/
def mAg (n0 : Nat) (ρ0 ρ : Nat → Nat) : Prop := ∀ k, k < 8 ∨ k < n0 → ρ k = ρ0 k
def mCtx (p : Program) (l : Launch) (s : State) (m : MethodId) (args : Array Value) (meth : Method) (c : Code) (M : mM) (κ ρ : Nat → Nat) (D : va_G) (ro : Nat → Nat × (Nat → Int32)) (A : Nat → Prop) : Prop :=
  p.tables.exec = Jvm.exec ∧ c.code = mBy M ∧ (∀ w ∈ gF, w.before args s = true) ∧ s.vm.findClass (mOwn M) = some m.cls ∧ va_K D vwCl (tyl κ) s ∧ mSta ρ ro A s s.heap ∧ (∀ q, s.heap.size ≤ q → A q) ∧ c.maxLocals = mMx M ∧ ((mY M).name = "<init>" → meth.name = "<init>") ∧ meth.locks = false ∧ l.stackTraces = false ∧ (∀ (k : Nat) (X : vw_C), vwCl[k]? = some X → ∀ w ∈ u_ws X.1 X.2.1 X.2.2, w.before args s = true)
def mGo (p : Program) (l : Launch) (e : Env) (R : Room) (s : State) (m : MethodId) (args : Array Value) (below : List Frame) (meth : Method) (c : Code) (M : mM) (κ ρ0 : Nat → Nat) (n0 : Nat) (D : va_G) (A : Nat → Prop) (Q : State → Prop) (pc : Nat) (lo : List (Option Value)) (st : List Value) (h : List mCel) (cells slots : Nat) : Prop :=
  ∀ (ρ : Nat → Nat) (H : Heap) (locs : List Loc) (ls : Array Slot), mAg n0 ρ0 ρ → mHp κ ρ D A s h H locs → mL ρ (mMx M) lo ls → W p l e R s m args below meth c H locs cells slots Q (F0 m pc ls (st.map (rv ρ)))
