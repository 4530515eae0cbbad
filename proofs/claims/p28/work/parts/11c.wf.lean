/-! No reference leads beyond the cells -/
def vOk (n : Nat) : Value → Prop
  | .ref a => a < n
  | _ => True
def cOk (n : Nat) : mCel → Prop
  | .inl (_, _, .inr (.inr (.inr (.inr f)))) => ∀ i a, f i = some a → a < n
  | .inl _ => True
  | .inr (_, fs) => ∀ v ∈ fs, vOk n v
def hOk (h : List mCel) : Prop := ∀ c ∈ h, cOk (8 + h.length) c
def sOk (n : Nat) (st : List Value) : Prop := ∀ v ∈ st, vOk n v
def lOk (n : Nat) (lo : List (Option Value)) : Prop := ∀ v, some v ∈ lo → vOk n v
theorem vOk_mono {n m : Nat} (h : n ≤ m) {v : Value} (q : vOk n v) : vOk m v := by
  cases v <;> first | trivial | exact Nat.lt_of_lt_of_le q h
theorem cOk_mono {n m : Nat} (h : n ≤ m) {c : mCel} (q : cOk n c) : cOk m c := by
  rcases c with ⟨t, k, f | f | f | f | f⟩ | ⟨c, fs⟩
  · trivial
  · trivial
  · trivial
  · trivial
  · exact fun i a e => Nat.lt_of_lt_of_le (q i a e) h
  · exact fun v hv => vOk_mono h (q v hv)
theorem sOk_mono {n m : Nat} (h : n ≤ m) {st : List Value} (q : sOk n st) : sOk m st := fun v hv => vOk_mono h (q v hv)
theorem lOk_mono {n m : Nat} (h : n ≤ m) {lo : List (Option Value)} (q : lOk n lo) : lOk m lo := fun v hv => vOk_mono h (q v hv)
theorem sOk_cons {n : Nat} {v : Value} {st : List Value} : sOk n (v :: st) ↔ vOk n v ∧ sOk n st := by simp [sOk]
theorem sOk_nil {n : Nat} : sOk n [] := fun v hv => absurd hv List.not_mem_nil
theorem sOk_app {n : Nat} {a b : List Value} : sOk n (a ++ b) ↔ sOk n a ∧ sOk n b := by
  simp only [sOk, List.mem_append]
  exact ⟨fun h => ⟨fun v hv => h v (Or.inl hv), fun v hv => h v (Or.inr hv)⟩, fun h v hv => hv.elim (h.1 v) (h.2 v)⟩
theorem lOk_set {n k : Nat} {lo : List (Option Value)} {v : Value} (q : lOk n lo) (hv : vOk n v) : lOk n (lo.set k (some v)) := fun w hw => by
  rcases List.mem_or_eq_of_mem_set hw with h | h
  · exact q w h
  · cases h; exact hv
theorem lOk_none {n k : Nat} {lo : List (Option Value)} (q : lOk n lo) : lOk n (lo.set k none) := fun w hw => by
  rcases List.mem_or_eq_of_mem_set hw with h | h
  · exact q w h
  · cases h
theorem lOk_get {n k : Nat} {lo : List (Option Value)} {v : Value} (q : lOk n lo) (h : mLo lo k = some v) : vOk n v := by
  unfold mLo at h
  split at h
  · next e => cases h; exact q _ (List.mem_of_getElem? e)
  · cases h
theorem hOk_set {h : List mCel} {i : Nat} {c : mCel} (q : hOk h) (hc : cOk (8 + h.length) c) : hOk (h.set i c) := fun d hd => by
  rw [List.length_set]
  rcases List.mem_or_eq_of_mem_set hd with hd | hd
  · exact q d hd
  · subst hd; exact hc
theorem hOk_app {h : List mCel} {c : mCel} (q : hOk h) (hc : cOk (8 + h.length) c) : hOk (h ++ [c]) := fun d hd => by
  rw [List.length_append, List.length_singleton]
  rcases List.mem_append.mp hd with hd | hd
  · exact cOk_mono (by omega) (q d hd)
  · rw [List.mem_singleton.mp hd]; exact cOk_mono (by omega) hc
theorem hOk_cell {h : List mCel} {a : Nat} {c : mCel} (q : hOk h) (e : mCell h a = some c) : cOk (8 + h.length) c := by
  unfold mCell at e
  split at e
  · cases e
  · exact q c (List.mem_of_getElem? e)
theorem hOk_fld {h : List mCel} {a c : Nat} {fs : List Value} (q : hOk h) (e : mCell h a = some (.inr (c, fs))) : ∀ v ∈ fs, vOk (8 + h.length) v := hOk_cell q e
theorem hOk_arr {h : List mCel} {a t n : Nat} {f : Nat → Option Nat} (q : hOk h) (e : mCell h a = some (.inl (t, n, .inr (.inr (.inr (.inr f)))))) : ∀ i b, f i = some b → b < 8 + h.length := hOk_cell q e
theorem mDef_ok (n : Nat) (ty : FieldType) : vOk n (mDef ty) := by cases ty <;> trivial
theorem mFls_ok (n : Nat) (T : u_T) (N : Nat) : ∀ v ∈ mFls T N, vOk n v := by
  intro v hv
  obtain ⟨k, -, rfl⟩ := List.mem_map.mp hv
  unfold mFl
  split
  · exact mDef_ok n _
  · trivial
theorem mZero_ok (n t : Nat) (ty : FieldType) (k : Nat) : cOk n (.inl (t, mZero ty k)) := by
  cases ty <;> first | trivial | (intro i a e; cases e)
set_option maxHeartbeats 4000000 in
theorem stp_ok {ro : Nat → Nat × (Nat → Int32)} {i : Instr} {r1 r2 pc pc' : Nat} {lo lo' : List (Option Value)} {st st' : List Value} {h h' : List mCel} (hs : mStp ro i r1 r2 pc lo st h = some (pc', lo', st', h'))
    (ql : lOk (8 + h.length) lo) (qs : sOk (8 + h.length) st) (qh : hOk h) : lOk (8 + h'.length) lo' ∧ sOk (8 + h'.length) st' ∧ hOk h' := by
  have tr : ∀ {x : Int32}, vOk (8 + h.length) (.int x) := trivial
  cases i with
  | aaload =>
    simp only [mStp] at hs; (repeat' split at hs) <;> first | (cases hs; done) | skip
    · next he _ _ _ e => cases hs; exact ⟨ql, sOk_cons.mpr ⟨hOk_cell qh he _ _ e, (sOk_cons.mp (sOk_cons.mp qs).2).2⟩, qh⟩
    · cases hs; exact ⟨ql, sOk_cons.mpr ⟨trivial, (sOk_cons.mp (sOk_cons.mp qs).2).2⟩, qh⟩
  | aastore =>
    simp only [mStp] at hs; (repeat' split at hs) <;> first | (cases hs; done) | skip
    · cases hs
      simp only [sOk_cons] at qs
      refine ⟨by simpa using ql, by simpa using qs.2.2.2, hOk_set qh fun i a e => ?_⟩
      unfold va_up at e
      split at e
      · cases e; exact qs.1
      · exact hOk_arr qh (by assumption) i a e
    · cases hs
      simp only [sOk_cons] at qs
      refine ⟨by simpa using ql, by simpa using qs.2.2.2, hOk_set qh fun i a e => ?_⟩
      unfold va_up at e
      split at e
      · cases e
      · exact hOk_arr qh (by assumption) i a e
  | anewarray k =>
    simp only [mStp] at hs; (repeat' split at hs) <;> first | (cases hs; done) | skip
    cases hs
    rw [List.length_append, List.length_singleton]
    exact ⟨lOk_mono (by omega) ql, sOk_cons.mpr ⟨(by show 8 + h.length < 8 + (h.length + 1); omega), sOk_mono (by omega) (sOk_cons.mp qs).2⟩, hOk_app qh (mZero_ok _ _ _ _)⟩
  | newarray k =>
    simp only [mStp] at hs; (repeat' split at hs) <;> first | (cases hs; done) | skip
    cases hs
    rw [List.length_append, List.length_singleton]
    exact ⟨lOk_mono (by omega) ql, sOk_cons.mpr ⟨(by show 8 + h.length < 8 + (h.length + 1); omega), sOk_mono (by omega) (sOk_cons.mp qs).2⟩, hOk_app qh (mZero_ok _ _ _ _)⟩
  | new k =>
    simp only [mStp] at hs; (repeat' split at hs) <;> first | (cases hs; done) | skip
    cases hs
    rw [List.length_append, List.length_singleton]
    exact ⟨lOk_mono (by omega) ql, sOk_cons.mpr ⟨(by show 8 + h.length < 8 + (h.length + 1); omega), sOk_mono (by omega) qs⟩, hOk_app qh (mFls_ok _ _ _)⟩
  | iastore =>
    simp only [mStp] at hs; (repeat' split at hs) <;> first | (cases hs; done) | skip
    cases hs
    simp only [sOk_cons] at qs
    exact ⟨by simpa using ql, by simpa using qs.2.2.2, hOk_set qh trivial⟩
  | fastore =>
    simp only [mStp] at hs; (repeat' split at hs) <;> first | (cases hs; done) | skip
    cases hs
    simp only [sOk_cons] at qs
    exact ⟨by simpa using ql, by simpa using qs.2.2.2, hOk_set qh trivial⟩
  | invokestatic k =>
    simp only [mStp] at hs; (repeat' split at hs) <;> first | (cases hs; done) | skip
    cases hs
    simp only [sOk_cons] at qs
    exact ⟨by simpa using ql, by simpa using qs.2.2.2.2.2, hOk_set qh trivial⟩
  | bastore =>
    simp only [mStp] at hs; (repeat' split at hs) <;> first | (cases hs; done) | skip
    cases hs
    simp only [sOk_cons] at qs
    exact ⟨by simpa using ql, by simpa using qs.2.2.2, hOk_set qh trivial⟩
  | getfield k =>
    simp only [mStp] at hs; (repeat' split at hs) <;> first | (cases hs; done) | skip
    next he _ _ _ e => cases hs; exact ⟨ql, sOk_cons.mpr ⟨hOk_cell qh he _ (List.mem_of_getElem? e), (sOk_cons.mp qs).2⟩, qh⟩
  | getstatic k =>
    simp only [mStp] at hs; (repeat' split at hs) <;> first | (cases hs; done) | skip
    cases hs; exact ⟨ql, sOk_cons.mpr ⟨(by show r1 < 8 + h.length; omega), qs⟩, qh⟩
  | putfield k =>
    simp only [mStp] at hs; (repeat' split at hs) <;> first
      | (cases hs; done)
      | (cases hs; simp only [sOk_cons] at qs; refine ⟨by simpa using ql, by simpa using qs.2.2, hOk_set qh fun v hv => ?_⟩; rcases List.mem_or_eq_of_mem_set hv with q9 | q9; (exact hOk_fld qh (by assumption) v q9); (subst q9; exact qs.1))
      | skip
  | _ => first
      | exact (nomatch (show (none : Option mSt) = some (pc', lo', st', h') from hs))
      | (simp only [mStp] at hs; (repeat' split at hs) <;> first
          | (cases hs; done)
          | (cases hs; simp only [sOk_cons] at qs; exact ⟨ql, qs.2, qh⟩)
          | (cases hs; simp only [sOk_cons] at qs; exact ⟨ql, qs.2.2, qh⟩)
          | (cases hs; exact ⟨ql, sOk_cons.mpr ⟨trivial, qs⟩, qh⟩)
          | (cases hs; exact ⟨ql, qs, qh⟩)
          | (cases hs; exact ⟨ql, sOk_cons.mpr ⟨lOk_get ql (by assumption), qs⟩, qh⟩)
          | (cases hs; simp only [sOk_cons] at qs ⊢; exact ⟨ql, ⟨trivial, qs.2⟩, qh⟩)
          | (cases hs; simp only [sOk_cons] at qs ⊢; exact ⟨ql, ⟨trivial, qs.2.2⟩, qh⟩)
          | (cases hs; simp only [sOk_cons] at qs; exact ⟨lOk_set ql qs.1, qs.2, qh⟩)
          | (cases hs; exact ⟨lOk_set ql trivial, qs, qh⟩)
          | (cases hs; simp only [sOk_cons] at qs ⊢; exact ⟨ql, ⟨qs.1, qs.1, qs.2⟩, qh⟩)
          | (cases hs; simp only [sOk_cons] at qs ⊢; exact ⟨ql, ⟨qs.1, qs.2.1, qs.1, qs.2.1, qs.2.2⟩, qh⟩)
          | skip)
