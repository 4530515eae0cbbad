theorem kF_eq {o : Option mCel} {c k : Nat} {fs : List Value} {v : Value} {f : Value → Option mOut} (hc : o = some (.inr (c, fs))) (hv : fs[k]? = some v) : kF o c k f = f v := by
  subst hc; unfold kF; simp only [if_true, hv]
theorem kP_eq {o : Option mCel} {c k : Nat} {fs : List Value} {f : List Value → Option mOut} (hc : o = some (.inr (c, fs))) (hl : k < fs.length) : kP o c k f = f fs := by
  subst hc; unfold kP; simp only [hl, and_self, if_true]
theorem kR_eq {o : Option mCel} {c : Nat} {fs : List Value} (hc : o = some (.inr (c, fs))) : kR o c = true := by
  subst hc; unfold kR; simp
section
variable {L : Nat} {xs : Nat → Int32} {h : List mCel} {k : Nat}
def qT (P1 P2 P3 : Prop) [Decidable P1] [Decidable P2] [Decidable P3] : Int32 := if P1 then (if P2 then (if P3 then 0 else 3) else 2) else 1
theorem d_goes {a : Nat} {fs : List Value} {P1 P2 P3 : Prop} [Decidable P1] [Decidable P2] [Decidable P3] (hc : mCell h a = some (.inr (11, fs))) (hl : fs.length = 46) :
    mW (mRo L xs) mTab 95 0 [some (.ref a), some (.int (pB P1)), some (.int (pB P2)), some (.int (pB P3))] [] h k = some (.inl (some (.int (pB (P1 ∧ P2 ∧ P3)))), h.set (a - 8) (.inr (11, fs.set 45 (.int (qT P1 P2 P3)))), k) := by
  have h0 : ∀ (v : Value) (f : List Value → Option mOut), kP (mCell h a) 11 45 f = f fs := fun v f => kP_eq hc (by omega)
  have h1 : ∀ (v : Value) (f : Value → Option mOut), kF (mCell (h.set (a - 8) (.inr (11, fs.set 45 v))) a) 11 45 f = f v := fun v f => kF_eq (cell_set hc) (by rw [List.getElem?_set_self (by omega)])
  simp only [e95_0, e95_1, e95_2, e95_5, e95_6, e95_9, e95_10, e95_13, e95_14, e95_17, e95_18, e95_21, e95_22, e95_25, e95_26, e95_29, e95_30, e95_33, e95_36, e95_37, e95_40, e95_41 (Or.inl rfl), e95_41 (Or.inr rfl), pB_eq0, h0 .null, h1, qT]
  by_cases p1 : P1
  · by_cases p2 : P2
    · by_cases p3 : P3 <;> simp [p1, p2, p3, pB]
    · simp [p1, p2, pB]
  · simp [p1, pB]
theorem d_thrown {a : Nat} {fs : List Value} {v : Int32} (hc : mCell h a = some (.inr (11, fs))) (hv : fs[45]? = some (.int v)) : mW (mRo L xs) mTab 137 0 [some (.ref a)] [] h k = some (.inl (some (.int v)), h, k) := by
  simp only [e137_0, e137_1, e137_4, kF_eq hc hv]
end
