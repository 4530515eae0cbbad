theorem kF_eq {o : Option mCel} {c k : Nat} {fs : List Value} {v : Value} {f : Value → Option mOut} (hc : o = some (.inr (c, fs))) (hv : fs[k]? = some v) : kF o c k f = f v := by
  subst hc; unfold kF; simp only [if_true, hv]
theorem kP_eq {o : Option mCel} {c k : Nat} {fs : List Value} {f : List Value → Option mOut} (hc : o = some (.inr (c, fs))) (hl : k < fs.length) : kP o c k f = f fs := by
  subst hc; unfold kP; simp only [hl, and_self, if_true]
theorem kR_eq {o : Option mCel} {c : Nat} {fs : List Value} (hc : o = some (.inr (c, fs))) : kR o c = true := by
  subst hc; unfold kR; simp
section
variable {L : Nat} {xs : Nat → Int32} {h : List mCel} {k : Nat}
def qT (P1 P2 P3 : Prop) [Decidable P1] [Decidable P2] [Decidable P3] : Int32 := if P1 then (if P2 then (if P3 then 0 else 3) else 2) else 1
end
