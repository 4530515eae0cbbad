section
variable {L : Nat} {xs : Nat → Int32} {h : List mCel} {k : Nat}
def qFreeAt (bl : Nat → Int32) (fr be x y g : Int32) : Int32 := qFr bl x y g (fr.toInt + be.toInt + 1).toNat 1 (-be)
def qMid (p m : Int32) : Int32 × Int32 := (qRem p 16 + (if 2 < m then -1 else 1) * qSx (p / 256), qRem p 256 / 16 + (if 2 < m then -1 else 1) * qSy (p / 256))
def qCan (bl : Nat → Int32) (fr be p m : Int32) : Prop := qEnd p m ≠ -1 ∧ qFreeAt bl fr be (qRem p 16) (qRem p 256 / 16) (p / 256) ≠ 0 ∧ qFreeAt bl fr be (qRem (qEnd p m) 16) (qRem (qEnd p m) 256 / 16) (qEnd p m / 256) ≠ 0 ∧
  (qRem m 3 = 0 ∨ (qFreeAt bl fr be (qMid p m).1 (qMid p m).2 (p / 256) ≠ 0 ∧ qFreeAt bl fr be (qMid p m).1 (qMid p m).2 (qEnd p m / 256) ≠ 0))
end
