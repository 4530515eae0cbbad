section
variable {L : Nat} {xs : Nat → Int32} {k : Nat} {ad : Nat → Nat} {fs0 : List Value} {M : Nat → Nat → Nat} {h : List mCel} {ca cl cu : Nat} {fcan fc : Nat → Int32} {mg : Int32}
end
