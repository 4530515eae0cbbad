section
variable {L : Nat} {xs : Nat → Int32} {k : Nat}
theorem vX_succ (x : Int32) (g k n : Nat) : x + vX g k n + qFx (Int32.ofNat (hdN g k n)) (Int32.ofNat k) = x + vX g k (n + 1) := by
  rw [Int32.add_assoc]; unfold vX; rw [vS]
theorem vY_succ (x : Int32) (g k n : Nat) : x + vY g k n + qFy (Int32.ofNat (hdN g k n)) (Int32.ofNat k) = x + vY g k (n + 1) := by
  rw [Int32.add_assoc]; unfold vY; rw [vS]
end
