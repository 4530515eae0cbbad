section
/-- what a move costs: its steps, and 5 for each cell that is missing to the margin -/
def wtG (mg : Nat) (cN : Nat → Nat) (p m q : Nat) : Nat := wtN p m + 5 * (mg - cN (q % 256))
theorem pAt_nat {fc : Nat → Int32} {q : Nat} (hq : q < 2048) : pAt fc (Int32.ofNat q) = fc (q % 256) := by
  unfold pAt
  have : (Int32.ofNat q &&& 255).toNatClampNeg = q % 256 := by
    have h1 : Int32.ofNat q &&& 255 = Int32.ofNat (q % 256) := oi_and255 (by omega)
    rw [h1, oi_nat (by omega)]
  rw [this]
theorem geoW_G {fc : Nat → Int32} {cN : Nat → Nat} {mg : Nat} (hmg : mg ≤ 5) (hc : ∀ c, c < 256 → fc c = Int32.ofNat (cN c) ∧ cN c ≤ 16) : geoW fc (Int32.ofNat mg) (wtG mg cN) := by
  intro p m q hp hm hq
  obtain ⟨h1, h2⟩ := hc (q % 256) (by omega)
  have hw := wt_le p m
  refine ⟨?_, by unfold wtG; omega⟩
  unfold pOf wtG
  rw [wt_eq hp hm, pAt_nat hq, h1]
  rcases Nat.lt_or_ge (cN (q % 256)) mg with h | h
  · have e1 : Int32.ofNat mg - Int32.ofNat (cN (q % 256)) = Int32.ofNat (mg - cN (q % 256)) := oi_sub (by omega)
    have e2 : (0 : Int32) < Int32.ofNat (mg - cN (q % 256)) := by
      rw [show (0 : Int32) = Int32.ofNat 0 from rfl, oi_lt (by decide) (by omega)]; omega
    rw [e1, if_pos e2, show (5 : Int32) = Int32.ofNat 5 from rfl, ← oi_mul, ← oi_add]
  · have e2 : ¬ (0 : Int32) < Int32.ofNat mg - Int32.ofNat (cN (q % 256)) := by
      intro z
      rw [Int32.lt_iff_toInt_lt] at z
      have e3 : (Int32.ofNat mg - Int32.ofNat (cN (q % 256))).toInt = (mg : Int) - cN (q % 256) := by
        rw [Int32.toInt_sub, oi_int (by omega), oi_int (by omega)]
        exact Int.bmod_eq_of_le (by omega) (by omega)
      rw [e3] at z
      have : (0 : Int32).toInt = 0 := rfl
      omega
    rw [if_neg e2, show mg - cN (q % 256) = 0 by omega]
    simp
end
