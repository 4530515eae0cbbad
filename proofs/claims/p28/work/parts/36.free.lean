theorem bmod_small {n : Int} (h1 : -2147483648 ≤ n) (h2 : n < 2147483648) : n.bmod (2 ^ 32) = n := by
  rw [show (2 ^ 32 : Nat) = 4294967296 from rfl, Int.bmod_def]; split <;> omega
theorem num_of {x : Int32} {n : Nat} (hn : n < 2 ^ 31) (h : 0 ≤ x ∧ x ≤ Int32.ofNat n) : ∃ i, i ≤ n ∧ x = Int32.ofNat i := by
  have h1 := Int32.le_iff_toInt_le.mp h.1
  have h2 := Int32.le_iff_toInt_le.mp h.2
  rw [oi_int hn] at h2
  have h0 : (0 : Int32).toInt = 0 := rfl
  rw [h0] at h1
  refine ⟨x.toInt.toNat, by omega, ?_⟩
  apply Int32.toInt_inj.mp
  rw [oi_int (by omega)]; omega
theorem oi_mul (i j : Nat) : Int32.ofNat (i * j) = Int32.ofNat i * Int32.ofNat j := Int32.ofNat_mul i j
theorem cell_num {x y : Int32} (h : (0 ≤ x ∧ x ≤ 15) ∧ 0 ≤ y ∧ y ≤ 15) : 0 ≤ (16 * y + x).toInt ∧ (16 * y + x).toInt < (256 : Nat) := by
  obtain ⟨i, hi, rfl⟩ := num_of (n := 15) (by decide) h.1
  obtain ⟨j, hj, rfl⟩ := num_of (n := 15) (by decide) h.2
  have : (16 : Int32) * Int32.ofNat j + Int32.ofNat i = Int32.ofNat (16 * j + i) := by rw [oi_add, oi_mul]; rfl
  rw [this, oi_int (by omega)]; omega
section
variable {L : Nat} {xs : Nat → Int32} {h : List mCel} {k : Nat}
def qIn (x y : Int32) : Prop := (0 ≤ x ∧ x ≤ 15) ∧ 0 ≤ y ∧ y ≤ 15
def qSpot (bl : Nat → Int32) (x y g kk : Int32) : Int32 := pB (((0 ≤ x + kk * qSx g ∧ x + kk * qSx g ≤ 15) ∧ 0 ≤ y + kk * qSy g ∧ y + kk * qSy g ≤ 15) ∧ bl (16 * (y + kk * qSy g) + (x + kk * qSx g)).toNatClampNeg = 0)
def qFr (bl : Nat → Int32) (x y g : Int32) : Nat → Int32 → Int32 → Int32
  | 0, s, _ => s
  | t + 1, s, kk => if s = 0 then s else qFr bl x y g t (qSpot bl x y g kk) (kk + 1)
theorem int_succ {v : Int32} (h1 : -1000000 ≤ v.toInt) (h2 : v.toInt ≤ 1000000) : (v + 1).toInt = v.toInt + 1 := by
  rw [Int32.toInt_add, show (1 : Int32).toInt = 1 from rfl]
  exact bmod_small (by omega) (by omega)
end
