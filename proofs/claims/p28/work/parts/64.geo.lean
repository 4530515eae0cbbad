/-- all below a number, by evaluation -/
def allB : Nat → (Nat → Bool) → Bool
  | 0, _ => true
  | n + 1, f => f n && allB n f
theorem allB_get {f : Nat → Bool} : ∀ {n : Nat}, allB n f = true → ∀ i, i < n → f i = true
  | 0, _, i, hi => absurd hi (by omega)
  | n + 1, h, i, hi => by
    unfold allB at h
    rw [Bool.and_eq_true] at h
    by_cases e : i = n
    · rw [e]; exact h.1
    · exact allB_get h.2 i (by omega)
def allP (f : Nat → Bool) : Bool := allB 8 fun g => allB 16 fun y => allB 16 fun x => f (256 * g + 16 * y + x)
theorem allP_get {f : Nat → Bool} (h : allP f = true) {p : Nat} (hp : p < 2048) : f p = true := by
  have := allB_get (allB_get (allB_get h (p / 256) (by omega)) (p / 16 % 16) (by omega)) (p % 16) (by omega)
  rwa [show 256 * (p / 256) + 16 * (p / 16 % 16) + p % 16 = p by omega] at this
def dxN (g : Nat) : Nat := match g with | 0 => 2 | 1 => 2 | 2 => 1 | 3 => 0 | 4 => 0 | 5 => 0 | 6 => 1 | _ => 2
def dyN (g : Nat) : Nat := match g with | 0 => 1 | 1 => 2 | 2 => 2 | 3 => 2 | 4 => 1 | _ => 0
/-- one step on (0) or back (1), shifted by 1; 0 off the field -/
def stN (p w : Nat) : Nat :=
  if 1 ≤ p % 16 + (if w = 0 then dxN (p / 256) else 2 - dxN (p / 256)) ∧ p % 16 + (if w = 0 then dxN (p / 256) else 2 - dxN (p / 256)) ≤ 16 ∧ 1 ≤ p / 16 % 16 + (if w = 0 then dyN (p / 256) else 2 - dyN (p / 256)) ∧ p / 16 % 16 + (if w = 0 then dyN (p / 256) else 2 - dyN (p / 256)) ≤ 16
  then 256 * (p / 256) + 16 * (p / 16 % 16 + (if w = 0 then dyN (p / 256) else 2 - dyN (p / 256)) - 1) + (p % 16 + (if w = 0 then dxN (p / 256) else 2 - dxN (p / 256)) - 1) + 1 else 0
def tuN (p m : Nat) : Nat := 256 * ((p / 256 + (if m = 1 ∨ m = 5 then 7 else 1)) % 8) + p % 256
def enN (p m : Nat) : Nat :=
  if stN p (gear m) = 0 then 0 else if m % 3 = 0 then stN p (gear m) else stN (tuN (stN p (gear m) - 1) m) (gear m)
def wtN (p m : Nat) : Nat := if m % 3 = 0 then (if p / 256 % 2 = 0 then 10 else 14) else 24
theorem ck_step : allP (fun p => allB 2 fun w => decide (pStepped (Int32.ofNat p) (if w = 0 then 1 else -1) = qDec 1 (stN p w))) = true := by decide +kernel
theorem ck_turn : allP (fun p => allB 6 fun m => decide (m % 3 = 0 ∨ pTurned (Int32.ofNat p) (Int32.ofNat m) = Int32.ofNat (tuN p m))) = true := by decide +kernel
theorem ck_wt : allP (fun p => allB 6 fun m => decide (pSteps (pH (Int32.ofNat p)) (Int32.ofNat m) = Int32.ofNat (wtN p m))) = true := by decide +kernel
theorem ck_back : allP (fun p => allB 2 fun w => decide (stN p w = 0 ∨ stN (stN p w - 1) (1 - w) = p + 1)) = true := by decide +kernel
theorem ck_tt : allP (fun p => allB 6 fun m => decide (m % 3 = 0 ∨ tuN (tuN p m) ((m + 3) % 6) = p)) = true := by decide +kernel
