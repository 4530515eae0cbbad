section
variable {L : Nat} {xs : Nat → Int32} {k : Nat} {ad : Nat → Nat} {fs0 : List Value} {M : Nat → Nat → Nat} {h : List mCel}
def rFs (fs0 : List Value) (M : Nat → Nat → Nat) : List Value := (fs0.set 20 (.int (Int32.ofNat (M 3 0)))).set 21 (.int (Int32.ofNat (M 3 1)))
def rTy (r : Nat) : Nat := if r = 2 then 1 else 0
def rRow (M : Nat → Nat → Nat) (r : Nat) : mCel := .inl (rTy r, 4096, .inl (fun j => Int32.ofNat (M r j)))
/-- the reference's rows and numbers of a search in the heap: costs, queue, flags, and the object itself at ad 3 -/
def rH (ad : Nat → Nat) (fs0 : List Value) (M : Nat → Nat → Nat) (h : List mCel) : Prop := (∀ r, r < 3 → mCell h (ad r) = some (rRow M r)) ∧ mCell h (ad 3) = some (.inr (11, rFs fs0 M)) ∧ (∀ r s, r < 4 → s < 4 → r ≠ s → ad r ≠ ad s) ∧
  fs0.length = 46 ∧ fs0[19]? = some (.ref (ad 0)) ∧ fs0[22]? = some (.ref (ad 1)) ∧ fs0[23]? = some (.ref (ad 2))
def rAd (ad : Nat → Nat) (a : Nat) : Prop := ∃ r, r < 4 ∧ a = ad r
theorem r_keep {h' : List mCel} {P : Nat → Prop} (Q : rH ad fs0 M h) (K : mKeep P h h') (hp : ∀ r, r < 4 → ¬ P (ad r)) : rH ad fs0 M h' :=
  ⟨fun r hr => (K.2.2 _ (hp r (by omega))).trans (Q.1 r hr), (K.2.2 _ (hp 3 (by omega))).trans Q.2.1, Q.2.2⟩
theorem rfs_get {i : Nat} (h20 : i ≠ 20) (h21 : i ≠ 21) : (rFs fs0 M)[i]? = fs0[i]? := by
  unfold rFs; rw [List.getElem?_set_ne (Ne.symm h21), List.getElem?_set_ne (Ne.symm h20)]
theorem r_F (Q : rH ad fs0 M h) {i : Nat} {v : Value} {f : Value → Option mOut} (h20 : i ≠ 20) (h21 : i ≠ 21) (hv : fs0[i]? = some v) : kF (mCell h (ad 3)) 11 i f = f v := kF_eq Q.2.1 (by rw [rfs_get h20 h21, hv])
theorem r_F19 (Q : rH ad fs0 M h) {f : Value → Option mOut} : kF (mCell h (ad 3)) 11 19 f = f (.ref (ad 0)) := r_F Q (by decide) (by decide) Q.2.2.2.2.1
theorem r_F22 (Q : rH ad fs0 M h) {f : Value → Option mOut} : kF (mCell h (ad 3)) 11 22 f = f (.ref (ad 1)) := r_F Q (by decide) (by decide) Q.2.2.2.2.2.1
theorem r_F23 (Q : rH ad fs0 M h) {f : Value → Option mOut} : kF (mCell h (ad 3)) 11 23 f = f (.ref (ad 2)) := r_F Q (by decide) (by decide) Q.2.2.2.2.2.2
theorem r_F20 (Q : rH ad fs0 M h) {f : Value → Option mOut} : kF (mCell h (ad 3)) 11 20 f = f (.int (Int32.ofNat (M 3 0))) := kF_eq Q.2.1 (by
  have := Q.2.2.2.1
  unfold rFs; rw [List.getElem?_set_ne (by decide), List.getElem?_set_self (by omega)])
theorem r_F21 (Q : rH ad fs0 M h) {f : Value → Option mOut} : kF (mCell h (ad 3)) 11 21 f = f (.int (Int32.ofNat (M 3 1))) := kF_eq Q.2.1 (by
  have := Q.2.2.2.1
  unfold rFs; rw [List.getElem?_set_self (by rw [List.length_set]; omega)])
theorem r_R (Q : rH ad fs0 M h) : kR (mCell h (ad 3)) 11 = true := kR_eq Q.2.1
theorem r_len (Q : rH ad fs0 M h) : (rFs fs0 M).length = 46 := by unfold rFs; rw [List.length_set, List.length_set, Q.2.2.2.1]
theorem r_P (Q : rH ad fs0 M h) {i : Nat} {f : List Value → Option mOut} (hi : i < 46) : kP (mCell h (ad 3)) 11 i f = f (rFs fs0 M) := kP_eq Q.2.1 (by rw [r_len Q]; exact hi)
theorem r_in {j : Nat} (hj : j < 4096) : 0 ≤ (Int32.ofNat j).toInt ∧ (Int32.ofNat j).toInt < (4096 : Nat) := by rw [oi_int (by omega)]; omega
theorem r_A (Q : rH ad fs0 M h) {r j : Nat} (hr : r < 2) (hj : j < 4096) {f : Int32 → Option mOut} : kIA (mRo L xs) h (ad r) (Int32.ofNat j) f = f (Int32.ofNat (M r j)) := by
  have := Q.1 r (by omega)
  unfold rRow rTy at this
  rw [if_neg (by omega)] at this
  rw [kIA_int this (r_in hj), oi_nat (by omega)]
theorem r_B (Q : rH ad fs0 M h) {j : Nat} (hj : j < 4096) {f : Int32 → Option mOut} : kBA h (ad 2) (Int32.ofNat j) f = f (Int32.ofNat (M 2 j)) := by
  rw [kBA_bool (Q.1 2 (by omega)) (r_in hj), oi_nat (by omega)]
theorem r_S (Q : rH ad fs0 M h) {r j : Nat} (hr : r < 2) (hj : j < 4096) {f : Nat → (Nat → Int32) → Option mOut} : kIS h (ad r) (Int32.ofNat j) f = f 4096 (fun j => Int32.ofNat (M r j)) := by
  have := Q.1 r (by omega)
  unfold rRow rTy at this
  rw [if_neg (by omega)] at this
  unfold kIS; rw [this]; simp only [if_pos (r_in hj)]
theorem r_SB (Q : rH ad fs0 M h) {j : Nat} (hj : j < 4096) {f : Nat → (Nat → Int32) → Option mOut} : kBS h (ad 2) (Int32.ofNat j) f = f 4096 (fun j => Int32.ofNat (M 2 j)) := by
  have := Q.1 2 (by omega)
  unfold rRow rTy at this
  rw [if_pos rfl] at this
  unfold kBS; rw [this]; simp only [if_pos (r_in hj)]
theorem r_put (Q : rH ad fs0 M h) {r j v t : Nat} {w : Int32} (hr : r < 3) (hj : j < 4096) (ht : t = rTy r) (hw : w = Int32.ofNat v) :
    rH ad fs0 (nu M r j v) (h.set (ad r - 8) (.inl (t, 4096, .inl (upd (fun j => Int32.ofNat (M r j)) (Int32.ofNat j).toNatClampNeg w)))) := by
  have h8 := (cell_8 (Q.1 r hr)).1
  refine ⟨fun r' hr' => ?_, ?_, Q.2.2⟩
  · by_cases e : r' = r
    · subst e
      rw [cell_set (Q.1 r' hr)]
      simp only [rRow, oi_nat (show j < 2 ^ 31 by omega), hw, ht]
      congr 5
      funext i; unfold upd nu
      by_cases z : i = j
      · subst z; simp
      · simp [z]
    · rw [cell_setne (Q.2.2.1 r r' (by omega) (by omega) (Ne.symm e)) h8, Q.1 r' hr']
      simp only [rRow, nu_row e]
  · rw [cell_setne (Q.2.2.1 r 3 (by omega) (by omega) (by omega)) h8, Q.2.1]
    simp only [rFs, nu_row (show 3 ≠ r by omega)]
theorem r_putK (Q : rH ad fs0 M h) {r t : Nat} {f : Nat → Int32} (hr : r < 3) : mKeep (rAd ad) h (h.set (ad r - 8) (.inl (t, 4096, .inl f))) :=
  keep_set (Q.1 r hr) rfl ⟨r, by omega, rfl⟩
theorem r_num (Q : rH ad fs0 M h) {i v : Nat} {w : Int32} (hi : i < 2) (hw : w = Int32.ofNat v) :
    rH ad fs0 (nu M 3 i v) (h.set (ad 3 - 8) (.inr (11, (rFs fs0 M).set (20 + i) (.int w)))) := by
  have h8 := (cell_8 Q.2.1).1
  refine ⟨fun r hr => ?_, ?_, Q.2.2⟩
  · rw [cell_setne (Q.2.2.1 3 r (by omega) (by omega) (by omega)) h8, Q.1 r hr]
    simp only [rRow, nu_row (show r ≠ 3 by omega)]
  · rw [cell_set Q.2.1]
    obtain rfl | rfl : i = 0 ∨ i = 1 := by omega
    · unfold rFs
      rw [nu_eq, nu_ne (by decide), List.set_comm _ _ (show 21 ≠ 20 by decide), List.set_set, hw]
    · unfold rFs
      rw [nu_eq, nu_ne (by decide), List.set_set, hw]
theorem r_numK (Q : rH ad fs0 M h) {fs : List Value} (hf : fs.length = 46) : mKeep (rAd ad) h (h.set (ad 3 - 8) (.inr (11, fs))) :=
  keep_set Q.2.1 (by simp only [hz1, hf, r_len Q]) ⟨3, by omega, rfl⟩
end
