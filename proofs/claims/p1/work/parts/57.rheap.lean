section
variable {L : Nat} {xs : Nat → Int32} {k : Nat} {ad : Nat → Nat} {fs0 : List Value} {M : Nat → Nat → Nat} {h : List mCel}
def rFs (fs0 : List Value) (M : Nat → Nat → Nat) : List Value := (fs0.set 20 (.int (Int32.ofNat (M 3 0)))).set 21 (.int (Int32.ofNat (M 3 1)))
def rTy (r : Nat) : Nat := if r = 2 then 1 else 0
def rRow (M : Nat → Nat → Nat) (r : Nat) : mCel := .inl (rTy r, 4096, .inl (fun j => Int32.ofNat (M r j)))
/-- the reference's rows and numbers of a search in the heap: costs, queue, flags, and the object itself at ad 3 -/
def rH (ad : Nat → Nat) (fs0 : List Value) (M : Nat → Nat → Nat) (h : List mCel) : Prop := (∀ r, r < 3 → mCell h (ad r) = some (rRow M r)) ∧ mCell h (ad 3) = some (.inr (11, rFs fs0 M)) ∧ (∀ r s, r < 4 → s < 4 → r ≠ s → ad r ≠ ad s) ∧
  fs0.length = 46 ∧ fs0[19]? = some (.ref (ad 0)) ∧ fs0[22]? = some (.ref (ad 1)) ∧ fs0[23]? = some (.ref (ad 2))
def rAd (ad : Nat → Nat) (a : Nat) : Prop := ∃ r, r < 4 ∧ a = ad r
theorem r_keep {h' : List mCel} {P : Nat → Prop} (Q : rH ad fs0 M h) (K : mKeep P h h') (hp : ∀ r, r < 4 → ¬ P (ad r)) : rH ad fs0 M h' :=
  ⟨fun r hr => (K.2.2 _ (hp r (by omega))).trans (Q.1 r hr), (K.2.2 _ (hp 3 (by omega))).trans Q.2.1, Q.2.2⟩
theorem rfs_get {i : Nat} (h20 : i ≠ 20) (h21 : i ≠ 21) : (rFs fs0 M)[i]? = fs0[i]? := by
  unfold rFs; rw [List.getElem?_set_ne (Ne.symm h21), List.getElem?_set_ne (Ne.symm h20)]
theorem r_F (Q : rH ad fs0 M h) {i : Nat} {v : Value} {f : Value → Option mOut} (h20 : i ≠ 20) (h21 : i ≠ 21) (hv : fs0[i]? = some v) : kF (mCell h (ad 3)) 11 i f = f v := kF_eq Q.2.1 (by rw [rfs_get h20 h21, hv])
theorem r_F19 (Q : rH ad fs0 M h) {f : Value → Option mOut} : kF (mCell h (ad 3)) 11 19 f = f (.ref (ad 0)) := r_F Q (by decide) (by decide) Q.2.2.2.2.1
theorem r_F22 (Q : rH ad fs0 M h) {f : Value → Option mOut} : kF (mCell h (ad 3)) 11 22 f = f (.ref (ad 1)) := r_F Q (by decide) (by decide) Q.2.2.2.2.2.1
theorem r_F23 (Q : rH ad fs0 M h) {f : Value → Option mOut} : kF (mCell h (ad 3)) 11 23 f = f (.ref (ad 2)) := r_F Q (by decide) (by decide) Q.2.2.2.2.2.2
theorem r_F20 (Q : rH ad fs0 M h) {f : Value → Option mOut} : kF (mCell h (ad 3)) 11 20 f = f (.int (Int32.ofNat (M 3 0))) := kF_eq Q.2.1 (by
  have := Q.2.2.2.1
  unfold rFs; rw [List.getElem?_set_ne (by decide), List.getElem?_set_self (by omega)])
theorem r_F21 (Q : rH ad fs0 M h) {f : Value → Option mOut} : kF (mCell h (ad 3)) 11 21 f = f (.int (Int32.ofNat (M 3 1))) := kF_eq Q.2.1 (by
  have := Q.2.2.2.1
  unfold rFs; rw [List.getElem?_set_self (by rw [List.length_set]; omega)])
theorem r_R (Q : rH ad fs0 M h) : kR (mCell h (ad 3)) 11 = true := kR_eq Q.2.1
theorem r_len (Q : rH ad fs0 M h) : (rFs fs0 M).length = 46 := by unfold rFs; rw [List.length_set, List.length_set, Q.2.2.2.1]
theorem r_P (Q : rH ad fs0 M h) {i : Nat} {f : List Value → Option mOut} (hi : i < 46) : kP (mCell h (ad 3)) 11 i f = f (rFs fs0 M) := kP_eq Q.2.1 (by rw [r_len Q]; exact hi)
theorem r_in {j : Nat} (hj : j < 4096) : 0 ≤ (Int32.ofNat j).toInt ∧ (Int32.ofNat j).toInt < (4096 : Nat) := by rw [oi_int (by omega)]; omega
theorem r_A (Q : rH ad fs0 M h) {r j : Nat} (hr : r < 2) (hj : j < 4096) {f : Int32 → Option mOut} : kIA (mRo L xs) h (ad r) (Int32.ofNat j) f = f (Int32.ofNat (M r j)) := by
  have := Q.1 r (by omega)
  unfold rRow rTy at this
  rw [if_neg (by omega)] at this
  rw [kIA_int this (r_in hj), oi_nat (by omega)]
theorem r_B (Q : rH ad fs0 M h) {j : Nat} (hj : j < 4096) {f : Int32 → Option mOut} : kBA h (ad 2) (Int32.ofNat j) f = f (Int32.ofNat (M 2 j)) := by
  rw [kBA_bool (Q.1 2 (by omega)) (r_in hj), oi_nat (by omega)]
theorem r_S (Q : rH ad fs0 M h) {r j : Nat} (hr : r < 2) (hj : j < 4096) {f : Nat → (Nat → Int32) → Option mOut} : kIS h (ad r) (Int32.ofNat j) f = f 4096 (fun j => Int32.ofNat (M r j)) := by
  have := Q.1 r (by omega)
  unfold rRow rTy at this
  rw [if_neg (by omega)] at this
  unfold kIS; rw [this]; simp only [if_pos (r_in hj)]
theorem r_SB (Q : rH ad fs0 M h) {j : Nat} (hj : j < 4096) {f : Nat → (Nat → Int32) → Option mOut} : kBS h (ad 2) (Int32.ofNat j) f = f 4096 (fun j => Int32.ofNat (M 2 j)) := by
  have := Q.1 2 (by omega)
  unfold rRow rTy at this
  rw [if_pos rfl] at this
  unfold kBS; rw [this]; simp only [if_pos (r_in hj)]
theorem r_put (Q : rH ad fs0 M h) {r j v t : Nat} {w : Int32} (hr : r < 3) (hj : j < 4096) (ht : t = rTy r) (hw : w = Int32.ofNat v) :
    rH ad fs0 (nu M r j v) (h.set (ad r - 8) (.inl (t, 4096, .inl (upd (fun j => Int32.ofNat (M r j)) (Int32.ofNat j).toNatClampNeg w)))) := by
  have h8 := (cell_8 (Q.1 r hr)).1
  refine ⟨fun r' hr' => ?_, ?_, Q.2.2⟩
  · by_cases e : r' = r
    · subst e
      rw [cell_set (Q.1 r' hr)]
      simp only [rRow, oi_nat (show j < 2 ^ 31 by omega), hw, ht]
      congr 5
      funext i; unfold upd nu
      by_cases z : i = j
      · subst z; simp
      · simp [z]
    · rw [cell_setne (Q.2.2.1 r r' (by omega) (by omega) (Ne.symm e)) h8, Q.1 r' hr']
      simp only [rRow, nu_row e]
  · rw [cell_setne (Q.2.2.1 r 3 (by omega) (by omega) (by omega)) h8, Q.2.1]
    simp only [rFs, nu_row (show 3 ≠ r by omega)]
theorem r_putK (Q : rH ad fs0 M h) {r t : Nat} {f : Nat → Int32} (hr : r < 3) : mKeep (rAd ad) h (h.set (ad r - 8) (.inl (t, 4096, .inl f))) :=
  keep_set (Q.1 r hr) rfl ⟨r, by omega, rfl⟩
theorem r_num (Q : rH ad fs0 M h) {i v : Nat} {w : Int32} (hi : i < 2) (hw : w = Int32.ofNat v) :
    rH ad fs0 (nu M 3 i v) (h.set (ad 3 - 8) (.inr (11, (rFs fs0 M).set (20 + i) (.int w)))) := by
  have h8 := (cell_8 Q.2.1).1
  refine ⟨fun r hr => ?_, ?_, Q.2.2⟩
  · rw [cell_setne (Q.2.2.1 3 r (by omega) (by omega) (by omega)) h8, Q.1 r hr]
    simp only [rRow, nu_row (show r ≠ 3 by omega)]
  · rw [cell_set Q.2.1]
    obtain rfl | rfl : i = 0 ∨ i = 1 := by omega
    · unfold rFs
      rw [nu_eq, nu_ne (by decide), List.set_comm _ _ (show 21 ≠ 20 by decide), List.set_set, hw]
    · unfold rFs
      rw [nu_eq, nu_ne (by decide), List.set_set, hw]
theorem r_numK (Q : rH ad fs0 M h) {fs : List Value} (hf : fs.length = 46) : mKeep (rAd ad) h (h.set (ad 3 - 8) (.inr (11, fs))) :=
  keep_set Q.2.1 (by simp only [hz1, hf, r_len Q]) ⟨3, by omega, rfl⟩
theorem d_lowers (Q : rH ad fs0 M h) (I : RI M) {s c : Nat} (hs : s < 4096) (hc : c < 2 ^ 31) :
    ∃ h', mW (mRo L xs) mTab 116 0 [some (.ref (ad 3)), some (.int (Int32.ofNat s)), some (.int (Int32.ofNat c))] [] h k = some (.inl none, h', k) ∧ mKeep (rAd ad) h h' ∧ rH ad fs0 (rLower M s c) h' := by
  have h6 := I.2.2.2.2.2 s hs
  have hle : (Int32.ofNat (M 0 s) ≤ Int32.ofNat c) = (M 0 s ≤ c) := oi_le (by omega) hc
  rw [e116_0, e116_1, e116_2, r_F19 Q, e116_5, e116_6, r_A Q (by decide) hs, e116_7]
  simp only [hle]
  unfold rLower
  by_cases e : c < M 0 s
  · rw [if_neg (by omega), if_pos e]
    have Q1 := r_put Q (r := 0) (j := s) (v := c) (t := 0) (w := Int32.ofNat c) (by decide) hs rfl rfl
    have K1 := r_putK Q (r := 0) (t := 0) (f := upd (fun j => Int32.ofNat (M 0 j)) (Int32.ofNat s).toNatClampNeg (Int32.ofNat c)) (by decide)
    rw [e116_10, e116_11, r_F19 Q, e116_14, e116_15, e116_16, r_S Q (by decide) hs, e116_17, e116_18, r_F23 Q1, e116_21, e116_22, r_B Q1 hs, e116_23, nu_row (show 2 ≠ 0 by decide)]
    by_cases f : M 2 s = 0
    · rw [if_pos f, f, if_neg (by decide)]
      have Q2 := r_put Q1 (r := 2) (j := s) (v := 1) (t := 1) (w := 1) (by decide) hs rfl rfl
      have K2 := r_putK Q1 (r := 2) (t := 1) (f := upd (fun j => Int32.ofNat (nu M 0 s c 2 j)) (Int32.ofNat s).toNatClampNeg 1) (by decide)
      have g0 : nu (nu M 0 s c) 2 s 1 3 0 = M 3 0 := by rw [nu_row (by decide), nu_row (by decide)]
      have g1 : nu (nu M 0 s c) 2 s 1 3 1 = M 3 1 := by rw [nu_row (by decide), nu_row (by decide)]
      have w8 := ri_wait I
      have q8 := I.2.2.2.1
      have hj : (M 3 0 + M 3 1) % 4096 < 4096 := Nat.mod_lt _ (by decide)
      have Q3 := r_put Q2 (r := 1) (j := (M 3 0 + M 3 1) % 4096) (v := s) (t := 0) (w := Int32.ofNat s) (by decide) hj rfl rfl
      have K3 := r_putK Q2 (r := 1) (t := 0) (f := upd (fun j => Int32.ofNat (nu (nu M 0 s c) 2 s 1 1 j)) (Int32.ofNat ((M 3 0 + M 3 1) % 4096)).toNatClampNeg (Int32.ofNat s)) (by decide)
      have g3 : nu (nu (nu M 0 s c) 2 s 1) 1 ((M 3 0 + M 3 1) % 4096) s 3 1 = M 3 1 := by rw [nu_row (by decide), g1]
      have rem : Int32.ofNat (M 3 0) + Int32.ofNat (M 3 1) - (Int32.ofNat (M 3 0) + Int32.ofNat (M 3 1)) / 4096 * 4096 = Int32.ofNat ((M 3 0 + M 3 1) % 4096) := by
        rw [← oi_add]; exact oi_rem (by omega) (by decide)
      refine ⟨_, ?_, keep_trans (keep_trans (keep_trans K1 K2) K3) (r_numK Q3 ?_), r_num Q3 (i := 1) (v := M 3 1 + 1) (w := Int32.ofNat (M 3 1) + 1) (by decide) (oi_succ _)⟩
      · rw [e116_26, e116_27, r_F23 Q1, e116_30, e116_31, e116_32 (Or.inr rfl), r_SB Q1 hs]
        rw [e116_33, e116_34, r_F22 Q2, e116_37, e116_38, r_F20 Q2, e116_41, e116_42, r_F21 Q2, e116_45, e116_46, e116_49 (by decide), g0, g1, rem, e116_50, e116_51, r_S Q2 (by decide) hj]
        rw [e116_52, e116_53r, e116_54, r_F21 Q3, e116_57, e116_58, e116_59, r_P Q3 (by decide), e116_62, g3]
      · rw [List.length_set, r_len Q3]
    · have f1 : M 2 s = 1 := by have := I.2.2.2.2.1 s hs; omega
      rw [if_neg f, f1, if_pos (by decide), e116_62]
      exact ⟨_, rfl, K1, Q1⟩
  · rw [if_pos (by omega), if_neg e, e116_62]
    exact ⟨h, rfl, keep_refl, Q⟩
end
