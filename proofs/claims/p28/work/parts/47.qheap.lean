section
variable {L : Nat} {xs : Nat → Int32} {k : Nat}
/-- two heaps of one shape that differ at the places of P alone -/
def mKeep (P : Nat → Prop) (h h' : List mCel) : Prop := h'.length = h.length ∧ hz h' = hz h ∧ ∀ a, ¬ P a → mCell h' a = mCell h a
theorem keep_refl {P : Nat → Prop} {h : List mCel} : mKeep P h h := ⟨rfl, rfl, fun _ _ => rfl⟩
theorem keep_trans {P : Nat → Prop} {h h' h'' : List mCel} (a : mKeep P h h') (b : mKeep P h' h'') : mKeep P h h'' :=
  ⟨b.1.trans a.1, b.2.1.trans a.2.1, fun x hx => (b.2.2 x hx).trans (a.2.2 x hx)⟩
theorem keep_mono {P Q : Nat → Prop} {h h' : List mCel} (a : mKeep P h h') (hp : ∀ x, P x → Q x) : mKeep Q h h' :=
  ⟨a.1, a.2.1, fun x hx => a.2.2 x (fun z => hx (hp x z))⟩
theorem keep_set {P : Nat → Prop} {h : List mCel} {a : Nat} {c d : mCel} (hc : mCell h a = some c) (hs : hz1 d = hz1 c) (hp : P a) : mKeep P h (h.set (a - 8) d) := by
  have h8 := (cell_8 hc).1
  refine ⟨List.length_set .., hz_set h (a - 8) d c ?_ hs, fun x hx => cell_setne (fun z => hx (z ▸ hp)) h8⟩
  unfold mCell at hc
  rw [if_neg (by omega)] at hc
  exact hc
def qDec (r v : Nat) : Int32 := if r = 0 then Int32.ofNat v else Int32.ofNat v + (-1)
def qLen (r : Nat) : Nat := if r = 3 then 256 else 4096
def qRowC (N : Nat → Nat → Nat) (r : Nat) : mCel := .inl (0, qLen r, .inl (fun j => qDec r (N r j)))
def qObjC (ad : Nat → Nat) (N : Nat → Nat → Nat) : mCel := .inr (5, [.ref (ad 0), .ref (ad 1), .ref (ad 2), .ref (ad 3), .int (Int32.ofNat (N 4 0)), .int (Int32.ofNat (N 4 1))])
/-- a queue in the heap: its four rows at ad 0 to ad 3, itself at ad 4 -/
def qH (ad : Nat → Nat) (N : Nat → Nat → Nat) (h : List mCel) : Prop := (∀ r, r < 4 → mCell h (ad r) = some (qRowC N r)) ∧ mCell h (ad 4) = some (qObjC ad N) ∧ ∀ r s, r < 5 → s < 5 → r ≠ s → ad r ≠ ad s
def qAd (ad : Nat → Nat) (a : Nat) : Prop := ∃ r, r < 5 ∧ a = ad r
variable {ad : Nat → Nat} {N : Nat → Nat → Nat} {h : List mCel}
theorem q_keep {h' : List mCel} {P : Nat → Prop} (Q : qH ad N h) (K : mKeep P h h') (hp : ∀ r, r < 5 → ¬ P (ad r)) : qH ad N h' :=
  ⟨fun r hr => (K.2.2 _ (hp r (by omega))).trans (Q.1 r hr), (K.2.2 _ (hp 4 (by omega))).trans Q.2.1, Q.2.2⟩
theorem q_obj (Q : qH ad N h) : mCell h (ad 4) = some (.inr (5, [.ref (ad 0), .ref (ad 1), .ref (ad 2), .ref (ad 3), .int (Int32.ofNat (N 4 0)), .int (Int32.ofNat (N 4 1))])) := Q.2.1
theorem q_R (Q : qH ad N h) : kR (mCell h (ad 4)) 5 = true := kR_eq (q_obj Q)
theorem q_F0 (Q : qH ad N h) {f : Value → Option mOut} : kF (mCell h (ad 4)) 5 0 f = f (.ref (ad 0)) := kF_eq (q_obj Q) rfl
theorem q_F1 (Q : qH ad N h) {f : Value → Option mOut} : kF (mCell h (ad 4)) 5 1 f = f (.ref (ad 1)) := kF_eq (q_obj Q) rfl
theorem q_F2 (Q : qH ad N h) {f : Value → Option mOut} : kF (mCell h (ad 4)) 5 2 f = f (.ref (ad 2)) := kF_eq (q_obj Q) rfl
theorem q_F3 (Q : qH ad N h) {f : Value → Option mOut} : kF (mCell h (ad 4)) 5 3 f = f (.ref (ad 3)) := kF_eq (q_obj Q) rfl
theorem q_F4 (Q : qH ad N h) {f : Value → Option mOut} : kF (mCell h (ad 4)) 5 4 f = f (.int (Int32.ofNat (N 4 0))) := kF_eq (q_obj Q) rfl
theorem q_F5 (Q : qH ad N h) {f : Value → Option mOut} : kF (mCell h (ad 4)) 5 5 f = f (.int (Int32.ofNat (N 4 1))) := kF_eq (q_obj Q) rfl
theorem q_P (Q : qH ad N h) {i : Nat} {f : List Value → Option mOut} (hi : i < 6) : kP (mCell h (ad 4)) 5 i f = f [.ref (ad 0), .ref (ad 1), .ref (ad 2), .ref (ad 3), .int (Int32.ofNat (N 4 0)), .int (Int32.ofNat (N 4 1))] := kP_eq (q_obj Q) hi
theorem q_AL (Q : qH ad N h) {r : Nat} (hr : r < 4) {f : Int32 → Option mOut} : kAL (mRo L xs) h (ad r) f = f (Int32.ofNat (qLen r)) := kAL_int (Q.1 r hr)
theorem q_in {r j : Nat} (hj : j < qLen r) : 0 ≤ (Int32.ofNat j).toInt ∧ (Int32.ofNat j).toInt < (qLen r : Nat) := by
  have : qLen r ≤ 4096 := by unfold qLen; split <;> omega
  rw [oi_int (by omega)]; omega
theorem q_A (Q : qH ad N h) {r j : Nat} (hr : r < 4) (hj : j < qLen r) {f : Int32 → Option mOut} : kIA (mRo L xs) h (ad r) (Int32.ofNat j) f = f (qDec r (N r j)) := by
  have : qLen r ≤ 4096 := by unfold qLen; split <;> omega
  rw [kIA_int (Q.1 r hr) (q_in hj), oi_nat (by omega)]
theorem q_S (Q : qH ad N h) {r j : Nat} (hr : r < 4) (hj : j < qLen r) {f : Nat → (Nat → Int32) → Option mOut} : kIS h (ad r) (Int32.ofNat j) f = f (qLen r) (fun j => qDec r (N r j)) := by
  unfold kIS; rw [Q.1 r hr]; simp only [qRowC, if_pos (q_in hj)]
/-- a row's place written -/
theorem q_put (Q : qH ad N h) {r j v : Nat} {w : Int32} (hr : r < 4) (hj : j < qLen r) (hw : w = qDec r v) :
    qH ad (nu N r j v) (h.set (ad r - 8) (.inl (0, qLen r, .inl (upd (fun j => qDec r (N r j)) (Int32.ofNat j).toNatClampNeg w)))) := by
  have hl : qLen r ≤ 4096 := by unfold qLen; split <;> omega
  have h8 := (cell_8 (Q.1 r hr)).1
  refine ⟨fun r' hr' => ?_, ?_, Q.2.2⟩
  · by_cases e : r' = r
    · subst e
      rw [cell_set (Q.1 r' hr)]
      simp only [qRowC, oi_nat (show j < 2 ^ 31 by omega), hw]
      congr 5
      funext i; unfold upd nu
      by_cases z : i = j
      · subst z; simp
      · simp [z]
    · rw [cell_setne (Q.2.2 r r' (by omega) (by omega) (Ne.symm e)) h8, Q.1 r' hr']
      simp only [qRowC, nu_row e]
  · rw [cell_setne (Q.2.2 r 4 (by omega) (by omega) (by omega)) h8, Q.2.1]
    simp only [qObjC, nu_row (show 4 ≠ r by omega)]
theorem q_putK (Q : qH ad N h) {r : Nat} {f : Nat → Int32} (hr : r < 4) : mKeep (qAd ad) h (h.set (ad r - 8) (.inl (0, qLen r, .inl f))) :=
  keep_set (Q.1 r hr) rfl ⟨r, by omega, rfl⟩
/-- a number of the queue itself written -/
theorem q_num (Q : qH ad N h) {i v : Nat} {w : Int32} (hi : i < 2) (hw : w = Int32.ofNat v) :
    qH ad (nu N 4 i v) (h.set (ad 4 - 8) (.inr (5, ([.ref (ad 0), .ref (ad 1), .ref (ad 2), .ref (ad 3), .int (Int32.ofNat (N 4 0)), .int (Int32.ofNat (N 4 1))] : List Value).set (4 + i) (.int w)))) := by
  have h8 := (cell_8 Q.2.1).1
  refine ⟨fun r hr => ?_, ?_, Q.2.2⟩
  · rw [cell_setne (Q.2.2 4 r (by omega) (by omega) (by omega)) h8, Q.1 r hr]
    simp only [qRowC, nu_row (show r ≠ 4 by omega)]
  · rw [cell_set Q.2.1]
    obtain rfl | rfl : i = 0 ∨ i = 1 := by omega
    all_goals simp [qObjC, nu, hw]
theorem q_numK (Q : qH ad N h) {fs : List Value} (hf : fs.length = 6) : mKeep (qAd ad) h (h.set (ad 4 - 8) (.inr (5, fs))) :=
  keep_set (q_obj Q) (by simp [hz1, hf]) ⟨4, by omega, rfl⟩
theorem enc_zero : qDec 1 0 = -1 := by decide
theorem enc_succ (v : Nat) : qDec 1 (v + 1) = Int32.ofNat v := by simp only [qDec]; exact oi_pred v
theorem dec_12 (v : Nat) : qDec 2 v = qDec 1 v := rfl
theorem dec_13 (v : Nat) : qDec 3 v = qDec 1 v := rfl
theorem dec_0 (v : Nat) : qDec 0 v = Int32.ofNat v := rfl
theorem c_isState (Q : qH ad N h) {v : Nat} (hv : v ≤ 4096) : mW (mRo L xs) mTab 119 0 [some (.ref (ad 4)), some (.int (qDec 1 v))] [] h k = some (.inl (some (.int (pB (0 < v)))), h, k) := by
  cases v with
  | zero =>
    rw [e119_0, e119_1, enc_zero, if_pos (by decide), e119_35, e119_36 (Or.inl rfl), pB_neg (by decide)]
  | succ v =>
    have hn := oi_nneg (i := v) (by omega)
    have hl : ¬ (Int32.ofNat 4096 ≤ Int32.ofNat v) := by rw [oi_le (by decide) (by omega)]; omega
    rw [enc_succ, e119_0, e119_1, if_neg hn, e119_4, e119_5, e119_6, q_F0 Q, e119_9, q_AL Q (by decide), e119_10, show qLen 0 = 4096 from rfl, if_neg hl]
    rw [e119_13, e119_14, e119_15, q_F1 Q, e119_18, q_AL Q (by decide), e119_19, show qLen 1 = 4096 from rfl, if_neg hl]
    rw [e119_22, e119_23, e119_24, q_F2 Q, e119_27, q_AL Q (by decide), e119_28, show qLen 2 = 4096 from rfl, if_neg hl, e119_31, e119_32, e119_36 (Or.inr rfl), pB_pos (by omega)]
theorem c_isStateN (Q : qH ad N h) {s : Nat} (hs : s < 4096) : mW (mRo L xs) mTab 119 0 [some (.ref (ad 4)), some (.int (Int32.ofNat s))] [] h k = some (.inl (some (.int 1)), h, k) := by
  rw [← enc_succ, c_isState Q (by omega), pB_pos (by omega)]
theorem c_qCost (Q : qH ad N h) {s : Nat} (hs : s < 4096) : mW (mRo L xs) mTab 117 0 [some (.ref (ad 4)), some (.int (Int32.ofNat s))] [] h k = some (.inl (some (.int (Int32.ofNat (N 0 s)))), h, k) := by
  rw [e117_0, e117_1, e117_2 (q_R Q) (by simp), c_isStateN Q hs]
  simp only [mAft, Option.toList_some, List.cons_append, List.nil_append]
  rw [e117_5, if_neg (by decide), e117_8, e117_9, q_F0 Q, e117_12, e117_13, q_A Q (by decide) hs, e117_14, e117_19, dec_0]
end
