section
variable {oc np fr be cu mg st ar fa sl isr rq : Nat} {rT : List (Nat × Nat)} {gone : Nat → Bool} {pl : List (Nat × List (Nat × Nat))} {s : wS} {cov fcl fop : Nat → Int32} {h : List mCel} {fpg : Nat → Option Nat} {ow : Nat → Nat}
/-- poses that are free -/
def oF (fop : Nat → Int32) (p : Nat) : Bool := decide (p < 2048 ∧ fop p ≠ 0)
theorem oF_lt (fop : Nat → Int32) (p : Nat) (h : oF fop p = true) : p < 2048 := (of_decide_eq_true h).1
theorem oF_open {p : Nat} (hp : p < 2048) : pOpen fop (Int32.ofNat p) ↔ oF fop p = true := by
  unfold pOpen oF
  rw [decide_eq_true_iff, oi_nat (by omega), show (0 : Int32) = Int32.ofNat 0 from rfl, show (2048 : Int32) = Int32.ofNat 2048 from rfl, oi_le (by decide) (by omega), oi_lt (by omega) (by decide)]
  exact ⟨fun z => z.2, fun z => ⟨Nat.zero_le _, z⟩⟩
theorem geoE_F (fop : Nat → Int32) : geoE fop (eG (oF fop)) := geo_E (fun p hp => oF_open hp)
theorem free_clear {cN : Nat → Nat} (C : fdC fr be cov fcl fop) (H : clOk cov fcl cN) (p : Nat) (h : oF fop p = true) : 1 ≤ cN (p % 256) := by
  obtain ⟨hp, h1⟩ := of_decide_eq_true h
  refine H.2.1 (p % 256) (Nat.mod_lt _ (by decide)) fun z => h1 ?_
  rw [C.2 p hp]
  unfold pJudge
  refine pB_neg fun w => w.1 ?_
  rw [pAt_nat hp]
  exact z
theorem cl_ok (C : fdC fr be cov fcl fop) : ∃ cN, clOk cov fcl cN := by
  obtain ⟨⟨g, e⟩, _⟩ := C
  rw [e]
  exact clears_ok cov g
theorem wt_10 (mg : Nat) (cN : Nat → Nat) (p a x : Nat) : 10 ≤ wtG mg cN p a x := by
  unfold wtG wtN
  repeat' split
  all_goals omega
theorem geoW_F {cN : Nat → Nat} (hmg : mg ≤ 5) (H : clOk cov fcl cN) : geoW fcl (Int32.ofNat mg) (wtG mg cN) := geoW_G hmg H.1
def f12 (np fr be : Nat) : List Value := [.ref 13, .int (Int32.ofNat np), .ref 14, .ref 15, .ref 16, .int (Int32.ofNat fr), .int (Int32.ofNat be)]
def f18 : List Value := [.ref 12, .ref 17, .ref 19, .ref 24]
theorem adQ_5 {a : Nat} (h1 : a < 19 ∨ 23 < a) : ¬ qAd adQ a := by
  rintro ⟨r, hr, z⟩
  unfold adQ at z
  split at z <;> omega
theorem pc_H (F : KFld np fr be fpg cov fcl fop ow h) (P : KOne 7 17 (c17 cu mg) ow h) : pcH 17 12 15 cu (Int32.ofNat mg) (f12 np fr be) fcl h := ⟨P.1, F.1.1, rfl, F.1.2.2.2.1⟩
theorem w_H (S : KSta ow h) (F : KFld np fr be fpg cov fcl fop ow h) (P : KOne 7 17 (c17 cu mg) ow h) : wH adQ 18 12 17 16 15 f18 (f12 np fr be) (Int32.ofNat cu) (Int32.ofNat mg) fop fcl h :=
  ⟨⟨S.2.1, rfl, rfl, rfl⟩, ⟨F.1.1, rfl, rfl⟩, P.1, F.1.2.2.2.2, F.1.2.2.2.1, adQ_5 (by decide), adQ_5 (by decide), adQ_5 (by decide), adQ_5 (by decide), adQ_5 (by decide)⟩
theorem sw_H {s2 : wS} (S : KSta ow h) (F : KFld np fr be fpg cov fcl fop ow h) (P : KOne 7 17 (c17 cu mg) ow h) (W : KOne 10 32 (wC 9 s2) ow h) : swH 28 12 17 32 29 15 16 cu 9 (Int32.ofNat mg) (f12 np fr be) fcl fop s2 h :=
  ⟨S.2.2.1, pc_H F P, rfl, F.1.2.2.2.2, W.1⟩
theorem sumE_le {es es' : Nat → Nat} : ∀ n, (∀ i, i < n → es i = es' i) → sumE es n = sumE es' n
  | 0, _ => rfl
  | n + 1, hh => by rw [sumE, sumE, sumE_le n (fun i hi => hh i (by omega)), hh n (Nat.lt_succ_self n)]
theorem sumL_le {es es' : Nat → Nat} : ∀ n, (∀ i, i < n → es i = es' i) → sumL es n = sumL es' n
  | 0, _ => rfl
  | n + 1, hh => by rw [sumL, sumL, sumL_le n (fun i hi => hh i (by omega)), hh n (Nat.lt_succ_self n)]
theorem sumE_set {es : Nat → Nat} {j v : Nat} : ∀ n, j < n → sumE (setN es j v) n + 256 * 2 ^ es j = sumE es n + 256 * 2 ^ v
  | 0, hj => absurd hj (Nat.not_lt_zero _)
  | n + 1, hj => by
    rw [sumE, sumE]
    by_cases e : j = n
    · subst e
      rw [sumE_le (es := setN es j v) (es' := es) j (fun i hi => by unfold setN; rw [if_neg (by omega)]), show setN es j v j = v by unfold setN; rw [if_pos rfl]]
      generalize 256 * 2 ^ v = a
      generalize 256 * 2 ^ es j = b
      omega
    · have := sumE_set n (show j < n by omega) (es := es) (v := v)
      rw [show setN es j v n = es n by unfold setN; rw [if_neg (by omega)]]
      generalize 256 * 2 ^ v = a at *
      generalize 256 * 2 ^ es j = b at *
      generalize 256 * 2 ^ es n = c at *
      omega
theorem sumL_set {es : Nat → Nat} {j v : Nat} : ∀ n, j < n → sumL (setN es j v) n + 2 * es j = sumL es n + 2 * v
  | 0, hj => absurd hj (Nat.not_lt_zero _)
  | n + 1, hj => by
    rw [sumL, sumL]
    by_cases e : j = n
    · subst e
      rw [sumL_le (es := setN es j v) (es' := es) j (fun i hi => by unfold setN; rw [if_neg (by omega)]), show setN es j v j = v by unfold setN; rw [if_pos rfl]]
      omega
    · have := sumL_set n (show j < n by omega) (es := es) (v := v)
      rw [show setN es j v n = es n by unfold setN; rw [if_neg (by omega)]]
      omega
end
