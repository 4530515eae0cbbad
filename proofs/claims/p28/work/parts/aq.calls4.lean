section
variable {L : Nat} {xs : Nat → Int32} {k : Nat} {h : List mCel} {ow : Nat → Nat}
theorem que_ow (K : KQue ow h) {a : Nat} (z : qAd adQ a) : ow a = 8 := by
  obtain ⟨r, hr, rfl⟩ := z
  obtain rfl | rfl | rfl | rfl | rfl : r = 0 ∨ r = 1 ∨ r = 2 ∨ r = 3 ∨ r = 4 := by omega
  · exact K.2.2.1
  · exact K.2.2.2.1
  · exact K.2.2.2.2.1
  · exact K.2.2.2.2.2
  · exact K.2.1
/-- what the cheapest way costs -/
def Cst (fop : Nat → Int32) (wt : Nat → Nat → Nat → Nat) (cu rv p q r : Nat) : Prop :=
  ((q ≠ p ∧ ¬ (oF fop q = true ∧ oF fop p = true)) → r = 0) ∧ (q = p ∨ (oF fop q = true ∧ oF fop p = true) → gLeast (adjS (eG (oF fop)) wt cu rv 1) (seedS q rv) (goalS p) r)
theorem least_one {adj : Nat → List (Nat × Nat)} {sd goal : Nat → Bool} {r1 r2 : Nat} (h1 : gLeast adj sd goal r1) (h2 : gLeast adj sd goal r2) : r1 = r2 := by
  cases r1 with
  | zero =>
    cases r2 with
    | zero => rfl
    | succ b =>
      obtain ⟨_, ⟨n, t, g, w⟩, _⟩ := h2.2 b rfl
      exact absurd w (h1.1 rfl n t b g)
  | succ a =>
    obtain ⟨_, ⟨n, t, g, w⟩, l1⟩ := h1.2 a rfl
    cases r2 with
    | zero => exact absurd w (h2.1 rfl n t a g)
    | succ b =>
      obtain ⟨_, ⟨n2, t2, g2, w2⟩, l2⟩ := h2.2 b rfl
      have e1 := l1 n2 t2 b g2 w2
      have e2 := l2 n t a g w
      omega
theorem cst_one {fop : Nat → Int32} {wt : Nat → Nat → Nat → Nat} {cu rv p q r1 r2 : Nat} (h1 : Cst fop wt cu rv p q r1) (h2 : Cst fop wt cu rv p q r2) : r1 = r2 := by
  by_cases z : q = p ∨ (oF fop q = true ∧ oF fop p = true)
  · exact least_one (h1.2 z) (h2.2 z)
  · have z' : q ≠ p ∧ ¬ (oF fop q = true ∧ oF fop p = true) := ⟨fun y => z (Or.inl y), fun y => z (Or.inr y)⟩
    rw [h1.1 z', h2.1 z']
theorem op_2 {fop : Nat → Int32} {p q : Nat} (hp : p < 2048) (hq : q < 2048) : (pOpen fop (Int32.ofNat q) ∧ pOpen fop (Int32.ofNat p)) ↔ (oF fop q = true ∧ oF fop p = true) := by
  rw [oF_open hp, oF_open hq]

variable {oc np fr be cu mg st ar fa sl isr rq : Nat} {rT : List (Nat × Nat)} {gone : Nat → Bool} {pl : List (Nat × List (Nat × Nat))} {s : wS} {cov fcl fop fg fz fe : Nat → Int32}

theorem sh_cl (H : SH oc np fr be cu mg st ar fa sl isr rq rT gone pl s cov fcl fop fg fz fe h) : ∃ cN, clOk cov fcl cN := by
  obtain ⟨ow, et, er, nsq, lg, po, fpg, fpl, es, S, ⟨q1, T1, tr⟩, ⟨q2, T2, re⟩, rc, pa, ou, fl, pr, qu, w9, ⟨s2, w10⟩, ob, rr, lw, pg, pp, cf, cm, sp, bd, g1, g2, ppi, rp, bu⟩ := H
  exact cl_ok cf.1
theorem sh_cheapest (H : SH oc np fr be cu mg st ar fa sl isr rq rT gone pl s cov fcl fop fg fz fe h) {cN : Nat → Nat} (C : clOk cov fcl cN) {p q rv : Nat} (hrv : rv < 2) (hp : p < 2048) (hq : q < 2048) : ∃ h' r, mW (mRo L xs) mTab 159 0 [some (.ref 8), some (.int (Int32.ofNat (p % 16))), some (.int (Int32.ofNat (p / 16 % 16))), some (.int (Int32.ofNat (p / 256))), some (.int (Int32.ofNat (q % 16))), some (.int (Int32.ofNat (q / 16 % 16))), some (.int (Int32.ofNat (q / 256))), some (.int (Int32.ofNat rv)), none] [] h k = some (.inl (some (.int (qDec 1 r))), h', k) ∧ Cst fop (wtG mg cN) cu rv p q r ∧ SH oc np fr be cu mg st ar fa sl isr rq rT gone pl s cov fcl fop fg fz fe h' := by
  obtain ⟨ow, et, er, nsq, lg, po, fpg, fpl, es, S, ⟨q1, T1, tr⟩, ⟨q2, T2, re⟩, rc, pa, ou, fl, pr, qu, w9, ⟨s2, w10⟩, ob, rr, lw, pg, pp, cf, cm, sp, bd, g1, g2, ppi, rp, bu⟩ := H
  obtain ⟨⟨N, Q, o⟩, o19⟩ := id qu
  have r1 := c_reqPose (L := L) (xs := xs) (k := k) (h := h) hp
  have r2 := c_reqPose (L := L) (xs := xs) (k := k) (h := h) hq
  obtain ⟨h1, r, A1, K, ⟨N', Q', o', hN⟩, B0, B1⟩ := c_searched (L := L) (xs := xs) (k := k) (geoE_F fop) (geoW_F cm.2 C) cm.1 hrv (fe := 1) (by decide) (p := q) (gl := p) hq hp Q (w_H S fl pr) o
  have F := fr_of (ow := ow) (n0 := 8) K (fun a z => que_ow qu z)
  rw [op_2 hp hq] at B0 B1
  refine ⟨h1, r, ?_, ⟨B0, B1⟩, ⟨ow, et, er, nsq, lg, po, fpg, fpl, es, sta_keep S (F 0 (by decide)), ⟨q1, T1, krt_keep tr (F 1 (by decide))⟩, ⟨q2, T2, krt_keep re (F 2 (by decide))⟩, rec_keep rc (F 3 (by decide)), pac_keep pa (F 4 (by decide)), kpl_keep ou (F 5 (by decide)), fld_keep fl (F 6 (by decide)), one_keep pr (F 7 (by decide)), ⟨⟨N', Q', o'⟩, o19⟩, ⟨one_keep w9.1 (F 9 (by decide)), w9.2⟩, ⟨s2, one_keep w10.1 (F 10 (by decide)), w10.2⟩, one_keep ob (F 11 (by decide)), one_keep rr (F 12 (by decide)), law_keep lw (F 13 (by decide)), (fun i p hi hp => (pg i p hi hp).imp fun c z => kpl_keep z (F (20 + i) (by omega))), (fun i hi => plan_keep (pp i hi) (F (40 + i) (by omega))), cf, cm, sp, bd, g1, g2, ppi, rp, bud_keep bu K⟩⟩
  rw [e159_0, e159_1, e159_2, e159_3, e159_4, e159_6, e159_8, e159_10, e159_12 (kR_eq ob.1) (by simp [Value.category]), e39_0, e39_1, e39_2, e39_3 (by simp [Value.category]), r1]
  simp only [mAft, Option.toList_some, List.cons_append, List.nil_append]
  rw [e39_6, e39_8, e39_10, e39_12, e39_14 (by simp [Value.category]), r2]
  simp only [mAft, Option.toList_some, List.cons_append, List.nil_append]
  rw [e39_17, e39_19, e39_20, kF_eq ob.1 (v := .ref 18) rfl, e39_23, e39_25, e39_27, e39_29 (kR_eq S.2.1) (by simp [Value.category]), e146_0, e146_1, e146_2, e146_3, e146_4, e146_5 (kR_eq S.2.1) (by simp [Value.category])]
  rw [show (some (Value.int 1)) = some (Value.int (Int32.ofNat 1)) from rfl, A1]
  simp only [mAft, Option.toList_some, List.cons_append, List.nil_append]
  rw [e146_8]
  simp only [mAft, Option.toList_some, List.cons_append, List.nil_append]
  rw [e39_32]
  simp only [mAft, Option.toList_some, List.cons_append, List.nil_append]
  rw [e159_15]
theorem sh_anew (H : SH oc np fr be cu mg st ar fa sl isr rq rT gone pl s cov fcl fop fg fz fe h) {cN : Nat → Nat} (C : clOk cov fcl cN) {p q rv : Nat} (hrv : rv < 2) (hp : p < 2048) (hq : q < 2048) : ∃ h' r, mW (mRo L xs) mTab 160 0 [some (.ref 8), some (.int (Int32.ofNat (p % 16))), some (.int (Int32.ofNat (p / 16 % 16))), some (.int (Int32.ofNat (p / 256))), some (.int (Int32.ofNat (q % 16))), some (.int (Int32.ofNat (q / 16 % 16))), some (.int (Int32.ofNat (q / 256))), some (.int (Int32.ofNat rv)), none] [] h k = some (.inl (some (.int (qDec 1 r))), h', k) ∧ (∀ r1, Cst fop (wtG mg cN) cu rv p q r1 → r = r1) ∧ SH oc np fr be cu mg st ar fa sl isr rq rT gone pl s cov fcl fop fg fz fe h' := by
  obtain ⟨ow, et, er, nsq, lg, po, fpg, fpl, es, S, ⟨q1, T1, tr⟩, ⟨q2, T2, re⟩, rc, pa, ou, fl, pr, qu, w9, ⟨s2, w10⟩, ob, rr, lw, pg, pp, cf, cm, sp, bd, g1, g2, ppi, rp, bu⟩ := H
  obtain ⟨⟨N, Q, o⟩, o19⟩ := id qu
  have r1 := c_reqPose (L := L) (xs := xs) (k := k) (h := h) hp
  have r2 := c_reqPose (L := L) (xs := xs) (k := k) (h := h) hq
  obtain ⟨h1, r, A1, K, ⟨N', Q', o', hN⟩, B0, B1⟩ := c_searched (L := L) (xs := xs) (k := k) (geoE_F fop) (geoW_F cm.2 C) cm.1 hrv (fe := 0) (by decide) (p := p) (gl := q) hp hq Q (w_H S fl pr) o
  have F := fr_of (ow := ow) (n0 := 8) K (fun a z => que_ow qu z)
  rw [op_2 hq hp] at B0 B1
  refine ⟨h1, r, ?_, fun r1 hr => ?_, ⟨ow, et, er, nsq, lg, po, fpg, fpl, es, sta_keep S (F 0 (by decide)), ⟨q1, T1, krt_keep tr (F 1 (by decide))⟩, ⟨q2, T2, krt_keep re (F 2 (by decide))⟩, rec_keep rc (F 3 (by decide)), pac_keep pa (F 4 (by decide)), kpl_keep ou (F 5 (by decide)), fld_keep fl (F 6 (by decide)), one_keep pr (F 7 (by decide)), ⟨⟨N', Q', o'⟩, o19⟩, ⟨one_keep w9.1 (F 9 (by decide)), w9.2⟩, ⟨s2, one_keep w10.1 (F 10 (by decide)), w10.2⟩, one_keep ob (F 11 (by decide)), one_keep rr (F 12 (by decide)), law_keep lw (F 13 (by decide)), (fun i p hi hp => (pg i p hi hp).imp fun c z => kpl_keep z (F (20 + i) (by omega))), (fun i hi => plan_keep (pp i hi) (F (40 + i) (by omega))), cf, cm, sp, bd, g1, g2, ppi, rp, bud_keep bu K⟩⟩
  · rw [e160_0, e160_1, e160_2, e160_3, e160_4, e160_6, e160_8, e160_10, e160_12 (kR_eq ob.1) (by simp [Value.category]), e40_0, e40_1, e40_2, e40_3 (by simp [Value.category]), r1]
    simp only [mAft, Option.toList_some, List.cons_append, List.nil_append]
    rw [e40_6, e40_8, e40_10, e40_12, e40_14 (by simp [Value.category]), r2]
    simp only [mAft, Option.toList_some, List.cons_append, List.nil_append]
    rw [e40_17, e40_19, e40_20, kF_eq ob.1 (v := .ref 18) rfl, e40_23, e40_25, e40_27, e40_29 (kR_eq S.2.1) (by simp [Value.category]), e147_0, e147_1, e147_2, e147_3, e147_4, e147_5 (kR_eq S.2.1) (by simp [Value.category])]
    rw [show (some (Value.int 0)) = some (Value.int (Int32.ofNat 0)) from rfl, A1]
    simp only [mAft, Option.toList_some, List.cons_append, List.nil_append]
    rw [e147_8]
    simp only [mAft, Option.toList_some, List.cons_append, List.nil_append]
    rw [e40_32]
    simp only [mAft, Option.toList_some, List.cons_append, List.nil_append]
    rw [e160_15]
  · by_cases z : q = p ∨ (oF fop q = true ∧ oF fop p = true)
    · have z2 : p = q ∨ (oF fop p = true ∧ oF fop q = true) := z.imp Eq.symm And.symm
      exact ends_eq geo_L geo_S hrv hp hq (B1 z2) (hr.2 z)
    · have z' : q ≠ p ∧ ¬ (oF fop q = true ∧ oF fop p = true) := ⟨fun y => z (Or.inl y), fun y => z (Or.inr y)⟩
      rw [hr.1 z', B0 ⟨fun y => z'.1 y.symm, fun y => z'.2 y.symm⟩]
end
