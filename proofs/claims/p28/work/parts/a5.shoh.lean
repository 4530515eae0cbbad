section
theorem ck_mv : allP (fun p => allB 3 fun m => decide (enN p m = 0 ∨ (Int32.ofNat ((enN p m - 1) % 16) = Int32.ofNat (p % 16) + qFx (Int32.ofNat (p / 256)) (Int32.ofNat m) ∧ Int32.ofNat ((enN p m - 1) / 16 % 16) = Int32.ofNat (p / 16 % 16) + qFy (Int32.ofNat (p / 256)) (Int32.ofNat m) ∧ (enN p m - 1) / 256 = hd1 (p / 256) m))) = true := by decide +kernel
theorem ck_irr : allP (fun p => allB 6 fun m => decide (enN p m ≠ p + 1)) = true := by decide +kernel
variable {o : Nat → Bool}
theorem eG_some {q m : Nat} (h : eG o q m ≠ 0) : o q = true ∧ eG o q m = enN q m ∧ o (enN q m - 1) = true := by
  rcases e_cases (o := o) q m with z | ⟨z1, z2, z3, z4, z5, z6⟩
  · exact absurd z.1 h
  · refine ⟨z3, z1, ?_⟩
    rcases z6 with z6 | z6
    · rw [show enN q m = stN q (gear m) by unfold enN; rw [if_neg z4, if_pos z6]]; exact z5
    · exact z6.2
theorem en_big {p m : Nat} (hm : 6 ≤ m) : enN p m = enN p (if m % 3 = 0 then 3 else 4) := by
  have g1 : gear m = 1 := by unfold gear; rw [if_neg (by omega)]
  have t : ∀ p, m % 3 ≠ 0 → tuN p m = tuN p 4 := fun p h => by unfold tuN; rw [if_neg (by omega), if_neg (by omega)]
  unfold enN
  rw [g1]
  by_cases h : m % 3 = 0
  · rw [if_pos h, if_pos h]; rfl
  · rw [if_neg h, if_neg h, t _ h]; rfl
theorem en_irr {p m : Nat} (hp : p < 2048) : enN p m ≠ p + 1 := by
  by_cases hm : m < 6
  · exact of_decide_eq_true (allB_get (allP_get ck_irr hp) m hm)
  · rw [en_big (by omega)]
    split
    · exact of_decide_eq_true (allB_get (allP_get ck_irr hp) 3 (by decide))
    · exact of_decide_eq_true (allB_get (allP_get ck_irr hp) 4 (by decide))
theorem dr_some {q m x : Nat} (h : drE (eG o) q m = some x) : o q = true ∧ o x = true ∧ enN q m = x + 1 := by
  unfold drE at h
  split at h
  · cases h
  · rename_i h0
    obtain ⟨h1, h2, h3⟩ := eG_some h0
    have := Option.some.inj h
    rw [h2] at this h0
    exact ⟨h1, by rw [← this]; exact h3, by omega⟩
theorem fol_app {dr : Nat → Nat → Option Nat} : ∀ (a b : List Nat) (q : Nat) (P : List (Nat × Nat)), Sho.fol dr q (a ++ b) = some P → ∃ P1 P2, P = P1 ++ P2 ∧ Sho.fol dr q a = some P1 ∧ Sho.fol dr (Sho.fin q P1) b = some P2
  | [], b, q, P, h => ⟨[], P, rfl, rfl, h⟩
  | m :: a, b, q, P, h => by
    rw [List.cons_append] at h
    unfold Sho.fol at h
    cases hd : dr q m with
    | none => rw [hd] at h; cases h
    | some e =>
      rw [hd] at h
      dsimp only at h
      cases hf : Sho.fol dr e (a ++ b) with
      | none => rw [hf] at h; cases h
      | some p =>
        rw [hf] at h
        cases h
        obtain ⟨P1, P2, e1, e2, e3⟩ := fol_app a b e p hf
        refine ⟨(m, e) :: P1, P2, by rw [e1]; rfl, ?_, e3⟩
        unfold Sho.fol
        rw [hd]
        dsimp only
        rw [e2]
theorem fol_one {dr : Nat → Nat → Option Nat} {q m : Nat} {P : List (Nat × Nat)} (h : Sho.fol dr q [m] = some P) : ∃ x, dr q m = some x ∧ P = [(m, x)] := by
  unfold Sho.fol at h
  cases hd : dr q m with
  | none => rw [hd] at h; cases h
  | some e => rw [hd] at h; cases h; exact ⟨e, rfl, rfl⟩
/-- where a row of one move leads -/
theorem rep_end (ho : ∀ p, o p = true → p < 2048) {m : Nat} (hm : m < 3) : ∀ (n q : Nat) (P : List (Nat × Nat)), Sho.fol (drE (eG o)) q (List.replicate n m) = some P →
    Int32.ofNat (Sho.fin q P % 16) = Int32.ofNat (q % 16) + vX (q / 256) m n ∧ Int32.ofNat (Sho.fin q P / 16 % 16) = Int32.ofNat (q / 16 % 16) + vY (q / 256) m n ∧ Sho.fin q P / 256 = hdN (q / 256) m n
  | 0, q, P, h => by
    cases h
    exact ⟨(Int32.add_zero _).symm, (Int32.add_zero _).symm, rfl⟩
  | n + 1, q, P, h => by
    rw [List.replicate_succ'] at h
    obtain ⟨P1, P2, e1, e2, e3⟩ := fol_app _ _ _ _ h
    obtain ⟨i1, i2, i3⟩ := rep_end ho hm n q P1 e2
    obtain ⟨x, f1, f2⟩ := fol_one e3
    obtain ⟨d1, d2, d3⟩ := dr_some f1
    have ck := (of_decide_eq_true (allB_get (allP_get ck_mv (ho _ d1)) m hm)).resolve_left (by omega)
    rw [d3, Nat.add_sub_cancel] at ck
    rw [e1, f2, Sho.fin_app]
    show Int32.ofNat (x % 16) = _ ∧ Int32.ofNat (x / 16 % 16) = _ ∧ x / 256 = _
    rw [ck.1, ck.2.1, ck.2.2, i1, i2, i3]
    refine ⟨?_, ?_, rfl⟩
    · rw [show vX (q / 256) m (n + 1) = vX (q / 256) m n + qFx (Int32.ofNat (hdN (q / 256) m n)) (Int32.ofNat m) from rfl, Int32.add_assoc]
    · rw [show vY (q / 256) m (n + 1) = vY (q / 256) m n + qFy (Int32.ofNat (hdN (q / 256) m n)) (Int32.ofNat m) from rfl, Int32.add_assoc]
theorem kN_3 (w part : Nat) : kN w part < 3 := by
  unfold kN
  repeat' split
  all_goals omega
/-- a word that can be driven leads where it should -/
theorem word_end (ho : ∀ p, o p = true → p < 2048) {q p : Nat} {ws : List Nat} {P : List (Nat × Nat)} (hw : wWd q p = some ws) (hf : Sho.fol (drE (eG o)) q ws = some P) : Sho.fin q P = p := by
  unfold wWd at hw
  by_cases h0 : (wFd q p (0, 0, 0)).2.1 = 0
  · rw [if_pos h0] at hw; cases hw
  · rw [if_neg h0] at hw
    obtain ⟨w, a, b, c, e, ⟨_, k1, k2, k3⟩⟩ := wFd_ok q p (0, 0, 0) h0
    rw [e] at hw
    have hw' : List.replicate a (kN w 0) ++ (List.replicate b (kN w 1) ++ List.replicate c (kN w 2)) = ws := by
      have := Option.some.inj hw
      unfold wMv at this
      rwa [if_neg (show ¬ w + 1 = 0 by omega)] at this
    rw [← hw'] at hf
    obtain ⟨P1, P', e1, f1, f2⟩ := fol_app _ _ _ _ hf
    obtain ⟨P2, P3, e2, f3, f4⟩ := fol_app _ _ _ _ f2
    obtain ⟨a1, a2, a3⟩ := rep_end ho (kN_3 w 0) _ _ _ f1
    obtain ⟨b1, b2, b3⟩ := rep_end ho (kN_3 w 1) _ _ _ f3
    obtain ⟨c1, c2, c3⟩ := rep_end ho (kN_3 w 2) _ _ _ f4
    rw [e1, e2, Sho.fin_app, Sho.fin_app]
    rw [a3] at b1 b2 b3
    rw [b3] at c1 c2 c3
    rw [k3] at c3
    rw [b1, a1] at c1
    rw [b2, a2] at c2
    have x1 : Int32.ofNat (Sho.fin (Sho.fin (Sho.fin q P1) P2) P3 % 16) = Int32.ofNat (p % 16) := by
      rw [c1, show Int32.ofNat (p % 16) = Int32.ofNat (q % 16) + wXd q p by unfold wXd; rw [Int32.add_comm, Int32.sub_add_cancel], ← k1, Int32.zero_add]
      simp only [Int32.add_assoc]
    have y1 : Int32.ofNat (Sho.fin (Sho.fin (Sho.fin q P1) P2) P3 / 16 % 16) = Int32.ofNat (p / 16 % 16) := by
      rw [c2, show Int32.ofNat (p / 16 % 16) = Int32.ofNat (q / 16 % 16) + wYd q p by unfold wYd; rw [Int32.add_comm, Int32.sub_add_cancel], ← k2, Int32.zero_add]
      simp only [Int32.add_assoc]
    have x2 := congrArg Int32.toInt x1
    have y2 := congrArg Int32.toInt y1
    rw [oi_int (by omega), oi_int (by omega)] at x2 y2
    omega
theorem tcN_tri (cu : Nat) (a c : Option Nat) (m : Nat) : tcN cu a c ≤ tcN cu a (some m) + tcN cu (some m) c := by
  cases a with
  | none => exact Nat.zero_le _
  | some a =>
    cases c with
    | none => exact Nat.zero_le _
    | some c =>
      unfold tcN
      by_cases h1 : a < 3 <;> by_cases h2 : m < 3 <;> by_cases h3 : c < 3 <;> simp [h1, h2, h3]
theorem shoH (ho : ∀ p, o p = true → p < 2048) {mg cu : Nat} {cN : Nat → Nat} : ShoH (drE (eG o)) wWd (ocE (eG o) (wtG mg cN)) (tcN cu) :=
  ⟨wWd_self, tcN_tri cu, fun q m => by unfold ocE wtG wtN; repeat' split
                                       all_goals omega,
   fun q m x h => by
    obtain ⟨h1, h2, h3⟩ := dr_some h
    intro z
    exact en_irr (ho _ h1) (z ▸ h3), fun q p ws P hw hf => word_end ho hw hf⟩
theorem fw_wf {q p m : Nat} {ws : List Nat} (hw : wWd q p = some ws) (hm : m ∈ ws) : decide (m < 3) = true := by
  unfold wWd at hw
  split at hw
  · cases hw
  · rw [← Option.some.inj hw] at hm
    exact decide_eq_true (wMv_fw m hm)
theorem fw_tz {cu : Nat} (a b : Nat) (ha : decide (a < 3) = true) (hb : decide (b < 3) = true) : tcN cu (some a) (some b) = 0 := by unfold tcN; dsimp only; rw [ha, hb, if_pos rfl]
theorem fw_tf {cu : Nat} (a b : Nat) (x : Option Nat) (ha : decide (a < 3) = true) (hb : decide (b < 3) = true) : tcN cu (some a) x = tcN cu (some b) x := by
  cases x with
  | none => rfl
  | some x => unfold tcN; dsimp only; rw [ha, hb]
end
