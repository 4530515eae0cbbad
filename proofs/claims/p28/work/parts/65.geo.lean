section
variable {o : Nat → Bool}
/-- where a move leads over the poses that are free, and 1; 0 if it can't be driven -/
def eG (o : Nat → Bool) (p m : Nat) : Nat :=
  if o p = false ∨ stN p (gear m) = 0 ∨ o (stN p (gear m) - 1) = false then 0 else if m % 3 = 0 then stN p (gear m) else
    if o (tuN (stN p (gear m) - 1) m) = false ∨ enN p m = 0 ∨ o (enN p m - 1) = false then 0 else enN p m
theorem wt_eq {p m : Nat} (hp : p < 2048) (hm : m < 6) : pSteps (pH (Int32.ofNat p)) (Int32.ofNat m) = Int32.ofNat (wtN p m) := of_decide_eq_true (allB_get (allP_get ck_wt hp) m hm)
theorem st_eq {p w : Nat} (hp : p < 2048) (hw : w < 2) : pStepped (Int32.ofNat p) (if w = 0 then 1 else -1) = qDec 1 (stN p w) := of_decide_eq_true (allB_get (allP_get ck_step hp) w hw)
theorem tu_eq {p m : Nat} (hp : p < 2048) (hm : m < 6) (h3 : m % 3 ≠ 0) : pTurned (Int32.ofNat p) (Int32.ofNat m) = Int32.ofNat (tuN p m) := (of_decide_eq_true (allB_get (allP_get ck_turn hp) m hm)).resolve_left h3
theorem back_eq {p w : Nat} (hp : p < 2048) (hw : w < 2) (h0 : stN p w ≠ 0) : stN (stN p w - 1) (1 - w) = p + 1 := (of_decide_eq_true (allB_get (allP_get ck_back hp) w hw)).resolve_left h0
theorem tt_eq {p m : Nat} (hp : p < 2048) (hm : m < 6) (h3 : m % 3 ≠ 0) : tuN (tuN p m) ((m + 3) % 6) = p := (of_decide_eq_true (allB_get (allP_get ck_tt hp) m hm)).resolve_left h3
theorem dx_le (g : Nat) : dxN g ≤ 2 := by unfold dxN; split <;> decide
theorem dy_le (g : Nat) : dyN g ≤ 2 := by unfold dyN; split <;> decide
theorem st_le {p w : Nat} (hp : p < 2048) : stN p w ≤ 2048 := by
  unfold stN
  generalize (if w = 0 then dxN (p / 256) else 2 - dxN (p / 256)) = a
  generalize (if w = 0 then dyN (p / 256) else 2 - dyN (p / 256)) = b
  split <;> omega
theorem tu_lt (p m : Nat) : tuN p m < 2048 := by unfold tuN; omega
theorem en_le {p m : Nat} (hp : p < 2048) : enN p m ≤ 2048 := by
  unfold enN; repeat' split
  · omega
  · exact st_le hp
  · exact st_le (tu_lt _ _)
theorem e_cases (p m : Nat) : (eG o p m = 0 ∧ (o p = false ∨ stN p (gear m) = 0 ∨ o (stN p (gear m) - 1) = false ∨ m % 3 ≠ 0 ∧ (o (tuN (stN p (gear m) - 1) m) = false ∨ enN p m = 0 ∨ o (enN p m - 1) = false))) ∨
    (eG o p m = enN p m ∧ enN p m ≠ 0 ∧ o p = true ∧ stN p (gear m) ≠ 0 ∧ o (stN p (gear m) - 1) = true ∧ (m % 3 = 0 ∨ o (tuN (stN p (gear m) - 1) m) = true ∧ o (enN p m - 1) = true)) := by
  unfold eG
  by_cases a : o p = false ∨ stN p (gear m) = 0 ∨ o (stN p (gear m) - 1) = false
  · rw [if_pos a]; left; refine ⟨rfl, ?_⟩
    rcases a with a | a | a
    · exact Or.inl a
    · exact Or.inr (Or.inl a)
    · exact Or.inr (Or.inr (Or.inl a))
  · rw [if_neg a]
    have a1 : o p = true := by cases q : o p; exact absurd (Or.inl q) a; rfl
    have a2 : stN p (gear m) ≠ 0 := fun q => a (Or.inr (Or.inl q))
    have a3 : o (stN p (gear m) - 1) = true := by cases q : o (stN p (gear m) - 1); exact absurd (Or.inr (Or.inr q)) a; rfl
    by_cases h3 : m % 3 = 0
    · rw [if_pos h3]; right
      have : enN p m = stN p (gear m) := by unfold enN; rw [if_neg a2, if_pos h3]
      rw [this]; exact ⟨rfl, a2, a1, a2, a3, Or.inl h3⟩
    · rw [if_neg h3]
      by_cases b : o (tuN (stN p (gear m) - 1) m) = false ∨ enN p m = 0 ∨ o (enN p m - 1) = false
      · rw [if_pos b]; left; exact ⟨rfl, Or.inr (Or.inr (Or.inr ⟨h3, b⟩))⟩
      · rw [if_neg b]; right
        have b1 : o (tuN (stN p (gear m) - 1) m) = true := by cases q : o (tuN (stN p (gear m) - 1) m); exact absurd (Or.inl q) b; rfl
        have b2 : o (enN p m - 1) = true := by cases q : o (enN p m - 1); exact absurd (Or.inr (Or.inr q)) b; rfl
        exact ⟨rfl, fun q => b (Or.inr (Or.inl q)), a1, a2, a3, Or.inr ⟨b1, b2⟩⟩
theorem gear_opp {m : Nat} (hm : m < 6) : gear ((m + 3) % 6) = 1 - gear m := by
  unfold gear
  repeat' split
  all_goals omega
theorem gear_opp2 {m : Nat} (hm : m < 6) : 1 - gear ((m + 3) % 6) = gear m := by rw [gear_opp hm]; have := gear_lt m; omega
/-- a move's middle, and its opposite's -/
theorem en_back {p m : Nat} (hp : p < 2048) (hm : m < 6) (h0 : enN p m ≠ 0) : stN p (gear m) ≠ 0 ∧ enN (enN p m - 1) ((m + 3) % 6) = p + 1 ∧
    (m % 3 = 0 → stN (enN p m - 1) (gear ((m + 3) % 6)) = p + 1) ∧ (m % 3 ≠ 0 → stN (enN p m - 1) (gear ((m + 3) % 6)) = tuN (stN p (gear m) - 1) m + 1 ∧ tuN (stN (enN p m - 1) (gear ((m + 3) % 6)) - 1) ((m + 3) % 6) = stN p (gear m) - 1) := by
  have hg := gear_lt m
  have s0 : stN p (gear m) ≠ 0 := by
    intro z; unfold enN at h0; rw [if_pos z] at h0; exact h0 rfl
  have h33 : ((m + 3) % 6) % 3 = m % 3 := by omega
  have b1 := back_eq hp hg s0
  have sl := st_le (w := gear m) hp
  refine ⟨s0, ?_⟩
  by_cases h3 : m % 3 = 0
  · have e1 : enN p m = stN p (gear m) := by unfold enN; rw [if_neg s0, if_pos h3]
    have e2 : stN (enN p m - 1) (gear ((m + 3) % 6)) = p + 1 := by rw [e1, gear_opp hm]; exact b1
    refine ⟨?_, fun _ => e2, fun z => absurd h3 z⟩
    unfold enN at e2 ⊢
    rw [if_neg s0, if_pos h3] at e2 ⊢
    rw [e2, if_neg (by omega), h33, if_pos h3]
  · have e1 : enN p m = stN (tuN (stN p (gear m) - 1) m) (gear m) := by unfold enN; rw [if_neg s0, if_neg h3]
    have t0 : stN (tuN (stN p (gear m) - 1) m) (gear m) ≠ 0 := by rw [← e1]; exact h0
    have b2 := back_eq (tu_lt (stN p (gear m) - 1) m) hg t0
    have e2 : stN (enN p m - 1) (gear ((m + 3) % 6)) = tuN (stN p (gear m) - 1) m + 1 := by rw [e1, gear_opp hm]; exact b2
    have tt := tt_eq (show stN p (gear m) - 1 < 2048 by omega) hm h3
    refine ⟨?_, fun z => absurd z h3, fun _ => ⟨e2, by rw [e2, Nat.add_sub_cancel]; exact tt⟩⟩
    have e3 : enN (enN p m - 1) ((m + 3) % 6) = stN (tuN (stN (enN p m - 1) (gear ((m + 3) % 6)) - 1) ((m + 3) % 6)) (gear ((m + 3) % 6)) := by
      conv => lhs; unfold enN
      rw [if_neg (by rw [show (if stN p (gear m) = 0 then 0 else if m % 3 = 0 then stN p (gear m) else stN (tuN (stN p (gear m) - 1) m) (gear m)) = enN p m from rfl, e2]; omega), h33, if_neg h3]
      rfl
    rw [e3, e2, Nat.add_sub_cancel, tt, gear_opp hm]
    exact b1
theorem geo_B : geoB enN := by
  intro q m hq hm h0
  have := (en_back hq (show (m + 3) % 6 < 6 from Nat.mod_lt _ (by decide)) (by omega)).2.1
  rwa [show ((m + 3) % 6 + 3) % 6 = m by omega] at this
theorem geo_L : geoL (eG o) := by
  intro p m hp hm
  rcases e_cases (o := o) p m with h | h
  · rw [h.1]; omega
  · rw [h.1]; exact en_le hp
theorem geo_S : geoS (eG o) := by
  intro p m hp hm h0
  rcases e_cases (o := o) p m with h | ⟨h1, h2, h3, h4, h5, h6⟩
  · omega
  · obtain ⟨s0, b1, b2, b3⟩ := en_back hp hm h2
    have hl := en_le (m := m) hp
    rw [h1]
    rcases e_cases (o := o) (enN p m - 1) ((m + 3) % 6) with ⟨z, k⟩ | ⟨z, _⟩
    · exfalso
      have h33 : ((m + 3) % 6) % 3 = m % 3 := by omega
      by_cases q3 : m % 3 = 0
      · have e1 : enN p m = stN p (gear m) := by unfold enN; rw [if_neg s0, if_pos q3]
        have c := b2 q3
        rw [c, b1, Nat.add_sub_cancel, e1, h5, h3] at k
        simp [h33, q3] at k
      · obtain ⟨c1, c2⟩ := b3 q3
        obtain ⟨d1, d2⟩ := h6.resolve_left q3
        rw [c2, b1, c1, Nat.add_sub_cancel, Nat.add_sub_cancel, d2, d1, h5, h3] at k
        simp at k
    · rw [z]; exact b1
theorem geo_E {fo : Nat → Int32} (hf : ∀ p, p < 2048 → (pOpen fo (Int32.ofNat p) ↔ o p = true)) : geoE fo (eG o) := by
  intro p m hp hm
  refine ⟨?_, geo_L p m hp hm⟩
  have hg := gear_lt m
  have hw : pWay (Int32.ofNat m) = if gear m = 0 then 1 else -1 := by
    unfold pWay gear
    simp only [oi_lt3 (show m < 2 ^ 31 by omega)]
    by_cases y : m < 3 <;> simp [y]
  have hm03 : (Int32.ofNat m = 0 ∨ Int32.ofNat m = 3) = (m % 3 = 0) := by
    obtain rfl | rfl | rfl | rfl | rfl | rfl : m = 0 ∨ m = 1 ∨ m = 2 ∨ m = 3 ∨ m = 4 ∨ m = 5 := by omega
    all_goals simp
  have e1 := st_eq hp hg
  have sl := st_le (w := gear m) hp
  have od : ∀ v : Nat, v ≤ 2048 → (pOpen fo (qDec 1 v) ↔ (v ≠ 0 ∧ o (v - 1) = true)) := by
    intro v hv
    cases v with
    | zero => rw [enc_zero]; exact ⟨fun z => absurd z open_neg, fun z => absurd rfl z.1⟩
    | succ v => rw [enc_succ, hf _ (by omega), Nat.add_sub_cancel]; exact ⟨fun z => ⟨by omega, z⟩, fun z => z.2⟩
  unfold pDr
  rw [hw, e1]
  have st2 : ∀ t, t < 2048 → pStepped (Int32.ofNat t) (if gear m = 0 then 1 else -1) = qDec 1 (stN t (gear m)) := fun t ht => st_eq ht hg
  simp only [hm03]
  have o1 := hf _ hp
  have o2 := od _ sl
  rcases e_cases (o := o) p m with ⟨h, k⟩ | ⟨h1, h2, h3, h4, h5, h6⟩
  · rw [h, enc_zero]
    by_cases c : ¬ pOpen fo (Int32.ofNat p) ∨ ¬ pOpen fo (qDec 1 (stN p (gear m)))
    · rw [if_pos c]
    · rw [if_neg c]
      have c1 : pOpen fo (Int32.ofNat p) := Classical.byContradiction fun z => c (Or.inl z)
      have c2 : pOpen fo (qDec 1 (stN p (gear m))) := Classical.byContradiction fun z => c (Or.inr z)
      have c3 := o1.1 c1
      have c4 := o2.1 c2
      rw [c3, c4.2] at k
      simp only [Bool.true_eq_false, false_or, c4.1] at k
      obtain ⟨k1, k2⟩ := k
      rw [if_neg k1]
      apply if_neg
      rintro ⟨d1, d2⟩
      rw [dec_put (by omega : 0 < stN p (gear m)), tu_eq (by omega) hm k1] at d1 d2
      have d1' := (hf _ (tu_lt _ _)).1 d1
      rw [st2 _ (tu_lt _ _)] at d2
      have e3 : enN p m = stN (tuN (stN p (gear m) - 1) m) (gear m) := by unfold enN; rw [if_neg c4.1, if_neg k1]
      rw [← e3] at d2
      have d2' := (od _ (en_le hp)).1 d2
      rw [d1', d2'.2] at k2
      simp only [Bool.true_eq_false, false_or, or_false] at k2
      exact d2'.1 k2
  · rw [if_neg (fun z => z.elim (fun y => y (o1.2 h3)) (fun y => y (o2.2 ⟨h4, h5⟩))), h1]
    by_cases q3 : m % 3 = 0
    · rw [if_pos q3]
      unfold enN; rw [if_neg h4, if_pos q3]
    · have e3 : enN p m = stN (tuN (stN p (gear m) - 1) m) (gear m) := by unfold enN; rw [if_neg h4, if_neg q3]
      obtain ⟨d1, d2⟩ := h6.resolve_left q3
      rw [if_neg q3, dec_put (by omega : 0 < stN p (gear m)), tu_eq (by omega) hm q3, st2 _ (tu_lt _ _), ← e3]
      rw [if_pos ⟨(hf _ (tu_lt _ _)).2 d1, (od _ (en_le hp)).2 ⟨h2, d2⟩⟩]
theorem wt_le (p m : Nat) : wtN p m ≤ 24 := by
  unfold wtN
  repeat' split
  all_goals omega
end
