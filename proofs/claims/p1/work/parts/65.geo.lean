def p1Fo (j : Nat) : Int32 := pJudge (fun _ => 0) 1 1 (Int32.ofNat j)
def p1Can (fcan : Nat → Int32) : Prop := ∀ p m, p < 2048 → m < 6 → fcan (6 * p + m) = @ite _ (qCan (fun _ => 0) 1 1 (Int32.ofNat p) (Int32.ofNat m)) (Classical.propDecidable _) 1 0
theorem st_eq {p w : Nat} (hp : p < 2048) (hw : w < 2) : pStepped (Int32.ofNat p) (if w = 0 then 1 else -1) = qDec 1 (stN p w) := of_decide_eq_true (allB_get (allP_get ck_step hp) w hw)
theorem tu_eq {p m : Nat} (hp : p < 2048) (hm : m < 6) (h3 : m % 3 ≠ 0) : pTurned (Int32.ofNat p) (Int32.ofNat m) = Int32.ofNat (tuN p m) := (of_decide_eq_true (allB_get (allP_get ck_turn hp) m hm)).resolve_left h3
theorem end_eq {p m : Nat} (hp : p < 2048) (hm : m < 6) : qEnd (Int32.ofNat p) (Int32.ofNat m) = qDec 1 (enN p m) := of_decide_eq_true (allB_get (allP_get ck_end hp) m hm)
theorem wt_eq {p m : Nat} (hp : p < 2048) (hm : m < 6) : pSteps (pH (Int32.ofNat p)) (Int32.ofNat m) = Int32.ofNat (wtN p m) ∧ qSteps (Int32.ofNat p / 256) (Int32.ofNat m) = Int32.ofNat (wtN p m) := of_decide_eq_true (allB_get (allP_get ck_wt hp) m hm)
theorem back_eq {p w : Nat} (hp : p < 2048) (hw : w < 2) (h0 : stN p w ≠ 0) : stN (stN p w - 1) (1 - w) = p + 1 := (of_decide_eq_true (allB_get (allP_get ck_back hp) w hw)).resolve_left h0
theorem tt_eq {p m : Nat} (hp : p < 2048) (hm : m < 6) (h3 : m % 3 ≠ 0) : tuN (tuN p m) ((m + 3) % 6) = p := (of_decide_eq_true (allB_get (allP_get ck_tt hp) m hm)).resolve_left h3
theorem fr_eq {a b g : Nat} (ha : a < 18) (hb : b < 18) (hg : g < 8) : qFreeAt (fun _ => 0) 1 1 (qDec 1 a) (qDec 1 b) (Int32.ofNat g) = if frN a b g = true then 1 else 0 := of_decide_eq_true (allB_get (allB_get (allB_get ck_fr g hg) b hb) a ha)
theorem mid_eq {g m x : Nat} (hg : g < 8) (hm : m < 6) (hx : x < 16) : Int32.ofNat x + (if 2 < Int32.ofNat m then -1 else 1) * qSx (Int32.ofNat g) = qDec 1 (x + (if m < 3 then dxN g else 2 - dxN g)) ∧ Int32.ofNat x + (if 2 < Int32.ofNat m then -1 else 1) * qSy (Int32.ofNat g) = qDec 1 (x + (if m < 3 then dyN g else 2 - dyN g)) := of_decide_eq_true (allB_get (allB_get (allB_get ck_mid g hg) m hm) x hx)
theorem dx_le (g : Nat) : dxN g ≤ 2 := by unfold dxN; split <;> decide
theorem dy_le (g : Nat) : dyN g ≤ 2 := by unfold dyN; split <;> decide
theorem st_le {p w : Nat} (hp : p < 2048) : stN p w ≤ 2048 := by
  unfold stN
  generalize (if w = 0 then dxN (p / 256) else 2 - dxN (p / 256)) = a
  generalize (if w = 0 then dyN (p / 256) else 2 - dyN (p / 256)) = b
  split <;> omega
theorem tu_lt (p m : Nat) : tuN p m < 2048 := by unfold tuN; omega
theorem en_le {p m : Nat} (hp : p < 2048) : enN p m ≤ 2048 := by
  unfold enN; repeat' split
  · omega
  · exact st_le hp
  · exact st_le (tu_lt _ _)
theorem e_cases (p m : Nat) : (eN p m = 0 ∧ (opN p = false ∨ stN p (gear m) = 0 ∨ opN (stN p (gear m) - 1) = false ∨ m % 3 ≠ 0 ∧ (opN (tuN (stN p (gear m) - 1) m) = false ∨ enN p m = 0 ∨ opN (enN p m - 1) = false))) ∨
    (eN p m = enN p m ∧ enN p m ≠ 0 ∧ opN p = true ∧ stN p (gear m) ≠ 0 ∧ opN (stN p (gear m) - 1) = true ∧ (m % 3 = 0 ∨ opN (tuN (stN p (gear m) - 1) m) = true ∧ opN (enN p m - 1) = true)) := by
  unfold eN
  by_cases a : opN p = false ∨ stN p (gear m) = 0 ∨ opN (stN p (gear m) - 1) = false
  · rw [if_pos a]; left; refine ⟨rfl, ?_⟩
    rcases a with a | a | a
    · exact Or.inl a
    · exact Or.inr (Or.inl a)
    · exact Or.inr (Or.inr (Or.inl a))
  · rw [if_neg a]
    have a1 : opN p = true := by cases q : opN p; exact absurd (Or.inl q) a; rfl
    have a2 : stN p (gear m) ≠ 0 := fun q => a (Or.inr (Or.inl q))
    have a3 : opN (stN p (gear m) - 1) = true := by cases q : opN (stN p (gear m) - 1); exact absurd (Or.inr (Or.inr q)) a; rfl
    by_cases h3 : m % 3 = 0
    · rw [if_pos h3]; right
      have : enN p m = stN p (gear m) := by unfold enN; rw [if_neg a2, if_pos h3]
      rw [this]; exact ⟨rfl, a2, a1, a2, a3, Or.inl h3⟩
    · rw [if_neg h3]
      by_cases b : opN (tuN (stN p (gear m) - 1) m) = false ∨ enN p m = 0 ∨ opN (enN p m - 1) = false
      · rw [if_pos b]; left; exact ⟨rfl, Or.inr (Or.inr (Or.inr ⟨h3, b⟩))⟩
      · rw [if_neg b]; right
        have b1 : opN (tuN (stN p (gear m) - 1) m) = true := by cases q : opN (tuN (stN p (gear m) - 1) m); exact absurd (Or.inl q) b; rfl
        have b2 : opN (enN p m - 1) = true := by cases q : opN (enN p m - 1); exact absurd (Or.inr (Or.inr q)) b; rfl
        exact ⟨rfl, fun q => b (Or.inr (Or.inl q)), a1, a2, a3, Or.inr ⟨b1, b2⟩⟩
theorem gear_opp {m : Nat} (hm : m < 6) : gear ((m + 3) % 6) = 1 - gear m := by
  unfold gear
  repeat' split
  all_goals omega
theorem gear_opp2 {m : Nat} (hm : m < 6) : 1 - gear ((m + 3) % 6) = gear m := by rw [gear_opp hm]; have := gear_lt m; omega
/-- a move's middle, and its opposite's -/
theorem en_back {p m : Nat} (hp : p < 2048) (hm : m < 6) (h0 : enN p m ≠ 0) : stN p (gear m) ≠ 0 ∧ enN (enN p m - 1) ((m + 3) % 6) = p + 1 ∧
    (m % 3 = 0 → stN (enN p m - 1) (gear ((m + 3) % 6)) = p + 1) ∧ (m % 3 ≠ 0 → stN (enN p m - 1) (gear ((m + 3) % 6)) = tuN (stN p (gear m) - 1) m + 1 ∧ tuN (stN (enN p m - 1) (gear ((m + 3) % 6)) - 1) ((m + 3) % 6) = stN p (gear m) - 1) := by
  have hg := gear_lt m
  have s0 : stN p (gear m) ≠ 0 := by
    intro z; unfold enN at h0; rw [if_pos z] at h0; exact h0 rfl
  have h33 : ((m + 3) % 6) % 3 = m % 3 := by omega
  have b1 := back_eq hp hg s0
  have sl := st_le (w := gear m) hp
  refine ⟨s0, ?_⟩
  by_cases h3 : m % 3 = 0
  · have e1 : enN p m = stN p (gear m) := by unfold enN; rw [if_neg s0, if_pos h3]
    have e2 : stN (enN p m - 1) (gear ((m + 3) % 6)) = p + 1 := by rw [e1, gear_opp hm]; exact b1
    refine ⟨?_, fun _ => e2, fun z => absurd h3 z⟩
    unfold enN at e2 ⊢
    rw [if_neg s0, if_pos h3] at e2 ⊢
    rw [e2, if_neg (by omega), h33, if_pos h3]
  · have e1 : enN p m = stN (tuN (stN p (gear m) - 1) m) (gear m) := by unfold enN; rw [if_neg s0, if_neg h3]
    have t0 : stN (tuN (stN p (gear m) - 1) m) (gear m) ≠ 0 := by rw [← e1]; exact h0
    have b2 := back_eq (tu_lt (stN p (gear m) - 1) m) hg t0
    have e2 : stN (enN p m - 1) (gear ((m + 3) % 6)) = tuN (stN p (gear m) - 1) m + 1 := by rw [e1, gear_opp hm]; exact b2
    have tt := tt_eq (show stN p (gear m) - 1 < 2048 by omega) hm h3
    refine ⟨?_, fun z => absurd z h3, fun _ => ⟨e2, by rw [e2, Nat.add_sub_cancel]; exact tt⟩⟩
    have e3 : enN (enN p m - 1) ((m + 3) % 6) = stN (tuN (stN (enN p m - 1) (gear ((m + 3) % 6)) - 1) ((m + 3) % 6)) (gear ((m + 3) % 6)) := by
      conv => lhs; unfold enN
      rw [if_neg (by rw [show (if stN p (gear m) = 0 then 0 else if m % 3 = 0 then stN p (gear m) else stN (tuN (stN p (gear m) - 1) m) (gear m)) = enN p m from rfl, e2]; omega), h33, if_neg h3]
      rfl
    rw [e3, e2, Nat.add_sub_cancel, tt, gear_opp hm]
    exact b1
theorem geo_B : geoB enN := by
  intro q m hq hm h0
  have := (en_back hq (show (m + 3) % 6 < 6 from Nat.mod_lt _ (by decide)) (by omega)).2.1
  rwa [show ((m + 3) % 6 + 3) % 6 = m by omega] at this
theorem geo_N : geoN enN := fun p m hp hm => ⟨end_eq hp hm, en_le hp⟩
theorem geo_L : geoL eN := by
  intro p m hp hm
  rcases e_cases p m with h | h
  · rw [h.1]; omega
  · rw [h.1]; exact en_le hp
theorem geo_S : geoS eN := by
  intro p m hp hm h0
  rcases e_cases p m with h | ⟨h1, h2, h3, h4, h5, h6⟩
  · omega
  · obtain ⟨s0, b1, b2, b3⟩ := en_back hp hm h2
    have hl := en_le (m := m) hp
    rw [h1]
    rcases e_cases (enN p m - 1) ((m + 3) % 6) with ⟨z, k⟩ | ⟨z, _⟩
    · exfalso
      have h33 : ((m + 3) % 6) % 3 = m % 3 := by omega
      by_cases q3 : m % 3 = 0
      · have e1 : enN p m = stN p (gear m) := by unfold enN; rw [if_neg s0, if_pos q3]
        have c := b2 q3
        rw [c, b1, Nat.add_sub_cancel, e1, h5, h3] at k
        simp [h33, q3] at k
      · obtain ⟨c1, c2⟩ := b3 q3
        obtain ⟨d1, d2⟩ := h6.resolve_left q3
        rw [c2, b1, c1, Nat.add_sub_cancel, Nat.add_sub_cancel, d2, d1, h5, h3] at k
        simp at k
    · rw [z]; exact b1
