theorem st_some {p w : Nat} (h0 : stN p w ≠ 0) : (1 ≤ p % 16 + (if w = 0 then dxN (p / 256) else 2 - dxN (p / 256)) ∧ p % 16 + (if w = 0 then dxN (p / 256) else 2 - dxN (p / 256)) ≤ 16 ∧ 1 ≤ p / 16 % 16 + (if w = 0 then dyN (p / 256) else 2 - dyN (p / 256)) ∧ p / 16 % 16 + (if w = 0 then dyN (p / 256) else 2 - dyN (p / 256)) ≤ 16) ∧
    stN p w - 1 = 256 * (p / 256) + 16 * (p / 16 % 16 + (if w = 0 then dyN (p / 256) else 2 - dyN (p / 256)) - 1) + (p % 16 + (if w = 0 then dxN (p / 256) else 2 - dxN (p / 256)) - 1) := by
  unfold stN at h0 ⊢
  generalize (if w = 0 then dxN (p / 256) else 2 - dxN (p / 256)) = a at *
  generalize (if w = 0 then dyN (p / 256) else 2 - dyN (p / 256)) = b at *
  split at h0
  · rename_i z; rw [if_pos z]; exact ⟨z, by omega⟩
  · exact absurd rfl h0
theorem st_none {p w : Nat} (h0 : stN p w = 0) : ¬ (1 ≤ p % 16 + (if w = 0 then dxN (p / 256) else 2 - dxN (p / 256)) ∧ p % 16 + (if w = 0 then dxN (p / 256) else 2 - dxN (p / 256)) ≤ 16 ∧ 1 ≤ p / 16 % 16 + (if w = 0 then dyN (p / 256) else 2 - dyN (p / 256)) ∧ p / 16 % 16 + (if w = 0 then dyN (p / 256) else 2 - dyN (p / 256)) ≤ 16) := by
  intro z; unfold stN at h0; rw [if_pos z] at h0; omega
theorem fr_op {p : Nat} (hp : p < 2048) : frN (p % 16 + 1) (p / 16 % 16 + 1) (p / 256) = opN p := by
  have d1 := dx_le (p / 256)
  have d2 := dy_le (p / 256)
  have key : ((1 ≤ p % 16 + 1 ∧ p % 16 + 1 ≤ 16 ∧ 1 ≤ p / 16 % 16 + 1 ∧ p / 16 % 16 + 1 ≤ 16) ∧ (2 ≤ p % 16 + 1 + dxN (p / 256) ∧ p % 16 + 1 + dxN (p / 256) ≤ 17 ∧ 2 ≤ p / 16 % 16 + 1 + dyN (p / 256) ∧ p / 16 % 16 + 1 + dyN (p / 256) ≤ 17) ∧ (2 ≤ p % 16 + 1 + (2 - dxN (p / 256)) ∧ p % 16 + 1 + (2 - dxN (p / 256)) ≤ 17 ∧ 2 ≤ p / 16 % 16 + 1 + (2 - dyN (p / 256)) ∧ p / 16 % 16 + 1 + (2 - dyN (p / 256)) ≤ 17)) ↔ (stN p 0 ≠ 0 ∧ stN p 1 ≠ 0) := by
    constructor
    · intro z
      constructor
      · intro y; have := st_none y; simp only [if_true] at this; omega
      · intro y; have := st_none y; simp only [Nat.one_ne_zero, if_false] at this; omega
    · rintro ⟨y1, y2⟩
      have k1 := (st_some y1).1
      have k2 := (st_some y2).1
      simp only [if_true] at k1
      simp only [Nat.one_ne_zero, if_false] at k2
      omega
  unfold frN opN
  exact decide_eq_decide.2 key
theorem oi_16 {p : Nat} (hp : p < 2048) : qRem (Int32.ofNat p) 16 = Int32.ofNat (p % 16) ∧ qRem (Int32.ofNat p) 256 / 16 = Int32.ofNat (p / 16 % 16) ∧ Int32.ofNat p / 256 = Int32.ofNat (p / 256) := by
  have a : Int32.ofNat p - Int32.ofNat p / 16 * 16 = Int32.ofNat (p % 16) := oi_rem (by omega) (by decide)
  have b : Int32.ofNat p - Int32.ofNat p / 256 * 256 = Int32.ofNat (p % 256) := oi_rem (by omega) (by decide)
  have c : Int32.ofNat (p % 256) / 16 = Int32.ofNat (p % 256 / 16) := oi_div (by omega) (by decide)
  refine ⟨a, ?_, oi_div (by omega) (by decide)⟩
  unfold qRem
  rw [b, c, show p % 256 / 16 = p / 16 % 16 by omega]
theorem fr_on {p : Nat} (hp : p < 2048) : qFreeAt (fun _ => 0) 1 1 (qRem (Int32.ofNat p) 16) (qRem (Int32.ofNat p) 256 / 16) (Int32.ofNat p / 256) = if opN p = true then 1 else 0 := by
  obtain ⟨a, b, c⟩ := oi_16 hp
  rw [a, b, c, ← enc_succ, ← enc_succ, fr_eq (by omega) (by omega) (by omega), fr_op hp]
theorem m3_eq {m : Nat} (hm : m < 6) : (qRem (Int32.ofNat m) 3 = 0) = (m % 3 = 0) := by
  have a : Int32.ofNat m - Int32.ofNat m / 3 * 3 = Int32.ofNat (m % 3) := oi_rem (by omega) (by decide)
  unfold qRem
  rw [a]
  obtain z | z | z : m % 3 = 0 ∨ m % 3 = 1 ∨ m % 3 = 2 := by omega
  all_goals rw [z]; simp
theorem fr_of {p' a b g : Nat} (ha : 1 ≤ a ∧ a ≤ 16) (hb : 1 ≤ b ∧ b ≤ 16) (hg : g < 8) (h : p' = 256 * g + 16 * (b - 1) + (a - 1)) : frN a b g = opN p' := by
  rw [← fr_op (p := p') (by omega), show p' % 16 + 1 = a by omega, show p' / 16 % 16 + 1 = b by omega, show p' / 256 = g by omega]
theorem can_eq {p m : Nat} (hp : p < 2048) (hm : m < 6) : qCan (fun _ => 0) 1 1 (Int32.ofNat p) (Int32.ofNat m) ↔ eN p m ≠ 0 := by
  have hg := gear_lt m
  have d1 := dx_le (p / 256)
  have d2 := dy_le (p / 256)
  obtain ⟨r1, r2, r3⟩ := oi_16 hp
  have hE := end_eq hp hm
  have i01 : ∀ b : Bool, (¬ ((if b = true then (1 : Int32) else 0) = 0)) ↔ b = true := by intro b; cases b <;> simp
  have mm1 := (mid_eq (g := p / 256) (m := m) (x := p % 16) (by omega) hm (by omega)).1
  have mm2 := (mid_eq (g := p / 256) (m := m) (x := p / 16 % 16) (by omega) hm (by omega)).2
  unfold qCan qMid
  rw [hE, fr_on hp]
  simp only [m3_eq hm, r1, r2, r3, mm1, mm2, ne_eq, enc_eq (show enN p m ≤ 4096 by have := en_le (m := m) hp; omega)]
  rw [i01]
  have gm : (m < 3) = (gear m = 0) := by unfold gear; by_cases y : m < 3 <;> simp [y]
  simp only [gm]
  by_cases e0 : enN p m = 0
  · constructor
    · intro z; exact absurd e0 z.1
    · intro z; rcases e_cases p m with h | h
      · exact absurd h.1 z
      · exact absurd e0 h.2.1
  · have e0' : 0 < enN p m := by omega
    have hl := en_le (m := m) hp
    obtain ⟨s0, _, _, _⟩ := en_back hp hm e0
    obtain ⟨k1, k2⟩ := st_some s0
    rw [dec_put e0', fr_on (show enN p m - 1 < 2048 by omega), i01, (oi_16 (show enN p m - 1 < 2048 by omega)).2.2]
    have f1 : frN (p % 16 + (if gear m = 0 then dxN (p / 256) else 2 - dxN (p / 256))) (p / 16 % 16 + (if gear m = 0 then dyN (p / 256) else 2 - dyN (p / 256))) (p / 256) = opN (stN p (gear m) - 1) := fr_of ⟨k1.1, k1.2.1⟩ k1.2.2 (by omega) k2
    have f2 : m % 3 ≠ 0 → frN (p % 16 + (if gear m = 0 then dxN (p / 256) else 2 - dxN (p / 256))) (p / 16 % 16 + (if gear m = 0 then dyN (p / 256) else 2 - dyN (p / 256))) ((enN p m - 1) / 256) = opN (tuN (stN p (gear m) - 1) m) := by
      intro h3
      have e1 : enN p m = stN (tuN (stN p (gear m) - 1) m) (gear m) := by unfold enN; rw [if_neg s0, if_neg h3]
      have t0 : stN (tuN (stN p (gear m) - 1) m) (gear m) ≠ 0 := by rw [← e1]; exact e0
      have k3 := (st_some t0).2
      rw [← e1] at k3
      have tl := tu_lt (stN p (gear m) - 1) m
      have k4 := (st_some t0).1
      refine fr_of ⟨k1.1, k1.2.1⟩ k1.2.2 (by omega) ?_
      have hh : (enN p m - 1) / 256 = tuN (stN p (gear m) - 1) m / 256 := by omega
      rw [hh]
      have : tuN (stN p (gear m) - 1) m % 256 = (stN p (gear m) - 1) % 256 := by unfold tuN; omega
      omega
    rw [fr_eq (by split <;> omega) (by split <;> omega) (by omega), f1, i01]
    constructor
    · rintro ⟨_, a1, a2, a3⟩
      rcases e_cases p m with ⟨h, k⟩ | h
      · exfalso
        rcases a3 with a3 | ⟨a3, a4⟩
        · have e1 : enN p m = stN p (gear m) := by unfold enN; rw [if_neg s0, if_pos a3]
          rw [e1] at a2
          simp [a1, s0, a2, a3] at k
        · by_cases h3 : m % 3 = 0
          · have e1 : enN p m = stN p (gear m) := by unfold enN; rw [if_neg s0, if_pos h3]
            rw [e1] at a2
            simp [a1, s0, a2, h3] at k
          · rw [fr_eq (by split <;> omega) (by split <;> omega) (by omega), f2 h3, i01] at a4
            simp [a1, s0, a3, a4, a2, e0] at k
      · rw [h.1]; exact h.2.1
    · intro z
      rcases e_cases p m with h | ⟨h1, h2, h3, h4, h5, h6⟩
      · exact absurd h.1 z
      · refine ⟨e0, h3, ?_, ?_⟩
        · rcases h6 with h6 | h6
          · have e1 : enN p m = stN p (gear m) := by unfold enN; rw [if_neg s0, if_pos h6]
            rw [e1]; exact h5
          · exact h6.2
        · by_cases q3 : m % 3 = 0
          · exact Or.inl q3
          · right
            refine ⟨h5, ?_⟩
            rw [fr_eq (by split <;> omega) (by split <;> omega) (by omega), f2 q3, i01]
            exact (h6.resolve_left q3).1
theorem fo_eq {p : Nat} (hp : p < 2048) : p1Fo p = if opN p = true then 1 else 0 := by
  have a := st_eq (w := 0) hp (by decide)
  have b := st_eq (w := 1) hp (by decide)
  simp only [if_true] at a
  simp only [Nat.one_ne_zero, if_false] at b
  have c1 : ∀ w : Int32, pClr (fun _ => 0) w (1 : Int32).toInt.toNat (Int32.ofNat p) = if pStepped (Int32.ofNat p) w = -1 then 0 else 1 := by
    intro w
    show (if pStepped (Int32.ofNat p) w = -1 then (0 : Int32) else if (0 : Int32) < 0 then 0 else 1) = _
    rfl
  unfold p1Fo pJudge opN
  rw [c1, c1, a, b]
  have e1 : (qDec 1 (stN p 0) = -1) = (stN p 0 = 0) := enc_eq (by have := st_le (w := 0) hp; omega)
  have e2 : (qDec 1 (stN p 1) = -1) = (stN p 1 = 0) := enc_eq (by have := st_le (w := 1) hp; omega)
  simp only [e1, e2]
  by_cases z1 : stN p 0 = 0 <;> by_cases z2 : stN p 1 = 0 <;> simp [z1, z2, pB, pAt]
theorem op_eq {fo : Nat → Int32} (hf : ∀ j, j < 2048 → fo j = p1Fo j) {p : Nat} (hp : p < 2048) : pOpen fo (Int32.ofNat p) ↔ opN p = true := by
  unfold pOpen
  rw [oi_nat (by omega), hf p hp, fo_eq hp]
  have h1 : (0 : Int32) ≤ Int32.ofNat p := by rw [show (0 : Int32) = Int32.ofNat 0 from rfl, oi_le (by decide) (by omega)]; omega
  have h2 : Int32.ofNat p < 2048 := by rw [show (2048 : Int32) = Int32.ofNat 2048 from rfl, oi_lt (by omega) (by decide)]; omega
  cases opN p <;> simp [h1, h2]
theorem geo_E {fo : Nat → Int32} (hf : ∀ j, j < 2048 → fo j = p1Fo j) : geoE fo eN := by
  intro p m hp hm
  refine ⟨?_, geo_L p m hp hm⟩
  have hg := gear_lt m
  have hw : pWay (Int32.ofNat m) = if gear m = 0 then 1 else -1 := by
    unfold pWay gear
    simp only [oi_lt3 (show m < 2 ^ 31 by omega)]
    by_cases y : m < 3 <;> simp [y]
  have hm03 : (Int32.ofNat m = 0 ∨ Int32.ofNat m = 3) = (m % 3 = 0) := by
    obtain rfl | rfl | rfl | rfl | rfl | rfl : m = 0 ∨ m = 1 ∨ m = 2 ∨ m = 3 ∨ m = 4 ∨ m = 5 := by omega
    all_goals simp
  have e1 := st_eq hp hg
  have sl := st_le (w := gear m) hp
  have od : ∀ v : Nat, v ≤ 2048 → (pOpen fo (qDec 1 v) ↔ (v ≠ 0 ∧ opN (v - 1) = true)) := by
    intro v hv
    cases v with
    | zero => rw [enc_zero]; exact ⟨fun z => absurd z open_neg, fun z => absurd rfl z.1⟩
    | succ v => rw [enc_succ, op_eq hf (by omega), Nat.add_sub_cancel]; exact ⟨fun z => ⟨by omega, z⟩, fun z => z.2⟩
  unfold pDr
  rw [hw, e1]
  have st2 : ∀ t, t < 2048 → pStepped (Int32.ofNat t) (if gear m = 0 then 1 else -1) = qDec 1 (stN t (gear m)) := fun t ht => st_eq ht hg
  simp only [hm03]
  have o1 := op_eq hf hp
  have o2 := od _ sl
  rcases e_cases p m with ⟨h, k⟩ | ⟨h1, h2, h3, h4, h5, h6⟩
  · rw [h, enc_zero]
    by_cases c : ¬ pOpen fo (Int32.ofNat p) ∨ ¬ pOpen fo (qDec 1 (stN p (gear m)))
    · rw [if_pos c]
    · rw [if_neg c]
      have c1 : pOpen fo (Int32.ofNat p) := Classical.byContradiction fun z => c (Or.inl z)
      have c2 : pOpen fo (qDec 1 (stN p (gear m))) := Classical.byContradiction fun z => c (Or.inr z)
      have c3 := o1.1 c1
      have c4 := o2.1 c2
      rw [c3, c4.2] at k
      simp only [Bool.true_eq_false, false_or, c4.1] at k
      obtain ⟨k1, k2⟩ := k
      rw [if_neg k1]
      apply if_neg
      rintro ⟨d1, d2⟩
      rw [dec_put (by omega : 0 < stN p (gear m)), tu_eq (by omega) hm k1] at d1 d2
      have d1' := (op_eq hf (tu_lt _ _)).1 d1
      rw [st2 _ (tu_lt _ _)] at d2
      have e3 : enN p m = stN (tuN (stN p (gear m) - 1) m) (gear m) := by unfold enN; rw [if_neg c4.1, if_neg k1]
      rw [← e3] at d2
      have d2' := (od _ (en_le hp)).1 d2
      rw [d1', d2'.2] at k2
      simp only [Bool.true_eq_false, false_or, or_false] at k2
      exact d2'.1 k2
  · rw [if_neg (fun z => z.elim (fun y => y (o1.2 h3)) (fun y => y (o2.2 ⟨h4, h5⟩))), h1]
    by_cases q3 : m % 3 = 0
    · rw [if_pos q3]
      unfold enN; rw [if_neg h4, if_pos q3]
    · have e3 : enN p m = stN (tuN (stN p (gear m) - 1) m) (gear m) := by unfold enN; rw [if_neg h4, if_neg q3]
      obtain ⟨d1, d2⟩ := h6.resolve_left q3
      rw [if_neg q3, dec_put (by omega : 0 < stN p (gear m)), tu_eq (by omega) hm q3, st2 _ (tu_lt _ _), ← e3]
      rw [if_pos ⟨(op_eq hf (tu_lt _ _)).2 d1, (od _ (en_le hp)).2 ⟨h2, d2⟩⟩]
def canN (p m : Nat) : Nat := if eN p m = 0 then 0 else 1
theorem geo_C {fcan : Nat → Int32} (hf : p1Can fcan) : geoC fcan canN := by
  intro p m hp hm
  refine ⟨?_, by unfold canN; split <;> omega⟩
  rw [hf p m hp hm]
  unfold canN
  by_cases z : eN p m = 0
  · rw [if_pos z, if_neg (fun y => (can_eq hp hm).1 y z)]; rfl
  · rw [if_neg z, if_pos ((can_eq hp hm).2 z)]; rfl
theorem geo_K : geoK eN enN canN := by
  intro p m hp hm
  unfold canN
  constructor
  · intro z
    have z : eN p m ≠ 0 := fun y => by rw [if_pos y] at z; exact z rfl
    rcases e_cases p m with h | h
    · exact absurd h.1 z
    · have := h.2.1; exact ⟨h.1, by omega⟩
  · intro z
    by_cases y : eN p m = 0
    · exact y
    · rw [if_neg y] at z; omega
theorem wt_le (p m : Nat) : wtN p m ≤ 24 := by
  unfold wtN
  repeat' split
  all_goals omega
theorem geo_W {fc : Nat → Int32} (hf : ∀ j, j < 256 → fc j = 16) : geoW fc 0 (fun p m _ => wtN p m) := by
  intro p m q hp hm hq
  refine ⟨?_, by have := wt_le p m; show wtN p m ≤ 49; omega⟩
  unfold pOf
  have a := and255 (Int32.ofNat q)
  have : pAt fc (Int32.ofNat q) = 16 := by
    unfold pAt; rw [oi_and255 (by omega), oi_nat (by omega)]; exact hf _ (by omega)
  rw [this, if_neg (by decide), (wt_eq hp hm).1, Int32.mul_zero, Int32.add_zero]
theorem geo_V {fc : Nat → Int32} (hf : ∀ j, j < 256 → fc j = 16) : geoV fc 0 enN (fun p m _ => wtN p m) := by
  intro p m hp hm _
  refine ⟨?_, by have := wt_le p m; show wtN p m ≤ 49; omega⟩
  unfold dOf
  rw [hf _ (Nat.mod_lt _ (by decide)), if_neg (by decide), (wt_eq hp hm).2, Int32.add_zero]
theorem can_pos : ∀ p m, p < 2048 → m < 6 → canN p m ≠ 0 → 0 < enN p m := fun p m hp hm h => ((geo_K p m hp hm).1 h).2
