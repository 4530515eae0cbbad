def fldF (f : Nat → wS → wS) : Nat → Nat → wS → wS
  | 0, _, s => s
  | d + 1, i, s => fldF f d (i + 1) (f i s)
theorem fldF_none {f : Nat → wS → wS} : ∀ (d i : Nat) (s : wS), (∀ j, i ≤ j → j < i + d → f j s = s) → fldF f d i s = s
  | 0, _, _, _ => rfl
  | d + 1, i, s, h => by
    unfold fldF
    rw [h i (Nat.le_refl _) (by omega)]
    exact fldF_none d (i + 1) s (fun j h1 h2 => h j (by omega) (by omega))
theorem fldF_one {f : Nat → wS → wS} {b : Nat} : ∀ (d i : Nat) (s : wS), i ≤ b → b < i + d → (∀ j t, i ≤ j → j < i + d → j ≠ b → f j t = t) → fldF f d i s = f b s
  | 0, i, s, h1, h2, _ => absurd h1 (by omega)
  | d + 1, i, s, h1, h2, h => by
    unfold fldF
    by_cases e : i = b
    · subst e
      exact fldF_none d (i + 1) _ (fun j h3 h4 => h j _ (by omega) (by omega) (by omega))
    · rw [h i s (Nat.le_refl _) (by omega) e]
      exact fldF_one d (i + 1) s (by omega) (by omega) (fun j t h3 h4 h5 => h j t (by omega) (by omega) h5)
/-- how many arcs of a kind turn a heading into another -/
def cB (h g2 kk : Nat) : Nat := if kk = 1 then (h + 8 - g2) % 8 else (g2 + 8 - h) % 8
theorem ck_cB : allB 8 (fun h => allB 8 fun g2 => allB 2 fun z => allB 8 fun i => decide ((hdN h (z + 1) i = g2 ↔ i = cB h g2 (z + 1)) ∧ vC h (z + 1) i = 24 * i)) = true := by decide +kernel
theorem cB_eq {h g2 kk i : Nat} (hh : h < 8) (hg : g2 < 8) (hk : kk = 1 ∨ kk = 2) (hi : i < 8) : (hdN h kk i = g2 ↔ i = cB h g2 kk) ∧ vC h kk i = 24 * i := by
  have := of_decide_eq_true (allB_get (allB_get (allB_get (allB_get ck_cB h hh) g2 hg) (kk - 1) (by omega)) i hi)
  rwa [show kk - 1 + 1 = kk by omega] at this
theorem cB_lt (h g2 kk : Nat) : cB h g2 kk < 8 := by unfold cB; split <;> omega
theorem cF_fld {g2 : Nat} {X Y : Int32} {w a b : Nat} {x y : Int32} {h C kk : Nat} : ∀ (d i : Nat) (s : wS), cF g2 X Y w a b x y h C kk d i s = fldF (fun i s => if x + vX h kk i = X ∧ y + vY h kk i = Y ∧ hdN h kk i = g2 then wOff s w a b i (C + vC h kk i) else s) d i s
  | 0, _, _ => rfl
  | d + 1, i, s => by unfold cF fldF; exact cF_fld d (i + 1) _
theorem cF_eq {g2 : Nat} {X Y : Int32} {w a b : Nat} {x y : Int32} {h C kk : Nat} (hh : h < 8) (hg : g2 < 8) (hk : kk = 1 ∨ kk = 2) (s : wS) :
    cF g2 X Y w a b x y h C kk 8 0 s = if x + vX h kk (cB h g2 kk) = X ∧ y + vY h kk (cB h g2 kk) = Y then wOff s w a b (cB h g2 kk) (C + 24 * cB h g2 kk) else s := by
  have hc := cB_lt h g2 kk
  rw [cF_fld, fldF_one (b := cB h g2 kk) 8 0 s (by omega) (by omega)]
  · have e := cB_eq hh hg hk hc
    have e1 : hdN h kk (cB h g2 kk) = g2 := e.1.2 rfl
    simp only [e1, and_true, e.2]
  · intro j t h1 h2 h3
    show (if _ then _ else _) = t
    rw [if_neg]
    rintro ⟨_, _, z⟩
    exact h3 ((cB_eq hh hg hk (by omega)).1.1 z)
theorem bF_fld {q : Nat} {X Y : Int32} {w a : Nat} {x y : Int32} {h C : Nat} : ∀ (d i : Nat) (s : wS), bF q X Y w a x y h C d i s = fldF (fun i s => cF q X Y w a i (x + vX h (kN w 1) i) (y + vY h (kN w 1) i) (hdN h (kN w 1) i) (C + vC h (kN w 1) i) (kN w 2) 8 0 s) d i s
  | 0, _, _ => rfl
  | d + 1, i, s => by unfold bF fldF; exact bF_fld d (i + 1) _
theorem off_skip {s : wS} {w a b c cost : Nat} (h : s.1 ≤ cost) : wOff s w a b c cost = s := by unfold wOff; rw [if_neg (by omega)]
theorem cF_skip {g2 : Nat} {X Y : Int32} {w a b : Nat} {x y : Int32} {h C kk : Nat} {s : wS} (hs : s.1 ≤ C) (d i : Nat) : cF g2 X Y w a b x y h C kk d i s = s := by
  rw [cF_fld]
  refine fldF_none d i s (fun j h1 h2 => ?_)
  show (if _ then _ else _) = s
  split
  · exact off_skip (by omega)
  · rfl
theorem bF_skip {q : Nat} {X Y : Int32} {w a : Nat} {x y : Int32} {h C : Nat} {s : wS} (hs : s.1 ≤ C) (d i : Nat) : bF q X Y w a x y h C d i s = s := by
  rw [bF_fld]
  exact fldF_none d i s (fun j h1 h2 => cF_skip (by omega) 8 0)
theorem kN_02 (w : Nat) : (kN w 0 = 1 ∨ kN w 0 = 2) ∧ (kN w 2 = 1 ∨ kN w 2 = 2) := by
  unfold kN
  constructor
  · rw [if_neg (by decide), if_pos rfl]; split <;> omega
  · rw [if_neg (by decide), if_neg (by decide)]; split <;> omega
theorem aF_skip {q : Nat} {X Y : Int32} {w g : Nat} (hg : g < 8) : ∀ (d i : Nat) (s : wS), i + d ≤ 8 → s.1 ≤ 24 * i → aF q X Y w g d i s = s
  | 0, _, _, _, _ => rfl
  | d + 1, i, s, hi, hs => by
    unfold aF
    have e := (cB_eq (g2 := 0) hg (by decide) (kN_02 w).1 (show i < 8 by omega)).2
    rw [bF_skip (by omega)]
    exact aF_skip hg d (i + 1) s (by omega) (by omega)
/-- straight on -/
theorem hdN_0 {g : Nat} (hg : g < 8) : ∀ n, hdN g 0 n = g
  | 0 => rfl
  | n + 1 => by rw [hdN, hdN_0 hg n]; unfold hd1; simp; omega
theorem vC_0 {g : Nat} (hg : g < 8) : ∀ n, vC g 0 n = n * (if g % 2 = 0 then 10 else 14)
  | 0 => by simp [vC]
  | n + 1 => by rw [vC, hdN_0 hg, vC_0 hg n, Nat.succ_mul]; rfl
theorem ck_line : allB 8 (fun g => allB 16 fun b => decide (vX g 0 b = Int32.ofNat b * pSx (Int32.ofNat g) ∧ vY g 0 b = Int32.ofNat b * pSy (Int32.ofNat g) ∧
    (if (if 0 ≤ vX g 0 b then vX g 0 b else 0 - vX g 0 b) < (if 0 ≤ vY g 0 b then vY g 0 b else 0 - vY g 0 b) then (if 0 ≤ vY g 0 b then vY g 0 b else 0 - vY g 0 b) else (if 0 ≤ vX g 0 b then vX g 0 b else 0 - vX g 0 b)) = Int32.ofNat b)) = true := by decide +kernel
def pMax (x y : Int32) : Int32 := if (if 0 ≤ x then x else 0 - x) < (if 0 ≤ y then y else 0 - y) then (if 0 ≤ y then y else 0 - y) else (if 0 ≤ x then x else 0 - x)
theorem line_eq {g b : Nat} (hg : g < 8) (hb : b < 16) : vX g 0 b = Int32.ofNat b * pSx (Int32.ofNat g) ∧ vY g 0 b = Int32.ofNat b * pSy (Int32.ofNat g) ∧ pMax (vX g 0 b) (vY g 0 b) = Int32.ofNat b := of_decide_eq_true (allB_get (allB_get ck_line g hg) b hb)
theorem ring_eq {u v w z : Int32} : (u + v + w = z) ↔ v = z - u - w := by
  constructor
  · intro h; rw [← h, Int32.add_comm u v, Int32.add_assoc, Int32.add_comm u w, ← Int32.add_assoc, Int32.add_sub_cancel, Int32.add_sub_cancel]
  · intro h
    rw [h, Int32.add_comm u, Int32.sub_eq_add_neg, Int32.sub_eq_add_neg, Int32.add_assoc (z + -u + -w) u w, Int32.add_comm u w, ← Int32.add_assoc (z + -u + -w) w u, Int32.add_assoc (z + -u) (-w) w, Int32.add_left_neg, Int32.add_zero, Int32.add_assoc z (-u) u, Int32.add_left_neg, Int32.add_zero]
