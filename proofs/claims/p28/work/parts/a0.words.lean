section
/-- a word that leads from a heading as far as told -/
def wOk (g g2 : Nat) (X Y : Int32) (w a b c : Nat) : Prop :=
  (w < 6 ∧ a < 8 ∧ b < (if w < 4 then 16 else 8) ∧ c < 8) ∧
  (0 + vX g (kN w 0) a + vX (hdN g (kN w 0) a) (kN w 1) b + vX (hdN (hdN g (kN w 0) a) (kN w 1) b) (kN w 2) c = X ∧
   0 + vY g (kN w 0) a + vY (hdN g (kN w 0) a) (kN w 1) b + vY (hdN (hdN g (kN w 0) a) (kN w 1) b) (kN w 2) c = Y ∧
   hdN (hdN (hdN g (kN w 0) a) (kN w 1) b) (kN w 2) c = g2)
def wCo (g w a b c : Nat) : Nat := 0 + vC g (kN w 0) a + vC (hdN g (kN w 0) a) (kN w 1) b + vC (hdN (hdN g (kN w 0) a) (kN w 1) b) (kN w 2) c
variable {Rl : wS → wS → Prop} {g2 : Nat} {X Y : Int32}
theorem cF_rel {w a b : Nat} {x y : Int32} {h C kk : Nat}
    (H : ∀ i s t, i < 8 → (x + vX h kk i = X ∧ y + vY h kk i = Y ∧ hdN h kk i = g2) → Rl s t → Rl (wOff s w a b i (C + vC h kk i)) (wOff t w a b i (C + vC h kk i))) :
    ∀ d i s t, i + d ≤ 8 → Rl s t → Rl (cF g2 X Y w a b x y h C kk d i s) (cF g2 X Y w a b x y h C kk d i t)
  | 0, _, _, _, _, r => r
  | d + 1, i, s, t, hi, r => by
    unfold cF
    refine cF_rel H d (i + 1) _ _ (by omega) ?_
    by_cases c : x + vX h kk i = X ∧ y + vY h kk i = Y ∧ hdN h kk i = g2
    · rw [if_pos c, if_pos c]; exact H i s t (by omega) c r
    · rw [if_neg c, if_neg c]; exact r
theorem bF_rel {w a : Nat} {x y : Int32} {h C n : Nat}
    (H : ∀ i s t, i < n → Rl s t → Rl (cF g2 X Y w a i (x + vX h (kN w 1) i) (y + vY h (kN w 1) i) (hdN h (kN w 1) i) (C + vC h (kN w 1) i) (kN w 2) 8 0 s) (cF g2 X Y w a i (x + vX h (kN w 1) i) (y + vY h (kN w 1) i) (hdN h (kN w 1) i) (C + vC h (kN w 1) i) (kN w 2) 8 0 t)) :
    ∀ d i s t, i + d ≤ n → Rl s t → Rl (bF g2 X Y w a x y h C d i s) (bF g2 X Y w a x y h C d i t)
  | 0, _, _, _, _, r => r
  | d + 1, i, s, t, hi, r => by
    unfold bF
    exact bF_rel H d (i + 1) _ _ (by omega) (H i s t (by omega) r)
theorem aF_rel {w g : Nat}
    (H : ∀ i s t, i < 8 → Rl s t → Rl (bF g2 X Y w i (0 + vX g (kN w 0) i) (0 + vY g (kN w 0) i) (hdN g (kN w 0) i) (0 + vC g (kN w 0) i) (if w < 4 then 16 else 8) 0 s) (bF g2 X Y w i (0 + vX g (kN w 0) i) (0 + vY g (kN w 0) i) (hdN g (kN w 0) i) (0 + vC g (kN w 0) i) (if w < 4 then 16 else 8) 0 t)) :
    ∀ d i s t, i + d ≤ 8 → Rl s t → Rl (aF g2 X Y w g d i s) (aF g2 X Y w g d i t)
  | 0, _, _, _, _, r => r
  | d + 1, i, s, t, hi, r => by
    unfold aF
    exact aF_rel H d (i + 1) _ _ (by omega) (H i s t (by omega) r)
theorem wF_relL {g : Nat} (H : ∀ w s t, w < 6 → Rl s t → Rl (aF g2 X Y w g 8 0 s) (aF g2 X Y w g 8 0 t)) :
    ∀ d i s t, i + d ≤ 6 → Rl s t → Rl (wF g2 X Y g d i s) (wF g2 X Y g d i t)
  | 0, _, _, _, _, r => r
  | d + 1, i, s, t, hi, r => by
    unfold wF
    exact wF_relL H d (i + 1) _ _ (by omega) (H i s t (by omega) r)
theorem wF_rel {g : Nat} (H : ∀ w a b c s t, wOk g g2 X Y w a b c → Rl s t → Rl (wOff s w a b c (wCo g w a b c)) (wOff t w a b c (wCo g w a b c))) {s t : wS} (r : Rl s t) : Rl (wF g2 X Y g 6 0 s) (wF g2 X Y g 6 0 t) :=
  wF_relL (fun w s t hw r => aF_rel (fun a s t ha r => bF_rel (n := if w < 4 then 16 else 8) (fun b s t hb r => cF_rel (fun c s t hc ck r => H w a b c s t ⟨⟨hw, ha, hb, hc⟩, ck⟩ r) 8 0 s t (by omega) r) _ 0 s t (by omega) r) 8 0 s t (by omega) r) 6 0 s t (by omega) r
theorem wF_inv {I : wS → Prop} {g : Nat} (H : ∀ w a b c s, wOk g g2 X Y w a b c → I s → I (wOff s w a b c (wCo g w a b c))) {s : wS} (r : I s) : I (wF g2 X Y g 6 0 s) :=
  wF_rel (Rl := fun s _ => I s) (fun w a b c s _ k r => H w a b c s k r) (t := s) r
-- the least cost
theorem off_le (s : wS) (w a b c cost : Nat) : (wOff s w a b c cost).1 ≤ s.1 := by unfold wOff; split <;> simp_all; omega
theorem off_le2 (s : wS) (w a b c cost : Nat) : (wOff s w a b c cost).1 ≤ cost := by unfold wOff; split <;> simp_all
theorem cF_le {w a b : Nat} {x y : Int32} {h C kk : Nat} : ∀ d i s, (cF g2 X Y w a b x y h C kk d i s).1 ≤ s.1
  | 0, _, _ => Nat.le_refl _
  | d + 1, i, s => by
    unfold cF
    refine Nat.le_trans (cF_le d (i + 1) _) ?_
    split
    · exact off_le _ _ _ _ _ _
    · exact Nat.le_refl _
theorem bF_le {w a : Nat} {x y : Int32} {h C : Nat} : ∀ d i s, (bF g2 X Y w a x y h C d i s).1 ≤ s.1
  | 0, _, _ => Nat.le_refl _
  | d + 1, i, s => by unfold bF; exact Nat.le_trans (bF_le d (i + 1) _) (cF_le _ _ _)
theorem aF_le {w g : Nat} : ∀ d i s, (aF g2 X Y w g d i s).1 ≤ s.1
  | 0, _, _ => Nat.le_refl _
  | d + 1, i, s => by unfold aF; exact Nat.le_trans (aF_le d (i + 1) _) (bF_le _ _ _)
theorem wF_le {g : Nat} : ∀ d i s, (wF g2 X Y g d i s).1 ≤ s.1
  | 0, _, _ => Nat.le_refl _
  | d + 1, i, s => by unfold wF; exact Nat.le_trans (wF_le d (i + 1) _) (aF_le _ _ _)
theorem cF_hit {w a b : Nat} {x y : Int32} {h C kk j : Nat} (hj : x + vX h kk j = X ∧ y + vY h kk j = Y ∧ hdN h kk j = g2) : ∀ d i s, i ≤ j → j < i + d → (cF g2 X Y w a b x y h C kk d i s).1 ≤ C + vC h kk j
  | 0, i, s, h1, h2 => by omega
  | d + 1, i, s, h1, h2 => by
    unfold cF
    by_cases e : i = j
    · subst e; rw [if_pos hj]; exact Nat.le_trans (cF_le _ _ _) (off_le2 _ _ _ _ _ _)
    · exact cF_hit hj d (i + 1) _ (by omega) (by omega)
theorem bF_hit {w a : Nat} {x y : Int32} {h C j m : Nat} (hj : ∀ s, (cF g2 X Y w a j (x + vX h (kN w 1) j) (y + vY h (kN w 1) j) (hdN h (kN w 1) j) (C + vC h (kN w 1) j) (kN w 2) 8 0 s).1 ≤ m) : ∀ d i s, i ≤ j → j < i + d → (bF g2 X Y w a x y h C d i s).1 ≤ m
  | 0, i, s, h1, h2 => by omega
  | d + 1, i, s, h1, h2 => by
    unfold bF
    by_cases e : i = j
    · subst e; exact Nat.le_trans (bF_le _ _ _) (hj s)
    · exact bF_hit hj d (i + 1) _ (by omega) (by omega)
theorem aF_hit {w g j m : Nat} (hj : ∀ s, (bF g2 X Y w j (0 + vX g (kN w 0) j) (0 + vY g (kN w 0) j) (hdN g (kN w 0) j) (0 + vC g (kN w 0) j) (if w < 4 then 16 else 8) 0 s).1 ≤ m) : ∀ d i s, i ≤ j → j < i + d → (aF g2 X Y w g d i s).1 ≤ m
  | 0, i, s, h1, h2 => by omega
  | d + 1, i, s, h1, h2 => by
    unfold aF
    by_cases e : i = j
    · subst e; exact Nat.le_trans (aF_le _ _ _) (hj s)
    · exact aF_hit hj d (i + 1) _ (by omega) (by omega)
theorem wF_hitL {g j m : Nat} (hj : ∀ s, (aF g2 X Y j g 8 0 s).1 ≤ m) : ∀ d i s, i ≤ j → j < i + d → (wF g2 X Y g d i s).1 ≤ m
  | 0, i, s, h1, h2 => by omega
  | d + 1, i, s, h1, h2 => by
    unfold wF
    by_cases e : i = j
    · subst e; exact Nat.le_trans (wF_le _ _ _) (hj s)
    · exact wF_hitL hj d (i + 1) _ (by omega) (by omega)
theorem wF_hit {g w a b c : Nat} (k : wOk g g2 X Y w a b c) (s : wS) : (wF g2 X Y g 6 0 s).1 ≤ wCo g w a b c :=
  wF_hitL (fun s => aF_hit (fun s => bF_hit (fun s => cF_hit k.2 8 0 s (Nat.zero_le _) (by have := k.1.2.2.2; omega)) _ 0 s (Nat.zero_le _) (by have := k.1.2.2.1; omega)) 8 0 s (Nat.zero_le _) (by have := k.1.2.1; omega)) 6 0 s (Nat.zero_le _) (by have := k.1.1; omega)
def wXd (p q : Nat) : Int32 := Int32.ofNat (q % 16) - Int32.ofNat (p % 16)
def wYd (p q : Nat) : Int32 := Int32.ofNat (q / 16 % 16) - Int32.ofNat (p / 16 % 16)
/-- what find leaves in the word, r what stood there of the counts -/
def wFd (p q : Nat) (r : Nat × Nat × Nat) : wS := wF (q / 256) (wXd p q) (wYd p q) (p / 256) 6 0 (536870912, 0, r)
theorem wFd_in (p q : Nat) {r : Nat × Nat × Nat} (hr : r.1 ≤ 7 ∧ r.2.1 ≤ 15 ∧ r.2.2 ≤ 7) : wIn (wFd p q r) ∧ (wFd p q r).1 ≤ 536870912 ∧ ((wFd p q r).2.1 = 0 → (wFd p q r).1 = 536870912) := by
  unfold wFd
  exact wF_inv (s := (536870912, 0, r)) (I := fun s => wIn s ∧ s.1 ≤ 536870912 ∧ (s.2.1 = 0 → s.1 = 536870912)) (fun w a b c s k r => by
    obtain ⟨⟨k1, k2, k3, k4⟩, _⟩ := k
    have k5 : b < 16 := by split at k3 <;> omega
    unfold wOff
    split
    · exact ⟨⟨by show w + 1 ≤ 6; omega, by show a ≤ 7; omega, by show b ≤ 15; omega, by show c ≤ 7; omega⟩, by show wCo (p / 256) w a b c ≤ _; have := r.2.1; omega, fun z => by simp at z⟩
    · exact r) ⟨⟨Nat.zero_le _, hr.1, hr.2.1, hr.2.2⟩, Nat.le_refl _, fun _ => rfl⟩
/-- what stood there before doesn't matter -/
theorem wFd_rel (p q : Nat) (r r' : Nat × Nat × Nat) : (wFd p q r).1 = (wFd p q r').1 ∧ (wFd p q r).2.1 = (wFd p q r').2.1 ∧ ((wFd p q r).2.1 ≠ 0 → wFd p q r = wFd p q r') := by
  unfold wFd
  exact wF_rel (s := (536870912, 0, r)) (t := (536870912, 0, r')) (Rl := fun s t => s.1 = t.1 ∧ s.2.1 = t.2.1 ∧ (s.2.1 ≠ 0 → s = t)) (fun w a b c s t k r => by
    unfold wOff
    rw [← r.1]
    split
    · exact ⟨rfl, rfl, fun _ => rfl⟩
    · exact r) ⟨rfl, rfl, fun z => absurd rfl z⟩
/-- the word found is one that leads there -/
theorem wFd_ok (p q : Nat) (r : Nat × Nat × Nat) (h0 : (wFd p q r).2.1 ≠ 0) : ∃ w a b c, wFd p q r = (wCo (p / 256) w a b c, w + 1, a, b, c) ∧ wOk (p / 256) (q / 256) (wXd p q) (wYd p q) w a b c := by
  have := wF_inv (g := p / 256) (g2 := q / 256) (X := wXd p q) (Y := wYd p q) (I := fun s => s.2.1 ≠ 0 → ∃ w a b c, s = (wCo (p / 256) w a b c, w + 1, a, b, c) ∧ wOk (p / 256) (q / 256) (wXd p q) (wYd p q) w a b c) (fun w a b c s k r => by
    unfold wOff
    split
    · exact fun _ => ⟨w, a, b, c, rfl, k⟩
    · exact r) (s := (536870912, 0, r)) (fun z => absurd rfl z)
  unfold wFd at h0 ⊢
  exact this h0
theorem wFd_le (p q : Nat) (r : Nat × Nat × Nat) {w a b c : Nat} (k : wOk (p / 256) (q / 256) (wXd p q) (wYd p q) w a b c) : (wFd p q r).1 ≤ wCo (p / 256) w a b c := by
  unfold wFd
  exact wF_hit k (536870912, 0, r)
/-- the moves of the word between two poses -/
def wWd (p q : Nat) : Option (List Nat) := if (wFd p q (0, 0, 0)).2.1 = 0 then none else some (wMv (wFd p q (0, 0, 0)))
theorem wWd_eq (p q : Nat) (r : Nat × Nat × Nat) : wWd p q = if (wFd p q r).2.1 = 0 then none else some (wMv (wFd p q r)) := by
  obtain ⟨_, h2, h3⟩ := wFd_rel p q (0, 0, 0) r
  unfold wWd
  by_cases h0 : (wFd p q (0, 0, 0)).2.1 = 0
  · rw [if_pos h0, if_pos (h2 ▸ h0)]
  · rw [if_neg h0, if_neg (h2 ▸ h0), h3 h0]
theorem wWd_self (q : Nat) : wWd q q = some [] := by
  have hx : wXd q q = 0 := Int32.sub_self _
  have hy : wYd q q = 0 := Int32.sub_self _
  have k : wOk (q / 256) (q / 256) (wXd q q) (wYd q q) 0 0 0 0 := ⟨by decide, by rw [hx]; rfl, by rw [hy]; rfl, rfl⟩
  have h1 : (wFd q q (0, 0, 0)).1 = 0 := Nat.le_zero.mp (wFd_le q q (0, 0, 0) k)
  have h0 : (wFd q q (0, 0, 0)).2.1 ≠ 0 := fun z => by
    have := (wFd_in q q (r := (0, 0, 0)) (by decide)).2.2 z
    omega
  -- words that cost nothing have no moves
  have key : ∀ (g kk n : Nat), vC g kk n = 0 → n = 0 := by
    intro g kk n h
    cases n with
    | zero => rfl
    | succ n =>
      rw [vC] at h
      have : 10 ≤ sc1 (hdN g kk n) kk := by unfold sc1; repeat' split
                                            all_goals omega
      omega
  obtain ⟨w, a, b, c, e, k⟩ := wFd_ok q q (0, 0, 0) h0
  rw [e] at h1
  have h1' : 0 + vC (q / 256) (kN w 0) a + vC (hdN (q / 256) (kN w 0) a) (kN w 1) b + vC (hdN (hdN (q / 256) (kN w 0) a) (kN w 1) b) (kN w 2) c = 0 := h1
  rw [Nat.zero_add] at h1'
  have e3 : c = 0 := key _ _ c (Nat.eq_zero_of_add_eq_zero_left h1')
  have h2' := Nat.eq_zero_of_add_eq_zero_right h1'
  have e2 : b = 0 := key _ _ b (Nat.eq_zero_of_add_eq_zero_left h2')
  have e1 : a = 0 := key _ _ a (Nat.eq_zero_of_add_eq_zero_right h2')
  subst e1 e2 e3
  unfold wWd
  rw [if_neg h0, e]
  rfl
end
