section
variable {L : Nat} {xs : Nat → Int32} {k : Nat} {ad : Nat → Nat} {fs0 : List Value} {M : Nat → Nat → Nat} {h : List mCel} {ca cl cu : Nat} {fcan fc : Nat → Int32} {mg : Int32}
def gear (m : Nat) : Nat := if m < 3 then 0 else 1
def byN (en : Nat → Nat → Nat) (wt : Nat → Nat → Nat → Nat) (cu : Nat) (M : Nat → Nat → Nat) (p dr m : Nat) : Nat :=
  wt p m (en p m - 1) + (if dr = 2 ∨ dr = gear m then 0 else cu) + M 0 (2048 * gear m + (en p m - 1))
/-- the least of the moves' costs -/
def lbN (can : Nat → Nat) (b : Nat → Nat) : Nat → Nat → Nat → Nat
  | 0, _, a => a
  | d + 1, i, a => lbN can b d (i + 1) (if can i = 0 then a else if b i < a then b i else a)
theorem lb_le {can b : Nat → Nat} : ∀ (d i a : Nat), lbN can b d i a ≤ a
  | 0, _, _ => Nat.le_refl _
  | d + 1, i, a => by
    refine Nat.le_trans (lb_le d (i + 1) _) ?_
    repeat' split
    all_goals omega
theorem lb_all {can b : Nat → Nat} : ∀ (d i a m : Nat), i ≤ m → m < i + d → can m ≠ 0 → lbN can b d i a ≤ b m
  | 0, i, a, m, h1, h2, _ => absurd h2 (by omega)
  | d + 1, i, a, m, h1, h2, h3 => by
    unfold lbN
    by_cases e : m = i
    · subst e
      refine Nat.le_trans (lb_le d (m + 1) _) ?_
      rw [if_neg h3]; split <;> omega
    · exact lb_all d (i + 1) _ m (by omega) (by omega) h3
theorem lb_get {can b : Nat → Nat} : ∀ (d i a : Nat), lbN can b d i a = a ∨ ∃ m, i ≤ m ∧ m < i + d ∧ can m ≠ 0 ∧ lbN can b d i a = b m
  | 0, _, _ => Or.inl rfl
  | d + 1, i, a => by
    unfold lbN
    rcases lb_get (can := can) (b := b) d (i + 1) (if can i = 0 then a else if b i < a then b i else a) with h | ⟨m, h1, h2, h3, h4⟩
    · rw [h]
      by_cases c : can i = 0
      · rw [if_pos c]; exact Or.inl rfl
      · rw [if_neg c]
        by_cases e : b i < a
        · rw [if_pos e]; exact Or.inr ⟨i, Nat.le_refl _, by omega, c, rfl⟩
        · rw [if_neg e]; exact Or.inl rfl
    · exact Or.inr ⟨m, by omega, by omega, h3, h4⟩
end
