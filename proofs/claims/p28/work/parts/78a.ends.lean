section
variable {e : Nat → Nat → Nat} {wt : Nat → Nat → Nat → Nat} {cu rv p q : Nat}
theorem gP_revI {A B : Nat → List (Nat × Nat)} {I : Nat → Prop} (hab : ∀ s t w, I s → (t, w) ∈ A s → I t ∧ (s, w) ∈ B t) : ∀ (n s t c : Nat), I s → gP A n s t c → I t ∧ gP B n t s c
  | 0, s, t, c, hs, ⟨a, b⟩ => by subst a; exact ⟨hs, rfl, b⟩
  | n + 1, s, t, c, hs, ⟨u, c', w, a, b, d⟩ => by
    obtain ⟨h8, r⟩ := gP_revI hab n s u c' hs a
    obtain ⟨t8, z⟩ := hab u t w h8 b
    refine ⟨t8, ?_⟩
    rw [d, Nat.add_comm c' w]
    exact gP_cons z n s c' r
theorem gLeast_eq {A B : Nat → List (Nat × Nat)} {sa sb ga gb : Nat → Bool} {r1 r2 : Nat} (h1 : gLeast A sa ga r1) (h2 : gLeast B sb gb r2)
    (hab : ∀ n t c, ga t = true → gW A sa n t c → ∃ t', gb t' = true ∧ gW B sb n t' c) (hba : ∀ n t c, gb t = true → gW B sb n t c → ∃ t', ga t' = true ∧ gW A sa n t' c) : r1 = r2 := by
  cases r1 with
  | zero =>
    cases r2 with
    | zero => rfl
    | succ m =>
      obtain ⟨_, ⟨n, t, a, b⟩, _⟩ := h2.2 m rfl
      obtain ⟨t', x, y⟩ := hba n t m a b
      exact absurd y (h1.1 rfl n t' m x)
  | succ m1 =>
    obtain ⟨_, ⟨n, t, a, b⟩, lo⟩ := h1.2 m1 rfl
    obtain ⟨t', x, y⟩ := hab n t m1 a b
    cases r2 with
    | zero => exact absurd y (h2.1 rfl n t' m1 x)
    | succ m2 =>
      obtain ⟨_, ⟨n2, t2, a2, b2⟩, lo2⟩ := h2.2 m2 rfl
      obtain ⟨t3, x3, y3⟩ := hba n2 t2 m2 a2 b2
      have e1 := lo n2 t3 m2 x3 y3
      have e2 := lo2 n t' m1 x y
      omega
/-- the search from the end and that from the start find the same -/
theorem ends_eq (HL : geoL e) (HS : geoS e) (hrv : rv < 2) (hp : p < 2048) (hq : q < 2048) {r1 r2 : Nat} (h1 : gLeast (adjS e wt cu rv 0) (seedS p rv) (goalS q) r1) (h2 : gLeast (adjS e wt cu rv 1) (seedS q rv) (goalS p) r2) : r1 = r2 := by
  have fw : ∀ s t w, (s < 4096 ∧ (rv = 0 → s < 2048)) → (t, w) ∈ adjS e wt cu rv 0 s → (t < 4096 ∧ (rv = 0 → t < 2048)) ∧ (s, w) ∈ adjS e wt cu rv 1 t := by
    intro s t w hs h
    obtain ⟨u, g, m, k1, k2, k3, k4, k5, k6, k7⟩ := (mem_fAdj hs.1).1 h
    have hl := HL u m k1 (by omega)
    have hgm := gear_lt m
    have hg0 : rv = 0 → gear m = 0 := fun z => by unfold gear; rw [if_pos (by omega)]
    have t8 : t < 4096 := by omega
    refine ⟨⟨t8, fun z => by have := hg0 z; omega⟩, (mem_bAdj HL HS t8 hrv).2 ⟨u, g, m, k1, by omega, k4, k6, ?_, k5, k7⟩⟩
    by_cases z : rv = 0
    · have := hg0 z
      have := hs.2 z
      omega
    · omega
  have bw : ∀ s t w, (s < 4096 ∧ (rv = 0 → s < 2048)) → (t, w) ∈ adjS e wt cu rv 1 s → (t < 4096 ∧ (rv = 0 → t < 2048)) ∧ (s, w) ∈ adjS e wt cu rv 0 t := by
    intro s t w hs h
    obtain ⟨u, g, m, k1, k2, k3, k4, k5, k6, k7⟩ := (mem_bAdj HL HS hs.1 hrv).1 h
    have hgm := gear_lt m
    have hg2 : g < 2 := by omega
    have t8 : t < 4096 := by omega
    have hm0 : rv = 0 → m < 3 := fun z => by
      have := hs.2 z
      by_cases h3 : m < 3
      · exact h3
      · have : gear m = 1 := by unfold gear; rw [if_neg h3]
        omega
    have hg0 : rv = 0 → gear m = 0 := fun z => by unfold gear; rw [if_pos (hm0 z)]
    refine ⟨⟨t8, fun z => by have := hg0 z; omega⟩, (mem_fAdj t8).2 ⟨u, g, m, k1, hg2, ?_, k3, k6, k4, k7⟩⟩
    by_cases z : rv = 0
    · have := hm0 z; omega
    · omega
  have sI : ∀ x s, x < 2048 → seedS x rv s = true → s < 4096 ∧ (rv = 0 → s < 2048) := by
    intro x s hx hs
    rcases seed_iff.1 hs with z | ⟨z, z2⟩ <;> exact ⟨by omega, fun _ => by omega⟩
  have gs : ∀ x t, x < 2048 → goalS x t = true → (t < 4096 ∧ (rv = 0 → t < 2048)) → seedS x rv t = true := by
    intro x t hx hg hI
    have := goal_iff.1 hg
    refine seed_iff.2 ?_
    by_cases z : rv = 0
    · have := hI.2 z; omega
    · omega
  have sg : ∀ x s, x < 2048 → seedS x rv s = true → goalS x s = true := by
    intro x s hx hs
    refine goal_iff.2 ?_
    rcases seed_iff.1 hs with z | ⟨z, z2⟩ <;> omega
  refine gLeast_eq h1 h2 ?_ ?_
  · intro n t c g w
    obtain ⟨s, sd, path⟩ := (gW_gP n t c).1 w
    obtain ⟨tI, back⟩ := gP_revI fw n s t c (sI p s hp sd) path
    exact ⟨s, sg p s hp sd, (gW_gP n s c).2 ⟨t, gs q t hq g tI, back⟩⟩
  · intro n t c g w
    obtain ⟨s, sd, path⟩ := (gW_gP n t c).1 w
    obtain ⟨tI, fwd⟩ := gP_revI bw n s t c (sI q s hq sd) path
    exact ⟨s, sg q s hq sd, (gW_gP n s c).2 ⟨t, gs p t hp g tI, fwd⟩⟩
end
