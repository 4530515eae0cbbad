/-- a move can be driven: where it leads, to the class and to the reference -/
def geoK (e en can : Nat → Nat → Nat) : Prop := ∀ p m, p < 2048 → m < 6 → (can p m ≠ 0 → e p m = en p m ∧ 0 < en p m) ∧ (can p m = 0 → e p m = 0)
def geoS (e : Nat → Nat → Nat) : Prop := ∀ p m, p < 2048 → m < 6 → 0 < e p m → e (e p m - 1) ((m + 3) % 6) = p + 1
def geoL (e : Nat → Nat → Nat) : Prop := ∀ p m, p < 2048 → m < 6 → e p m ≤ 2048
theorem opp_eq {m : Nat} (hm : m < 6) : (if m < 3 then m + 3 else m - 3) = (m + 3) % 6 := by split <;> omega
theorem mem_fAdj {e : Nat → Nat → Nat} {wt : Nat → Nat → Nat → Nat} {cu rv s t w : Nat} (hs : s < 4096) :
    (t, w) ∈ adjS e wt cu rv 0 s ↔ ∃ p g m, p < 2048 ∧ g < 2 ∧ m < 3 + 3 * rv ∧ 0 < e p m ∧ s = p + 2048 * g ∧ t = e p m - 1 + 2048 * gear m ∧ w = wt p m (e p m - 1) + (if g = gear m then 0 else cu) := by
  unfold adjS
  rw [if_pos rfl, List.mem_flatMap]
  have G : ∀ m, (if m < 3 then 0 else 2048) = 2048 * gear m := fun m => by unfold gear; split <;> rfl
  constructor
  · rintro ⟨m, hm, hx⟩
    rw [List.mem_range] at hm
    unfold fEntry at hx
    split at hx
    · simp at hx
    · rename_i z
      rw [List.mem_singleton, Prod.mk.injEq] at hx
      refine ⟨s % 2048, s / 2048, m, Nat.mod_lt _ (by decide), by omega, hm, by omega, by omega, by rw [hx.1, G], ?_⟩
      rw [hx.2]
      show _ + (if gear m = s / 2048 then 0 else cu) = _
      by_cases y : gear m = s / 2048
      · rw [if_pos y, if_pos y.symm]
      · rw [if_neg y, if_neg (Ne.symm y)]
  · rintro ⟨p, g, m, hp, hg, hm, he, rfl, rfl, rfl⟩
    refine ⟨m, List.mem_range.2 hm, ?_⟩
    unfold fEntry
    rw [show (p + 2048 * g) % 2048 = p by omega, show (p + 2048 * g) / 2048 = g by omega, if_neg (by omega), List.mem_singleton, G]
    congr 2
    show _ = (if gear m = g then 0 else cu)
    by_cases y : g = gear m
    · rw [if_pos y, if_pos y.symm]
    · rw [if_neg y, if_neg (Ne.symm y)]
theorem mem_bAdj {e : Nat → Nat → Nat} {wt : Nat → Nat → Nat → Nat} {cu rv s t w : Nat} (HL : geoL e) (HS : geoS e) (hs : s < 4096) (hrv : rv < 2) :
    (t, w) ∈ adjS e wt cu rv 1 s ↔ ∃ p g m, p < 2048 ∧ m < 6 ∧ 0 < e p m ∧ s = e p m - 1 + 2048 * gear m ∧ (g = gear m ∨ rv ≠ 0 ∧ g = 1 - gear m) ∧ t = p + 2048 * g ∧ w = wt p m (e p m - 1) + (if g = gear m then 0 else cu) := by
  unfold adjS
  rw [if_neg (by decide), List.mem_flatMap]
  have hq : s % 2048 < 2048 := Nat.mod_lt _ (by decide)
  have hg : s / 2048 < 2 := by omega
  constructor
  · rintro ⟨m, hm, hx⟩
    have hm6 : m < 6 := by rw [List.mem_range'_1] at hm; omega
    have hgm := (mem_range3 hm6 hg).1 hm
    unfold bEntry at hx
    rw [opp_eq hm6] at hx
    have l1 := HL (s % 2048) ((m + 3) % 6) hq (Nat.mod_lt _ (by decide))
    have s1 := HS (s % 2048) ((m + 3) % 6) hq (Nat.mod_lt _ (by decide))
    rw [show ((m + 3) % 6 + 3) % 6 = m by omega] at s1
    split at hx
    · simp at hx
    · rename_i z
      have s1 := s1 (by omega)
      have hp8 : e (s % 2048) ((m + 3) % 6) - 1 < 2048 := by omega
      generalize e (s % 2048) ((m + 3) % 6) - 1 = p at *
      have hen : e p m - 1 = s % 2048 := by omega
      rw [List.mem_cons, Prod.mk.injEq] at hx
      rcases hx with ⟨rfl, rfl⟩ | hx
      · refine ⟨p, gear m, m, hp8, hm6, by omega, by omega, Or.inl rfl, by omega, ?_⟩
        rw [if_pos rfl, hen]; rfl
      · split at hx
        · simp at hx
        · rename_i r0
          rw [List.mem_singleton, Prod.mk.injEq] at hx
          refine ⟨p, 1 - gear m, m, hp8, hm6, by omega, by omega, Or.inr ⟨r0, rfl⟩, by omega, ?_⟩
          rw [hen, hx.2, if_neg (by omega)]
  · rintro ⟨p, g, m, hp, hm6, he, rfl, hgg, rfl, rfl⟩
    have hgm : gear m < 2 := by unfold gear; split <;> omega
    have l1 := HL p m hp hm6
    have q1 : (e p m - 1 + 2048 * gear m) % 2048 = e p m - 1 := by omega
    have q2 : (e p m - 1 + 2048 * gear m) / 2048 = gear m := by omega
    refine ⟨m, by rw [q2]; exact (mem_range3 hm6 hgm).2 rfl, ?_⟩
    unfold bEntry
    rw [opp_eq hm6, q1, q2, HS p m hp hm6 he, if_neg (by omega), Nat.add_sub_cancel]
    rw [List.mem_cons]
    rcases hgg with rfl | ⟨r0, rfl⟩
    · left; rw [if_pos rfl]; rfl
    · right; rw [if_neg r0, List.mem_singleton, if_neg (by omega)]
def gP (adj : Nat → List (Nat × Nat)) : Nat → Nat → Nat → Nat → Prop
  | 0, s, t, c => s = t ∧ c = 0
  | n + 1, s, t, c => ∃ u c' w, gP adj n s u c' ∧ (t, w) ∈ adj u ∧ c = c' + w
theorem gW_gP {adj : Nat → List (Nat × Nat)} {sd : Nat → Bool} : ∀ (n t c : Nat), gW adj sd n t c ↔ ∃ s, sd s = true ∧ gP adj n s t c
  | 0, t, c => ⟨fun z => ⟨t, z.1, rfl, z.2⟩, by rintro ⟨s, a, rfl, b⟩; exact ⟨a, b⟩⟩
  | n + 1, t, c => by
    constructor
    · rintro ⟨u, c', w, a, b, d⟩
      obtain ⟨s, h1, h2⟩ := (gW_gP n u c').1 a
      exact ⟨s, h1, u, c', w, h2, b, d⟩
    · rintro ⟨s, h1, u, c', w, h2, b, d⟩
      exact ⟨u, c', w, (gW_gP n u c').2 ⟨s, h1, h2⟩, b, d⟩
theorem gP_cons {adj : Nat → List (Nat × Nat)} {s u w : Nat} (h : (u, w) ∈ adj s) : ∀ (n t c : Nat), gP adj n u t c → gP adj (n + 1) s t (w + c)
  | 0, t, c, ⟨a, b⟩ => by subst a b; exact ⟨s, 0, w, ⟨rfl, rfl⟩, h, by omega⟩
  | n + 1, t, c, ⟨v, c', w', a, b, d⟩ => ⟨v, w + c', w', gP_cons h n v c' a, b, by omega⟩
/-- a walk turned round -/
theorem gP_rev {A B : Nat → List (Nat × Nat)} (hab : ∀ s t w, s < 4096 → (t, w) ∈ A s → t < 4096 ∧ (s, w) ∈ B t) : ∀ (n s t c : Nat), s < 4096 → gP A n s t c → t < 4096 ∧ gP B n t s c
  | 0, s, t, c, hs, ⟨a, b⟩ => by subst a; exact ⟨hs, rfl, b⟩
  | n + 1, s, t, c, hs, ⟨u, c', w, a, b, d⟩ => by
    obtain ⟨h8, r⟩ := gP_rev hab n s u c' hs a
    obtain ⟨t8, q⟩ := hab u t w h8 b
    refine ⟨t8, ?_⟩
    rw [d, Nat.add_comm c' w]
    exact gP_cons q n s c' r
theorem least_eq {A B : Nat → List (Nat × Nat)} {sa sb ga gb : Nat → Bool} {r1 r2 : Nat} (h1 : gLeast A sa ga r1) (h2 : rLeast B sb gb r2)
    (hab : ∀ n t c, ga t = true → gW A sa n t c → ∃ n' t' c', gb t' = true ∧ c' ≤ c ∧ gW B sb n' t' c') (hba : ∀ n t c, gb t = true → gW B sb n t c → ∃ n' t' c', ga t' = true ∧ c' ≤ c ∧ gW A sa n' t' c') : r1 = r2 := by
  cases r1 with
  | zero =>
    cases r2 with
    | zero => rfl
    | succ m =>
      obtain ⟨⟨n, t, a, b⟩, _⟩ := h2.2 m rfl
      obtain ⟨n', t', c', x, _, y⟩ := hba n t m a b
      exact absurd y (h1.1 rfl n' t' c' x)
  | succ m1 =>
    obtain ⟨hb, ⟨n, t, a, b⟩, lo⟩ := h1.2 m1 rfl
    obtain ⟨n', t', c', x, hc, y⟩ := hab n t m1 a b
    cases r2 with
    | zero => have := h2.1 rfl n' t' c' x y; omega
    | succ m2 =>
      obtain ⟨⟨n2, t2, a2, b2⟩, lo2⟩ := h2.2 m2 rfl
      obtain ⟨n3, t3, c3, x3, hc3, y3⟩ := hba n2 t2 m2 a2 b2
      have e1 := lo n3 t3 c3 x3 y3
      have e2 := lo2 n' t' c' x y
      omega
