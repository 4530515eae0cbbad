section
variable {L : Nat} {xs : Nat → Int32} {k : Nat} {ad : Nat → Nat} {fs0 : List Value} {M : Nat → Nat → Nat} {h : List mCel} {ca cl cu : Nat} {fcan fc : Nat → Int32} {mg : Int32}
theorem mem_range3 {m g : Nat} (hm : m < 6) (hg : g < 2) : m ∈ List.range' (3 * g) 3 ↔ gear m = g := by
  rw [List.mem_range'_1]; unfold gear; split <;> omega
theorem mem_rAdj {en can : Nat → Nat → Nat} {wt : Nat → Nat → Nat → Nat} {rv s t w : Nat} (HN : geoN en) (HB : geoB en) (hs : s < 4096) (hrv : rv < 2) :
    (t, w) ∈ rAdj en can wt cu rv s ↔ ∃ p g m, p < 2048 ∧ g < 2 ∧ m < 3 + 3 * rv ∧ 0 < en p m ∧ can p m ≠ 0 ∧ s = en p m - 1 + 2048 * gear m ∧ t = p + 2048 * g ∧ w = wt p m (en p m - 1) + (if g = gear m then 0 else cu) := by
  have hq : s % 2048 < 2048 := Nat.mod_lt _ (by decide)
  have hg : s / 2048 < 2 := by omega
  unfold rAdj
  constructor
  · intro z
    split at z
    · rename_i hle
      rw [List.mem_flatMap] at z
      obtain ⟨m, hm, hx⟩ := z
      have hm6 : m < 6 := by rw [List.mem_range'_1] at hm; omega
      have hgm := (mem_range3 hm6 hg).1 hm
      have hm3 : m < 3 + 3 * rv := by unfold gear at hgm; split at hgm <;> omega
      have hb := HB (s % 2048) m hq hm6
      have n2 := (HN (s % 2048) ((m + 3) % 6) hq (Nat.mod_lt _ (by decide))).2
      unfold rEntry at hx
      split at hx
      · simp at hx
      · split at hx
        · simp at hx
        · rename_i e1 e2
          have hb := hb (by omega)
          have hp8 : en (s % 2048) ((m + 3) % 6) - 1 < 2048 := by omega
          generalize en (s % 2048) ((m + 3) % 6) - 1 = p at *
          have hen : en p m - 1 = s % 2048 := by omega
          have hs2 : s = en p m - 1 + 2048 * gear m := by rw [hen, hgm]; omega
          simp only [List.mem_cons, List.not_mem_nil, or_false, Prod.mk.injEq] at hx
          rcases hx with ⟨rfl, rfl⟩ | ⟨rfl, rfl⟩
          · refine ⟨t, 0, m, by omega, by decide, hm3, by omega, e2, hs2, by omega, ?_⟩
            rw [hen, hgm]
            by_cases y : s / 2048 = 0
            · rw [if_pos y, if_pos y.symm]
            · rw [if_neg y, if_neg (Ne.symm y)]
          · refine ⟨p, 1, m, by omega, by decide, hm3, by omega, e2, hs2, by omega, ?_⟩
            rw [hen, hgm]
            by_cases y : s / 2048 = 1
            · rw [if_pos y, if_pos y.symm]
            · rw [if_neg y, if_neg (Ne.symm y)]
    · simp at z
  · rintro ⟨p, g, m, hp, hg2, hm, he, hc, rfl, rfl, rfl⟩
    have hm6 : m < 6 := by omega
    have n2 := (HN p m hp hm6).2
    have hgm : gear m < 2 := by unfold gear; split <;> omega
    have q1 : (en p m - 1 + 2048 * gear m) % 2048 = en p m - 1 := by omega
    have q2 : (en p m - 1 + 2048 * gear m) / 2048 = gear m := by omega
    have hle : gear m ≤ rv := by unfold gear; split <;> omega
    rw [q1, q2, if_pos hle, List.mem_flatMap]
    refine ⟨m, (mem_range3 hm6 hgm).2 rfl, ?_⟩
    have hb := HB p ((m + 3) % 6) hp (Nat.mod_lt _ (by decide))
    rw [show ((m + 3) % 6 + 3) % 6 = m by omega] at hb
    have hb := hb he
    unfold rEntry
    rw [hb, if_neg (by omega), Nat.add_sub_cancel, if_neg hc]
    simp only [List.mem_cons, List.not_mem_nil, or_false, Prod.mk.injEq]
    obtain rfl | rfl : g = 0 ∨ g = 1 := by omega
    · left; refine ⟨by omega, ?_⟩
      by_cases y : gear m = 0
      · rw [if_pos y, if_pos y.symm]
      · rw [if_neg y, if_neg (Ne.symm y)]
    · right; refine ⟨by omega, ?_⟩
      by_cases y : gear m = 1
      · rw [if_pos y, if_pos y.symm]
      · rw [if_neg y, if_neg (Ne.symm y)]
/-- what the reference's search says: none below its bound, or the least -/
def rLeast (adj : Nat → List (Nat × Nat)) (sd goal : Nat → Bool) (r : Nat) : Prop :=
  (r = 0 → ∀ n t c, goal t = true → gW adj sd n t c → 1000000 ≤ c) ∧
  (∀ m, r = m + 1 → (∃ n t, goal t = true ∧ gW adj sd n t m) ∧ ∀ n t c, goal t = true → gW adj sd n t c → m ≤ c)
end
