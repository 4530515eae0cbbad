section
variable {e en can : Nat → Nat → Nat} {wt : Nat → Nat → Nat → Nat} {cu rv p q : Nat}
theorem gear_lt (m : Nat) : gear m < 2 := by unfold gear; split <;> omega
theorem goal_iff {p t : Nat} : goalS p t = true ↔ t < 4096 ∧ t % 2048 = p := by unfold goalS; simp
theorem seed_iff {p rv t : Nat} : seedS p rv t = true ↔ t = p ∨ rv ≠ 0 ∧ t = p + 2048 := by unfold seedS; simp
theorem r_edge (HN : geoN en) (HB : geoB en) (HK : geoK e en can) (hrv : rv < 2) {s t w : Nat} (hs : s < 4096) :
    (t, w) ∈ rAdj en can wt cu rv s ↔ ∃ p g m, p < 2048 ∧ g < 2 ∧ m < 3 + 3 * rv ∧ 0 < e p m ∧ s = e p m - 1 + 2048 * gear m ∧ t = p + 2048 * g ∧ w = wt p m (e p m - 1) + (if g = gear m then 0 else cu) := by
  rw [mem_rAdj HN HB hs hrv]
  constructor
  · rintro ⟨p, g, m, h1, h2, h3, h4, h5, h6, h7, h8⟩
    obtain ⟨k1, k2⟩ := (HK p m h1 (by omega)).1 h5
    exact ⟨p, g, m, h1, h2, h3, by omega, by rw [k1]; exact h6, h7, by rw [k1]; exact h8⟩
  · rintro ⟨p, g, m, h1, h2, h3, h4, h6, h7, h8⟩
    have h5 : can p m ≠ 0 := fun z => by have := (HK p m h1 (by omega)).2 z; omega
    obtain ⟨k1, k2⟩ := (HK p m h1 (by omega)).1 h5
    rw [k1] at h6 h8
    exact ⟨p, g, m, h1, h2, h3, k2, h5, h6, h7, h8⟩
theorem r_state (HN : geoN en) (HB : geoB en) (HK : geoK e en can) (hrv : rv < 2) (hq : q < 2048) : ∀ (n t c : Nat), gW (rAdj en can wt cu rv) (seedS q 1) n t c → t < 4096
  | 0, t, c, h => by have := seed_iff.1 h.1; omega
  | n + 1, t, c, ⟨s, c', w, a, b, d⟩ => by
    have s8 := r_state HN HB HK hrv hq n s c' a
    obtain ⟨p, g, m, h1, h2, h3, h4, h6, h7, h8⟩ := (r_edge HN HB HK hrv s8).1 b
    omega
/-- without reverse a state in the other gear costs no less -/
theorem r_low (HN : geoN en) (HB : geoB en) (HK : geoK e en can) (hq : q < 2048) {n t c : Nat} (h : gW (rAdj en can wt cu 0) (seedS q 1) n t c) : ∃ c', c' ≤ c ∧ gW (rAdj en can wt cu 0) (seedS q 1) n (t % 2048) c' := by
  cases n with
  | zero =>
    have := seed_iff.1 h.1
    refine ⟨0, Nat.zero_le _, seed_iff.2 (Or.inl ?_), rfl⟩
    rcases this with z | ⟨_, z⟩ <;> omega
  | succ n =>
    obtain ⟨s, c', w, a, b, d⟩ := h
    have s8 := r_state HN HB HK (by decide) hq n s c' a
    obtain ⟨p, g, m, h1, h2, h3, h4, h6, h7, h8⟩ := (r_edge HN HB HK (by decide) s8).1 b
    have hm : gear m = 0 := by unfold gear; rw [if_pos (by omega)]
    refine ⟨c' + wt p m (e p m - 1), by omega, s, c', _, a, (r_edge HN HB HK (by decide) s8).2 ⟨p, 0, m, h1, by decide, h3, h4, h6, by omega, ?_⟩, rfl⟩
    rw [if_pos hm.symm]; rfl
theorem b_to_r (HN : geoN en) (HB : geoB en) (HK : geoK e en can) (HL : geoL e) (HS : geoS e) (hrv : rv < 2) (hq : q < 2048) : ∀ (n t c : Nat), gW (adjS e wt cu rv 1) (seedS q rv) n t c → t < 4096 ∧ (rv = 0 → t < 2048) ∧ gW (rAdj en can wt cu rv) (seedS q 1) n t c
  | 0, t, c, h => by
    have := seed_iff.1 h.1
    refine ⟨by omega, fun z => by omega, seed_iff.2 ?_, h.2⟩
    rcases this with z | z
    · exact Or.inl z
    · exact Or.inr ⟨by decide, z.2⟩
  | n + 1, t, c, ⟨s, c', w, a, b, d⟩ => by
    obtain ⟨s8, s0, r⟩ := b_to_r HN HB HK HL HS hrv hq n s c' a
    obtain ⟨p, g, m, h1, h2, h3, h4, h5, h6, h7⟩ := (mem_bAdj HL HS s8 hrv).1 b
    have hl := HL p m h1 h2
    have hgm := gear_lt m
    have hm3 : m < 3 + 3 * rv := by
      obtain rfl | rfl : rv = 0 ∨ rv = 1 := by omega
      · have := s0 rfl
        have g0 : gear m = 0 := by omega
        unfold gear at g0; split at g0 <;> omega
      · omega
    have hg2 : g < 2 := by omega
    refine ⟨by omega, ?_, s, c', w, r, (r_edge HN HB HK hrv s8).2 ⟨p, g, m, h1, hg2, hm3, h3, h4, h6, h7⟩, d⟩
    intro z
    subst z
    have g0 : gear m = 0 := by unfold gear; rw [if_pos (by omega)]
    omega
theorem r_to_b (HN : geoN en) (HB : geoB en) (HK : geoK e en can) (HL : geoL e) (HS : geoS e) (hrv : rv < 2) (hq : q < 2048) : ∀ (n t c : Nat), gW (rAdj en can wt cu rv) (seedS q 1) n t c → ∃ t' c', t' < 4096 ∧ t' % 2048 = t % 2048 ∧ (rv = 0 ∨ t' = t) ∧ (rv = 0 → t' < 2048) ∧ c' ≤ c ∧ gW (adjS e wt cu rv 1) (seedS q rv) n t' c'
  | 0, t, c, h => by
    have := seed_iff.1 h.1
    obtain rfl | rfl : rv = 0 ∨ rv = 1 := by omega
    · refine ⟨q, 0, by omega, ?_, Or.inl rfl, fun _ => hq, Nat.zero_le _, seed_iff.2 (Or.inl rfl), rfl⟩
      rcases this with z | ⟨_, z⟩ <;> omega
    · exact ⟨t, c, by omega, rfl, Or.inr rfl, fun z => by omega, Nat.le_refl _, h⟩
  | n + 1, t, c, ⟨s, c', w, a, b, d⟩ => by
    obtain ⟨s', c2, s8, sm, se, s0, hc, r⟩ := r_to_b HN HB HK HL HS hrv hq n s c' a
    have s9 := r_state HN HB HK hrv hq n s c' a
    obtain ⟨p, g, m, h1, h2, h3, h4, h6, h7, h8⟩ := (r_edge HN HB HK hrv s9).1 b
    have hl := HL p m h1 (by omega)
    have hgm := gear_lt m
    obtain rfl | rfl : rv = 0 ∨ rv = 1 := by omega
    · have g0 : gear m = 0 := by unfold gear; rw [if_pos (by omega)]
      have ss : s' = s := by have := s0 rfl; omega
      subst ss
      refine ⟨p, c2 + wt p m (e p m - 1), by omega, by omega, Or.inl rfl, fun _ => h1, by omega, s', c2, _, r, ?_, rfl⟩
      rw [mem_bAdj HL HS s8 (by decide)]
      refine ⟨p, 0, m, h1, by omega, h4, h6, Or.inl g0.symm, by omega, ?_⟩
      rw [if_pos g0.symm]; rfl
    · have ss : s' = s := by rcases se with z | z; omega; exact z
      subst ss
      refine ⟨t, c2 + w, by omega, rfl, Or.inr rfl, fun z => by omega, by omega, s', c2, w, r, ?_, rfl⟩
      rw [mem_bAdj HL HS s8 (by decide)]
      exact ⟨p, g, m, h1, by omega, h4, h6, by omega, h7, h8⟩
/-- the class from the end, and the reference -/
theorem same_end (HN : geoN en) (HB : geoB en) (HK : geoK e en can) (HL : geoL e) (HS : geoS e) (hrv : rv < 2) (hq : q < 2048) {r1 r2 : Nat} (h1 : gLeast (adjS e wt cu rv 1) (seedS q rv) (goalS p) r1) (h2 : rLeast (rAdj en can wt cu rv) (seedS q 1) (goalS p) r2) : r1 = r2 := by
  refine least_eq h1 h2 ?_ ?_
  · intro n t c g w
    obtain ⟨_, _, r⟩ := b_to_r HN HB HK HL HS hrv hq n t c w
    exact ⟨n, t, c, g, Nat.le_refl _, r⟩
  · intro n t c g w
    obtain ⟨t', c', a1, a2, _, _, a3, a4⟩ := r_to_b HN HB HK HL HS hrv hq n t c w
    have := goal_iff.1 g
    exact ⟨n, t', c', goal_iff.2 ⟨a1, by omega⟩, a3, a4⟩
/-- the class from the start (p, on to q), and the reference -/
theorem same_start (HN : geoN en) (HB : geoB en) (HK : geoK e en can) (HL : geoL e) (hrv : rv < 2) (hp : p < 2048) (hq : q < 2048) {r1 r2 : Nat} (h1 : gLeast (adjS e wt cu rv 0) (seedS p rv) (goalS q) r1) (h2 : rLeast (rAdj en can wt cu rv) (seedS q 1) (goalS p) r2) : r1 = r2 := by
  have fr : ∀ s t w, s < 4096 → (t, w) ∈ adjS e wt cu rv 0 s → t < 4096 ∧ (s, w) ∈ rAdj en can wt cu rv t := by
    intro s t w hs h
    obtain ⟨u, g, m, k1, k2, k3, k4, k5, k6, k7⟩ := (mem_fAdj hs).1 h
    have hl := HL u m k1 (by omega)
    have hgm := gear_lt m
    have t8 : t < 4096 := by omega
    exact ⟨t8, (r_edge HN HB HK hrv t8).2 ⟨u, g, m, k1, k2, k3, k4, k6, k5, k7⟩⟩
  have rf : ∀ s t w, s < 4096 → (t, w) ∈ rAdj en can wt cu rv s → t < 4096 ∧ (s, w) ∈ adjS e wt cu rv 0 t := by
    intro s t w hs h
    obtain ⟨u, g, m, k1, k2, k3, k4, k5, k6, k7⟩ := (r_edge HN HB HK hrv hs).1 h
    have t8 : t < 4096 := by omega
    exact ⟨t8, (mem_fAdj t8).2 ⟨u, g, m, k1, k2, k3, k4, k6, k5, k7⟩⟩
  refine least_eq h1 h2 ?_ ?_
  · intro n t c g w
    obtain ⟨s, sd, path⟩ := (gW_gP n t c).1 w
    have ss := seed_iff.1 sd
    have gg := goal_iff.1 g
    obtain ⟨_, back⟩ := gP_rev fr n s t c (by omega) path
    refine ⟨n, s, c, goal_iff.2 ⟨by omega, ?_⟩, Nat.le_refl _, (gW_gP n s c).2 ⟨t, seed_iff.2 ?_, back⟩⟩
    · rcases ss with z | ⟨_, z⟩ <;> omega
    · omega
  · intro n t c g w
    have gg := goal_iff.1 g
    have key : ∃ t' c', t' < 4096 ∧ seedS p rv t' = true ∧ c' ≤ c ∧ gW (rAdj en can wt cu rv) (seedS q 1) n t' c' := by
      obtain rfl | rfl : rv = 0 ∨ rv = 1 := by omega
      · obtain ⟨c', a, b⟩ := r_low HN HB HK hq w
        exact ⟨t % 2048, c', by omega, seed_iff.2 (Or.inl (by omega)), a, b⟩
      · exact ⟨t, c, gg.1, seed_iff.2 (by omega), Nat.le_refl _, w⟩
    obtain ⟨t', c', t8, sd, hc, w'⟩ := key
    obtain ⟨s, sd2, path⟩ := (gW_gP n t' c').1 w'
    have ss := seed_iff.1 sd2
    obtain ⟨_, fwd⟩ := gP_rev rf n s t' c' (by omega) path
    refine ⟨n, s, c', goal_iff.2 ⟨by omega, ?_⟩, hc, (gW_gP n s c').2 ⟨t', sd, fwd⟩⟩
    rcases ss with z | ⟨_, z⟩ <;> omega
end
