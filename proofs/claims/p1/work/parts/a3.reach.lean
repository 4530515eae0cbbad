section
variable {rv : Nat}
theorem stB1_bit {S : Nat} {m g e : Nat} (hm : m < 6) (hg : g < 8) (h : (stB1 S (mvT m g) g).testBit e = true) : ∃ p, p < 2048 ∧ S.testBit p = true ∧ 0 < eN p m ∧ eN p m - 1 = e := by
  unfold stB1 at h
  rw [Nat.testBit_shiftRight, Nat.testBit_shiftLeft, Bool.and_eq_true, decide_eq_true_eq, Nat.testBit_and, Bool.and_eq_true, Nat.testBit_shiftRight] at h
  obtain ⟨h1, h2, h3⟩ := h
  generalize hc : (mvT m g).2.2 + e - (256 * g + (mvT m g).2.1) = c at h2 h3
  have c256 : c < 256 := by
    refine Classical.byContradiction fun z => ?_
    have l := (of_decide_eq_true (allB_get (allB_get (allB_get ck_mv m hm) g hg) 0 (by decide))).2.2
    have : (mvT m g).1.testBit c = false := Nat.testBit_lt_two_pow (Nat.lt_of_lt_of_le l (Nat.pow_le_pow_right (by decide) (by omega)))
    rw [this] at h3; cases h3
  have k := of_decide_eq_true (allB_get (allB_get (allB_get ck_mv m hm) g hg) c c256)
  have ne : eN (256 * g + c) m ≠ 0 := by
    have := k.1; rw [h3] at this; exact of_decide_eq_true this.symm
  have k2 := k.2.1 ne
  exact ⟨256 * g + c, by omega, h2, by omega, by omega⟩
theorem stB1_in {S : Nat} {m p : Nat} (hm : m < 6) (hp : p < 2048) (hs : S.testBit p = true) (he : 0 < eN p m) : (stB1 S (mvT m (p / 256)) (p / 256)).testBit (eN p m - 1) = true := by
  have k := of_decide_eq_true (allB_get (allB_get (allB_get ck_mv m hm) (p / 256) (by omega)) (p % 256) (Nat.mod_lt _ (by decide)))
  rw [show 256 * (p / 256) + p % 256 = p by omega] at k
  have k2 := k.2.1 (by omega)
  unfold stB1
  rw [Nat.testBit_shiftRight, Nat.testBit_shiftLeft, Bool.and_eq_true, decide_eq_true_eq, Nat.testBit_and, Bool.and_eq_true, Nat.testBit_shiftRight]
  have e1 : (mvT m (p / 256)).2.2 + (eN p m - 1) - (256 * (p / 256) + (mvT m (p / 256)).2.1) = p % 256 := by omega
  rw [e1, show 256 * (p / 256) + p % 256 = p by omega]
  refine ⟨by omega, hs, ?_⟩
  rw [k.1]; exact decide_eq_true (by omega)
theorem stG_bit {S m : Nat} (hm : m < 6) {e : Nat} : ∀ (g a : Nat), g ≤ 8 → (stG S m g a).testBit e = true → a.testBit e = true ∨ ∃ p, p < 2048 ∧ S.testBit p = true ∧ 0 < eN p m ∧ eN p m - 1 = e
  | 0, a, _, h => Or.inl h
  | g + 1, a, hg, h => by
    rcases stG_bit hm g _ (by omega) h with z | z
    · rw [Nat.testBit_or, Bool.or_eq_true] at z
      rcases z with z | z
      · exact Or.inl z
      · exact Or.inr (stB1_bit hm (by omega) z)
    · exact Or.inr z
theorem stG_acc {S m : Nat} {e : Nat} : ∀ (g a : Nat), a.testBit e = true → (stG S m g a).testBit e = true
  | 0, a, h => h
  | g + 1, a, h => stG_acc g _ (by rw [Nat.testBit_or, h, Bool.true_or])
theorem stG_in {S m p : Nat} (hm : m < 6) (hp : p < 2048) (hs : S.testBit p = true) (he : 0 < eN p m) : ∀ (g a : Nat), p / 256 < g → (stG S m g a).testBit (eN p m - 1) = true
  | 0, a, h => absurd h (by omega)
  | g + 1, a, h => by
    by_cases z : p / 256 = g
    · refine stG_acc g _ ?_
      rw [Nat.testBit_or, ← z, stB1_in hm hp hs he, Bool.or_true]
    · exact stG_in hm hp hs he g _ (by omega)
theorem stM_bit {S : Nat} {e : Nat} : ∀ (mv a : Nat), mv ≤ 6 → (stM S mv a).testBit e = true → a.testBit e = true ∨ ∃ p m, p < 2048 ∧ m < mv ∧ S.testBit p = true ∧ 0 < eN p m ∧ eN p m - 1 = e
  | 0, a, _, h => Or.inl h
  | m + 1, a, hm, h => by
    rcases stM_bit m _ (by omega) h with z | ⟨p, m', z1, z2, z3⟩
    · rcases stG_bit (by omega) 8 a (Nat.le_refl _) z with y | ⟨p, y1, y2, y3⟩
      · exact Or.inl y
      · exact Or.inr ⟨p, m, y1, by omega, y2, y3⟩
    · exact Or.inr ⟨p, m', z1, by omega, z3⟩
theorem stM_acc {S : Nat} {e : Nat} : ∀ (mv a : Nat), a.testBit e = true → (stM S mv a).testBit e = true
  | 0, a, h => h
  | m + 1, a, h => stM_acc m _ (stG_acc 8 a h)
theorem stM_in {S m p : Nat} (hm6 : m < 6) (hp : p < 2048) (hs : S.testBit p = true) (he : 0 < eN p m) : ∀ (mv a : Nat), m < mv → (stM S mv a).testBit (eN p m - 1) = true
  | 0, a, h => absurd h (by omega)
  | n + 1, a, h => by
    by_cases z : m = n
    · subst z
      exact stM_acc m _ (stG_in hm6 hp hs he 8 a (by omega))
    · exact stM_in hm6 hp hs he n _ (by omega)
/-- reached from f by at most so many moves -/
def PR (mv f : Nat) : Nat → Nat → Prop
  | 0, t => f = t
  | k + 1, t => PR mv f k t ∨ ∃ s m, PR mv f k s ∧ s < 2048 ∧ m < mv ∧ 0 < eN s m ∧ eN s m - 1 = t
theorem bfs_ok {mv f : Nat} (hmv : mv ≤ 6) : ∀ (K k S : Nat), bfs mv K S = true → (∀ t, S.testBit t = true → PR mv f k t) → ∃ S' : Nat, (∀ t, S.testBit t = true → S'.testBit t = true) ∧ (∀ p m, p < 2048 → m < mv → S'.testBit p = true → 0 < eN p m → S'.testBit (eN p m - 1) = true) ∧ (∀ t, S'.testBit t = true → PR mv f (k + K) t) := by
  have mono : ∀ (d k t : Nat), PR mv f k t → PR mv f (k + d) t := by
    intro d
    induction d with
    | zero => intro k t h; exact h
    | succ d ih => intro k t h; exact Or.inl (ih k t h)
  have closed : ∀ S, stM S mv S = S → ∀ p m, p < 2048 → m < mv → S.testBit p = true → 0 < eN p m → S.testBit (eN p m - 1) = true := by
    intro S h p m hp hm hs he
    rw [← h]; exact stM_in (by omega) hp hs he mv S hm
  intro K
  induction K with
  | zero =>
    intro k S h hs
    unfold bfs at h
    rw [frc_eq] at h
    have e := Nat.eq_of_beq_eq_true h
    exact ⟨S, fun _ z => z, closed S e, hs⟩
  | succ K ih =>
    intro k S h hs
    unfold bfs at h
    rw [frc_eq, Bool.or_eq_true] at h
    rcases h with h | h
    · have e := Nat.eq_of_beq_eq_true h
      exact ⟨S, fun _ z => z, closed S e, fun t z => mono (K + 1) k t (hs t z)⟩
    · obtain ⟨S', a, b, c⟩ := ih (k + 1) _ h (by
        intro t z
        rcases stM_bit mv S hmv z with y | ⟨p, m, y1, y2, y3, y4, y5⟩
        · exact Or.inl (hs t y)
        · exact Or.inr ⟨p, m, hs p y3, y1, y2, y4, y5⟩)
      refine ⟨S', fun t z => a t (stM_acc mv S z), b, fun t z => ?_⟩
      have := c t z
      rwa [show k + 1 + K = k + (K + 1) by omega] at this
theorem bfs_all {rv p : Nat} (hrv : rv < 2) (hp : p < 2048) : ∃ S' : Nat, S'.testBit p = true ∧ (∀ s m, s < 2048 → m < 3 + 3 * rv → S'.testBit s = true → 0 < eN s m → S'.testBit (eN s m - 1) = true) ∧ (∀ t, S'.testBit t = true → PR (3 + 3 * rv) p (if rv = 0 then 20 else 13) t) := by
  have bit : ∀ t, (1 <<< p).testBit t = true → p = t := by
    intro t h
    rw [Nat.one_shiftLeft, Nat.testBit_two_pow] at h
    exact of_decide_eq_true h
  have self : (1 <<< p).testBit p = true := by rw [Nat.one_shiftLeft, Nat.testBit_two_pow]; simp
  obtain rfl | rfl : rv = 0 ∨ rv = 1 := by omega
  · obtain ⟨S', a, b, c⟩ := bfs_ok (mv := 3) (f := p) (by decide) 20 0 (1 <<< p) (b0_all hp) (fun t h => bit t h)
    exact ⟨S', a p self, b, fun t h => by have := c t h; rwa [Nat.zero_add] at this⟩
  · obtain ⟨S', a, b, c⟩ := bfs_ok (mv := 6) (f := p) (by decide) 13 0 (1 <<< p) (b1_all hp) (fun t h => bit t h)
    exact ⟨S', a p self, b, fun t h => by have := c t h; rwa [Nat.zero_add] at this⟩
/-- a way by few moves is a cheap walk -/
theorem pr_walk {rv f : Nat} (hrv : rv < 2) (hf : f < 2048) : ∀ (k t : Nat), t < 2048 → PR (3 + 3 * rv) f k t → ∃ n c g g', g < 2 ∧ (rv = 0 → g = 0) ∧ g' < 2 ∧ c ≤ (24 + 20 * rv) * k ∧ gP (rAdj enN canN wtF 20 rv) n (t + 2048 * g) (f + 2048 * g') c
  | 0, t, ht, h => by
    have e : f = t := h
    subst e
    exact ⟨0, 0, 0, 0, by decide, fun _ => rfl, by decide, Nat.zero_le _, rfl, rfl⟩
  | k + 1, t, ht, h => by
    rcases h with h | ⟨s, m, h1, h2, h3, h4, h5⟩
    · obtain ⟨n, c, g, g', a1, a2, a3, a4, a5⟩ := pr_walk hrv hf k t ht h
      exact ⟨n, c, g, g', a1, a2, a3, Nat.le_trans a4 (Nat.mul_le_mul_left _ (Nat.le_succ k)), a5⟩
    · obtain ⟨n, c, g, g', a1, a2, a3, a4, a5⟩ := pr_walk hrv hf k s h2 h1
      have hgm := gear_lt m
      have hl := geo_L s m h2 (by omega)
      have s8 : t + 2048 * gear m < 4096 := by omega
      have ed : (s + 2048 * g, wtF s m (eN s m - 1) + (if g = gear m then 0 else 20)) ∈ rAdj enN canN wtF 20 rv (t + 2048 * gear m) := by
        rw [r_edge geo_N geo_B geo_K hrv s8]
        exact ⟨s, g, m, h2, a1, h3, h4, by omega, rfl, rfl⟩
      refine ⟨n + 1, _, gear m, g', hgm, fun z => by unfold gear; rw [if_pos (by omega)], a3, ?_, gP_cons ed n _ c a5⟩
      have w := wt_le s m
      have hw : wtF s m (eN s m - 1) ≤ 24 := w
      obtain rfl | rfl : rv = 0 ∨ rv = 1 := by omega
      · have g0 := a2 rfl
        have gm : gear m = 0 := by unfold gear; rw [if_pos (by omega)]
        rw [if_pos (by omega), Nat.mul_succ]; omega
      · rw [Nat.mul_succ]
        have : (if g = gear m then 0 else 20) ≤ 20 := by
          by_cases y : g = gear m
          · rw [if_pos y]; omega
          · rw [if_neg y]; omega
        omega
/-- what the cheapest way costs at most, where there is one -/
theorem cost_le {p q rv m : Nat} (hrv : rv < 2) (hp : p < 2048) (hq : q < 2048) (h : rLeast (rAdj enN canN wtF 20 rv) (seedS q 1) (goalS p) (m + 1)) : m ≤ 600 := by
  obtain ⟨⟨n, t, gt, wk⟩, lo⟩ := h.2 m rfl
  obtain ⟨S', s1, s2, s3⟩ := bfs_all hrv hp
  have reach : ∀ (n t c : Nat), gW (rAdj enN canN wtF 20 rv) (seedS q 1) n t c → t < 4096 ∧ (S'.testBit (t % 2048) = true → S'.testBit q = true) := by
    intro n
    induction n with
    | zero =>
      intro t c h
      have := seed_iff.1 h.1
      refine ⟨by omega, fun z => ?_⟩
      rwa [show t % 2048 = q by omega] at z
    | succ n ih =>
      rintro t c ⟨s, c', w, a, b, d⟩
      obtain ⟨s8, r⟩ := ih s c' a
      obtain ⟨u, g, mm, k1, k2, k3, k4, k5, k6, k7⟩ := (r_edge geo_N geo_B geo_K hrv s8).1 b
      have hl := geo_L u mm k1 (by omega)
      have hgm := gear_lt mm
      refine ⟨by omega, fun z => r ?_⟩
      rw [show t % 2048 = u by omega] at z
      have := s2 u mm k1 k3 z k4
      rwa [show s % 2048 = eN u mm - 1 by omega]
  obtain ⟨t8, tp⟩ := goal_iff.1 gt
  have qS := (reach n t m wk).2 (by rw [tp]; exact s1)
  obtain ⟨n', c, g, g', a1, a2, a3, a4, a5⟩ := pr_walk hrv hp _ q hq (s3 q qS)
  have wk' : gW (rAdj enN canN wtF 20 rv) (seedS q 1) n' (p + 2048 * g') c := (gW_gP n' _ c).2 ⟨q + 2048 * g, seed_iff.2 (by omega), a5⟩
  have := lo n' _ c (goal_iff.2 ⟨by omega, by omega⟩) wk'
  obtain rfl | rfl : rv = 0 ∨ rv = 1 := by omega
  · rw [if_pos rfl] at a4; omega
  · rw [if_neg (by decide)] at a4; omega
end
