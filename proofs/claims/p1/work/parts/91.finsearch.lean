section
variable {xs : Nat → Int32} {k : Nat} {h h1 h2 : List mCel} {fX fY fc fo fcl fcan : Nat → Int32}
def qad (r : Nat) : Nat := match r with | 0 => 20 | 1 => 21 | 2 => 22 | 3 => 23 | _ => 19
def qN0 (r _j : Nat) : Nat := match r with | 0 => 0 | 4 => 0 | _ => 1
theorem q_row {r : Nat} (h1 : 1 ≤ r) (h3 : r < 4) : qRowC qN0 r = zI (qLen r) := by
  have e : qDec 1 1 = 0 := by decide
  obtain rfl | rfl | rfl : r = 1 ∨ r = 2 ∨ r = 3 := by omega
  all_goals (show (Sum.inl (0, _, Sum.inl (fun _ => qDec 1 1)) : mCel) = _; rw [e]; rfl)
theorem q_fresh : qH qad qN0 (hL fX fY fc fo fcl fcan) := by
  refine ⟨fun r hr => ?_, x19, fun r s hr hs hn => ?_⟩
  · obtain rfl | rfl | rfl | rfl : r = 0 ∨ r = 1 ∨ r = 2 ∨ r = 3 := by omega
    · exact x20
    · rw [q_row (by decide) (by decide)]; exact x21
    · rw [q_row (by decide) (by decide)]; exact x22
    · rw [q_row (by decide) (by decide)]; exact x23
  · obtain rfl | rfl | rfl | rfl | rfl : r = 0 ∨ r = 1 ∨ r = 2 ∨ r = 3 ∨ r = 4 := by omega
    all_goals (obtain rfl | rfl | rfl | rfl | rfl : s = 0 ∨ s = 1 ∨ s = 2 ∨ s = 3 ∨ s = 4 := by omega)
    all_goals first | exact absurd rfl hn | decide
theorem q_ok0 : qOk qN0 := fun j _ => ⟨(by decide : (0 : Nat) < 2 ^ 31), (by decide : (1 : Nat) ≤ 4096), (by decide : (1 : Nat) ≤ 4096), fun _ => (by decide : (1 : Nat) ≤ 4096)⟩
theorem qad_n {a : Nat} (ha : a < 19 ∨ 24 ≤ a) : ¬ qAd qad a := by
  rintro ⟨r, hr, rfl⟩
  obtain rfl | rfl | rfl | rfl | rfl : r = 0 ∨ r = 1 ∨ r = 2 ∨ r = 3 ∨ r = 4 := by omega
  all_goals (revert ha; decide)
theorem w_fresh : wH qad 18 12 17 16 15 [.ref 12, .ref 17, .ref 19, .ref 24] [.ref 13, .int 0, .ref 14, .ref 15, .ref 16, .int 1, .int 1] (Int32.ofNat 20) 0 fo fc (hL fX fY fc fo fcl fcan) :=
  ⟨⟨x18, rfl, rfl, rfl⟩, ⟨x12, rfl, rfl⟩, x17, x16, x15, qad_n (by decide), qad_n (by decide), qad_n (by decide), qad_n (by decide), qad_n (by decide)⟩
theorem q_Pd {a : Nat} (h : qAd qad a) : Pd a := by
  obtain ⟨r, hr, rfl⟩ := h
  obtain rfl | rfl | rfl | rfl | rfl : r = 0 ∨ r = 1 ∨ r = 2 ∨ r = 3 ∨ r = 4 := by omega
  all_goals (unfold Pd; decide)
def wtF (p m _q : Nat) : Nat := wtN p m
/-- what a way's cost is on a fresh field, to the class: a number and 1, or 0 -/
theorem c_search {p q rv fe : Nat} (hf : ∀ j, j < 2048 → fo j = p1Fo j) (h16 : all16 fc) (hrv : rv < 2) (hfe : fe < 2) (hp : p < 2048) (hq : q < 2048) :
    ∃ h1 r, mW (mRo 8 xs) mTab 225 0 [some (.ref 18), some (.int (Int32.ofNat p)), some (.int (Int32.ofNat q)), some (.int (Int32.ofNat rv)), some (.int (Int32.ofNat fe)), none, none, none, none] [] (hL fX fY fc fo fcl fcan) k = some (.inl (some (.int (qDec 1 r))), h1, k) ∧ mKeep Pd (hL fX fY fc fo fcl fcan) h1 ∧
      (∃ N', qH qad N' h1 ∧ qOk N' ∧ ∀ m, r = m + 1 → ∃ s, goalS q s = true ∧ N' 0 s = m) ∧ ((p ≠ q ∧ ¬ (opN p = true ∧ opN q = true)) → r = 0) ∧ (p = q ∨ (opN p = true ∧ opN q = true) → gLeast (adjS eN wtF 20 rv fe) (seedS p rv) (goalS q) r) := by
  obtain ⟨h1, r, a1, a2, a3, a4, a5⟩ := c_searched (L := 8) (xs := xs) (k := k) (e := eN) (wt := wtF) (geo_E hf) (geo_W h16) (show 20 ≤ 100 by decide) hrv hfe hp hq q_fresh w_fresh q_ok0
  refine ⟨h1, r, a1, keep_mono a2 (fun x hx => q_Pd hx), a3, ?_, ?_⟩
  · rintro ⟨z1, z2⟩
    exact a4 ⟨z1, fun y => z2 ⟨(op_eq hf hp).1 y.1, (op_eq hf hq).1 y.2⟩⟩
  · intro z
    exact a5 (z.imp id (fun y => ⟨(op_eq hf hp).2 y.1, (op_eq hf hq).2 y.2⟩))
def rad (r : Nat) : Nat := match r with | 0 => 52 | 1 => 53 | 2 => 54 | _ => 42
theorem rad_Pm {a : Nat} (h : rAd rad a) : Pm a := by
  obtain ⟨r, hr, rfl⟩ := h
  obtain rfl | rfl | rfl | rfl : r = 0 ∨ r = 1 ∨ r = 2 ∨ r = 3 := by omega
  all_goals (unfold Pm; decide)
theorem rad_n {a : Nat} (ha : a < 42 ∨ 42 < a ∧ a < 52 ∨ 54 < a) : ¬ rAd rad a := by
  rintro ⟨r, hr, rfl⟩
  obtain rfl | rfl | rfl | rfl : r = 0 ∨ r = 1 ∨ r = 2 ∨ r = 3 := by omega
  all_goals (revert ha; decide)
theorem r_fresh {v : Int32} (M : mCell h 42 = some (.inr (11, (mFS 42).set 45 (.int v)))) (c52 : mCell h 52 = some (zI 4096)) (c53 : mCell h 53 = some (zI 4096)) (c54 : mCell h 54 = some (.inl (1, 4096, .inl fun _ => 0))) : rH rad ((mFS 42).set 45 (.int v)) (fun _ _ => 0) h := by
  refine ⟨fun r hr => ?_, M, fun r s hr hs hn => ?_, rfl, rfl, rfl, rfl⟩
  · obtain rfl | rfl | rfl : r = 0 ∨ r = 1 ∨ r = 2 := by omega
    · exact c52
    · exact c53
    · exact c54
  · obtain rfl | rfl | rfl | rfl : r = 0 ∨ r = 1 ∨ r = 2 ∨ r = 3 := by omega
    all_goals (obtain rfl | rfl | rfl | rfl : s = 0 ∨ s = 1 ∨ s = 2 ∨ s = 3 := by omega)
    all_goals first | exact absurd rfl hn | decide
/-- a walk's ends are free -/
theorem walk_open {q rv : Nat} (hrv : rv < 2) (hq : q < 2048) : ∀ (n t c : Nat), gW (rAdj enN canN wtF 20 rv) (seedS q 1) n t c → t < 4096 ∧ (t % 2048 = q ∨ (opN q = true ∧ opN (t % 2048) = true))
  | 0, t, c, h => by
    have := seed_iff.1 h.1
    exact ⟨by omega, Or.inl (by omega)⟩
  | n + 1, t, c, ⟨s, c', w, a, b, d⟩ => by
    obtain ⟨s8, ih⟩ := walk_open hrv hq n s c' a
    obtain ⟨p, g, m, k1, k2, k3, k4, k5, k6, k7⟩ := (r_edge geo_N geo_B geo_K hrv s8).1 b
    have hl := geo_L p m k1 (by omega)
    have hgm := gear_lt m
    refine ⟨by omega, Or.inr ?_⟩
    have o : opN p = true ∧ opN (eN p m - 1) = true := by
      rcases e_cases p m with e | ⟨e1, e2, e3, e4, e5, e6⟩
      · omega
      · refine ⟨e3, ?_⟩
        rw [e1]
        by_cases q3 : m % 3 = 0
        · have : enN p m = stN p (gear m) := by unfold enN; rw [if_neg e4, if_pos q3]
          rw [this]; exact e5
        · exact (e6.resolve_left q3).2
    have ts : s % 2048 = eN p m - 1 := by omega
    rw [show t % 2048 = p by omega]
    refine ⟨?_, o.1⟩
    rcases ih with z | z
    · rw [← z, ts]; exact o.2
    · exact z.1
theorem none_of {p q rv r : Nat} (hrv : rv < 2) (hq : q < 2048) (h : rLeast (rAdj enN canN wtF 20 rv) (seedS q 1) (goalS p) r) (hn : p ≠ q ∧ ¬ (opN p = true ∧ opN q = true)) : r = 0 := by
  cases r with
  | zero => rfl
  | succ m =>
    exfalso
    obtain ⟨⟨n, t, g, w⟩, _⟩ := h.2 m rfl
    have gg := goal_iff.1 g
    rcases (walk_open hrv hq n t m w).2 with z | z
    · exact hn.1 (by omega)
    · rw [gg.2] at z; exact hn.2 ⟨z.2, z.1⟩
theorem d_search {p q rv : Nat} {v : Int32} (hc : p1Can fcan) (h16 : all16 fcl) (hrv : rv < 2) (hp : p < 2048) (hq : q < 2048) (M : mCell h 42 = some (.inr (11, (mFS 42).set 45 (.int v)))) (c50 : mCell h 50 = some (.inl (0, 256, .inl fcl))) (c51 : mCell h 51 = some (.inl (1, 12288, .inl fcan))) (c52 : mCell h 52 = some (zI 4096)) (c53 : mCell h 53 = some (zI 4096)) (c54 : mCell h 54 = some (.inl (1, 4096, .inl fun _ => 0))) :
    ∃ h2 r, mW (mRo 8 xs) mTab 142 0 [some (.ref 42), some (.int (Int32.ofNat p)), some (.int (Int32.ofNat q)), some (.int (Int32.ofNat (3 + 3 * rv))), none] [] h k = some (.inl (some (.int (qDec 1 r))), h2, k) ∧ mKeep (rAd rad) h h2 ∧ (∃ M', rH rad ((mFS 42).set 45 (.int v)) M' h2 ∧ RC (rAdj enN canN wtF 20 rv) (seedS q 1) (fun _ => False) M' ∧ M' 3 1 = 0) ∧ rLeast (rAdj enN canN wtF 20 rv) (seedS q 1) (goalS p) r := by
  have V : vH rad ((mFS 42).set 45 (.int v)) 51 50 20 0 fcan fcl h := ⟨⟨rfl, rfl, rfl, rfl⟩, c51, c50, rad_n (by decide), rad_n (by decide)⟩
  exact d_ways (L := 8) (xs := xs) (k := k) geo_N (geo_C hc) (geo_V h16) geo_B (show 20 ≤ 100 by decide) can_pos hrv hp hq (r_fresh M c52 c53 c54) V rfl (by decide) (fun _ _ => rfl)
end
