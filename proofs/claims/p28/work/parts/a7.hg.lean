section
theorem ckS : Nat.ble (Sho.sumTo gN 2048) 113068 = true := by decide +kernel
variable {o : Nat → Bool} {mg : Nat} {cN : Nat → Nat}
theorem nx_eq {p m : Nat} (hp : p < 2048) (hm : m < 3) : nxN m p = enN p m := Nat.eq_of_beq_eq_true (allB_get (allP_get ckN hp) m hm)
/-- a move costs 20 more at most than its steps -/
theorem oc_le (ho : ∀ p, o p = true → p < 2048) (hc : ∀ p, o p = true → 1 ≤ cN (p % 256)) (hmg : mg ≤ 5) {q m x : Nat} (h : drE (eG o) q m = some x) : ocE (eG o) (wtG mg cN) q m ≤ wtN q m + 20 ∧ wtN q m ≤ ocE (eG o) (wtG mg cN) q m := by
  obtain ⟨h1, h2, h3⟩ := dr_some h
  have e : eG o q m - 1 = x := by
    unfold drE at h
    split at h
    · cases h
    · exact Option.some.inj h
  have := hc x h2
  unfold ocE wtG
  rw [e]
  omega
theorem dr_nx (ho : ∀ p, o p = true → p < 2048) {q m x : Nat} (hm : m < 3) (h : drE (eG o) q m = some x) : q < 2048 ∧ x < 2048 ∧ nxN m q = x + 1 := by
  obtain ⟨h1, h2, h3⟩ := dr_some h
  exact ⟨ho _ h1, ho _ h2, (nx_eq (ho _ h1) hm).trans h3⟩
/-- what a drive forward costs at least -/
theorem drive_least (ho : ∀ p, o p = true → p < 2048) (hc : ∀ p, o p = true → 1 ≤ cN (p % 256)) (hmg : mg ≤ 5) : ∀ (X : List (Nat × Nat)) (y : Nat), Sho.Val (drE (eG o)) y X → (∀ a ∈ X, decide (a.1 < 3) = true) →
    138 * X.length + phN (Sho.fin y X) ≤ 11 * Sho.co (ocE (eG o) (wtG mg cN)) y X + phN y
  | [], y, _, _ => by simp [Sho.fin]
  | a :: X, y, hv, hf => by
    obtain ⟨h1, h2⟩ := hv
    have hm : a.1 < 3 := of_decide_eq_true (hf a List.mem_cons_self)
    have ih := drive_least ho hc hmg X a.2 h2 (fun b hb => hf b (List.mem_cons_of_mem _ hb))
    obtain ⟨k1, k2, k3⟩ := dr_nx ho hm h1
    have oc := (oc_le ho hc hmg h1).2
    have ck := allB_get (allP_get ckPh k1) a.1 hm
    rw [k3, Nat.add_sub_cancel, Bool.or_eq_true] at ck
    have ck2 := Nat.le_of_ble_eq_true (ck.resolve_left (fun z => by have := Nat.eq_of_beq_eq_true z; omega))
    rw [List.length_cons, Sho.co, Sho.fin]
    omega
theorem fol_cons {dr : Nat → Nat → Option Nat} {q m : Nat} {ws : List Nat} {P : List (Nat × Nat)} (h : Sho.fol dr q (m :: ws) = some P) : ∃ x P', dr q m = some x ∧ Sho.fol dr x ws = some P' ∧ P = (m, x) :: P' := by
  unfold Sho.fol at h
  cases hd : dr q m with
  | none => rw [hd] at h; cases h
  | some x =>
    rw [hd] at h
    dsimp only at h
    cases hf : Sho.fol dr x ws with
    | none => rw [hf] at h; cases h
    | some P' => rw [hf] at h; cases h; exact ⟨x, P', rfl, hf, rfl⟩
theorem arcs_cost (ho : ∀ p, o p = true → p < 2048) (hc : ∀ p, o p = true → 1 ≤ cN (p % 256)) (hmg : mg ≤ 5) {k : Nat} (hk : k = 1 ∨ k = 2) : ∀ (n q : Nat) (P : List (Nat × Nat)), Sho.fol (drE (eG o)) q (List.replicate n k) = some P → Sho.co (ocE (eG o) (wtG mg cN)) q P ≤ 44 * n
  | 0, q, P, h => by cases h; exact Nat.le_refl _
  | n + 1, q, P, h => by
    rw [List.replicate_succ] at h
    obtain ⟨x, P', h1, h2, h3⟩ := fol_cons h
    have ih := arcs_cost ho hc hmg hk n x P' h2
    have oc := (oc_le (cN := cN) ho hc hmg h1).1
    have w : wtN q k = 24 := by rcases hk with z | z <;> rw [z] <;> rfl
    rw [h3, Sho.co]
    dsimp only
    omega
theorem arcs_many (ho : ∀ p, o p = true → p < 2048) {k : Nat} (hk : k = 1 ∨ k = 2) : ∀ (n q : Nat) (P : List (Nat × Nat)), n ≤ 7 → Sho.fol (drE (eG o)) q (List.replicate n k) = some P → n ≤ mN k q
  | 0, q, P, _, h => Nat.zero_le _
  | n + 1, q, P, hn, h => by
    rw [List.replicate_succ] at h
    obtain ⟨x, P', h1, h2, h3⟩ := fol_cons h
    have ih := arcs_many ho hk n x P' (by omega) h2
    obtain ⟨k1, k2, k3⟩ := dr_nx ho (by omega) h1
    have ck := allB_get (allP_get ckM k1) (k - 1) (by omega)
    rw [show k - 1 + 1 = k by omega, k3, Nat.add_sub_cancel, Bool.or_eq_true] at ck
    have ck2 := Nat.le_of_ble_eq_true (ck.resolve_left (fun z => by have := Nat.eq_of_beq_eq_true z; omega))
    have : Nat.min 7 (1 + mN k x) = min 7 (1 + mN k x) := rfl
    omega
/-- straights, and then arcs -/
theorem line_cost (ho : ∀ p, o p = true → p < 2048) (hc : ∀ p, o p = true → 1 ≤ cN (p % 256)) (hmg : mg ≤ 5) {k c : Nat} (hk : k = 1 ∨ k = 2) (hc7 : c ≤ 7) : ∀ (n q : Nat) (P : List (Nat × Nat)), q < 2048 → Sho.fol (drE (eG o)) q (List.replicate n 0 ++ List.replicate c k) = some P → Sho.co (ocE (eG o) (wtG mg cN)) q P ≤ fN k q
  | 0, q, P, hq, h => by
    have h' : Sho.fol (drE (eG o)) q (List.replicate c k) = some P := h
    have a1 := arcs_cost (cN := cN) ho hc hmg hk c q P h'
    have a2 := arcs_many ho hk c q P hc7 h'
    have ck := allB_get (allP_get ckF hq) (k - 1) (by omega)
    rw [show k - 1 + 1 = k by omega, Bool.and_eq_true] at ck
    have := Nat.le_of_ble_eq_true ck.1
    omega
  | n + 1, q, P, hq, h => by
    rw [List.replicate_succ, List.cons_append] at h
    obtain ⟨x, P', h1, h2, h3⟩ := fol_cons h
    obtain ⟨k1, k2, k3⟩ := dr_nx ho (by decide) h1
    have ih := line_cost ho hc hmg hk hc7 n x P' k2 h2
    have oc := (oc_le (cN := cN) ho hc hmg h1).1
    have ck := allB_get (allP_get ckF hq) (k - 1) (by omega)
    rw [show k - 1 + 1 = k by omega, Bool.and_eq_true, k3, Nat.add_sub_cancel, Bool.or_eq_true] at ck
    have ck2 := Nat.le_of_ble_eq_true (ck.2.resolve_left (fun z => by have := Nat.eq_of_beq_eq_true z; omega))
    rw [h3, Sho.co]
    dsimp only
    omega
/-- arcs of the other kind, and then arcs -/
theorem chB_cost (ho : ∀ p, o p = true → p < 2048) (hc : ∀ p, o p = true → 1 ≤ cN (p % 256)) (hmg : mg ≤ 5) {D k c : Nat} (hk : k = 1 ∨ k = 2) (hc7 : c ≤ 7) : ∀ (n d q s : Nat) (P : List (Nat × Nat)), n < d → chB D k d q s = true → Sho.fol (drE (eG o)) q (List.replicate n (3 - k) ++ List.replicate c k) = some P → s + Sho.co (ocE (eG o) (wtG mg cN)) q P ≤ D
  | n, 0, q, s, P, hn, _, h => absurd hn (Nat.not_lt_zero _)
  | 0, d + 1, q, s, P, hn, ck, h => by
    have h' : Sho.fol (drE (eG o)) q (List.replicate c k) = some P := h
    have a1 := arcs_cost (cN := cN) ho hc hmg hk c q P h'
    have a2 := arcs_many ho hk c q P hc7 h'
    rw [chB, Bool.and_eq_true] at ck
    have := Nat.le_of_ble_eq_true ck.1
    omega
  | n + 1, d + 1, q, s, P, hn, ck, h => by
    rw [List.replicate_succ, List.cons_append] at h
    obtain ⟨x, P', h1, h2, h3⟩ := fol_cons h
    obtain ⟨k1, k2, k3⟩ := dr_nx ho (by omega) h1
    have oc := (oc_le (cN := cN) ho hc hmg h1).1
    have w : wtN q (3 - k) = 24 := by rcases hk with z | z <;> rw [z] <;> rfl
    rw [chB, Bool.and_eq_true, k3, Nat.add_sub_cancel, Bool.or_eq_true] at ck
    have ih := chB_cost (D := D) ho hc hmg hk hc7 n d x (s + 44) P' (by omega) (ck.2.resolve_left (fun z => by have := Nat.eq_of_beq_eq_true z; omega)) h2
    rw [h3, Sho.co]
    dsimp only
    omega
theorem chA_cost (ho : ∀ p, o p = true → p < 2048) (hc : ∀ p, o p = true → 1 ≤ cN (p % 256)) (hmg : mg ≤ 5) {D k b c w : Nat} (hw : w < 6) (hk : k = kN w 0) (hb : b ≤ (if w < 4 then 15 else 7)) (hc7 : c ≤ 7) :
    ∀ (n d q s : Nat) (P : List (Nat × Nat)), q < 2048 → n < d → chA D k d q s = true → Sho.fol (drE (eG o)) q (List.replicate n k ++ (List.replicate b (kN w 1) ++ List.replicate c (kN w 2))) = some P → s + Sho.co (ocE (eG o) (wtG mg cN)) q P ≤ D
  | n, 0, q, s, P, _, hn, _, h => absurd hn (Nat.not_lt_zero _)
  | 0, d + 1, q, s, P, hq, hn, ck, h => by
    have h' : Sho.fol (drE (eG o)) q (List.replicate b (kN w 1) ++ List.replicate c (kN w 2)) = some P := h
    rw [chA, Bool.and_eq_true, Bool.and_eq_true, Bool.and_eq_true] at ck
    obtain ⟨c1, c2, c3, _⟩ := ck
    have c1 := Nat.le_of_ble_eq_true c1
    have c2 := Nat.le_of_ble_eq_true c2
    by_cases h4 : w < 4
    · have k1 : kN w 1 = 0 := by unfold kN; rw [if_pos rfl, if_neg (by omega), if_neg (by omega)]
      rw [k1] at h'
      have l := line_cost (cN := cN) ho hc hmg (kN_02 w).2 hc7 b q P hq h'
      rcases (kN_02 w).2 with z | z <;> rw [z] at l <;> omega
    · rw [if_neg h4] at hb
      have e1 : kN w 1 = 3 - k ∧ kN w 2 = k := by
        rw [hk]
        rcases (show w = 4 ∨ w = 5 by omega) with z | z <;> rw [z] <;> decide
      rw [e1.1, e1.2] at h'
      exact chB_cost (cN := cN) ho hc hmg (hk ▸ (kN_02 w).1) hc7 b 8 q s P (by omega) c3 h'
  | n + 1, d + 1, q, s, P, hq, hn, ck, h => by
    rw [List.replicate_succ, List.cons_append] at h
    obtain ⟨x, P', h1, h2, h3⟩ := fol_cons h
    have k12 : k = 1 ∨ k = 2 := hk ▸ (kN_02 w).1
    obtain ⟨k1, k2, k3⟩ := dr_nx ho (by omega) h1
    have oc := (oc_le (cN := cN) ho hc hmg h1).1
    have w24 : wtN q k = 24 := by rcases k12 with z | z <;> rw [z] <;> rfl
    rw [chA, Bool.and_eq_true, Bool.and_eq_true, Bool.and_eq_true, k3, Nat.add_sub_cancel, Bool.or_eq_true] at ck
    have ih := chA_cost (D := D) ho hc hmg hw hk hb hc7 n d x (s + 44) P' k2 (by omega) (ck.2.2.2.resolve_left (fun z => by have := Nat.eq_of_beq_eq_true z; omega)) h2
    rw [h3, Sho.co]
    dsimp only
    omega
theorem word_cost (ho : ∀ p, o p = true → p < 2048) (hc : ∀ p, o p = true → 1 ≤ cN (p % 256)) (hmg : mg ≤ 5) {q p : Nat} {ws : List Nat} {P : List (Nat × Nat)} (hq : q < 2048) (hw : wWd q p = some ws) (hf : Sho.fol (drE (eG o)) q ws = some P) : Sho.co (ocE (eG o) (wtG mg cN)) q P ≤ dN q := by
  unfold wWd at hw
  by_cases h0 : (wFd q p (0, 0, 0)).2.1 = 0
  · rw [if_pos h0] at hw; cases hw
  · rw [if_neg h0] at hw
    obtain ⟨w, a, b, c, e, ⟨⟨k1, k2, k3, k4⟩, _⟩⟩ := wFd_ok q p (0, 0, 0) h0
    rw [e] at hw
    have hw' : List.replicate a (kN w 0) ++ (List.replicate b (kN w 1) ++ List.replicate c (kN w 2)) = ws := by
      have := Option.some.inj hw
      unfold wMv at this
      rwa [if_neg (show ¬ w + 1 = 0 by omega)] at this
    rw [← hw'] at hf
    have ck := allB_get (allP_get ckD hq) (kN w 0 - 1) (by have := (kN_02 w).1; omega)
    rw [show kN w 0 - 1 + 1 = kN w 0 by have := (kN_02 w).1; omega] at ck
    have := chA_cost (cN := cN) (D := dN q) ho hc hmg k1 rfl (by split at k3 <;> (rename_i z; simp only [z]; first | rw [if_pos trivial]; omega | rw [if_neg (by decide)]; omega | omega)) (by omega) a 8 q 0 P hq k2 ck hf
    omega
theorem word_hg (ho : ∀ p, o p = true → p < 2048) (hc : ∀ p, o p = true → 1 ≤ cN (p % 256)) (hmg : mg ≤ 5) (y p : Nat) (ws : List Nat) (P X : List (Nat × Nat)) (hw : wWd y p = some ws) (hf : Sho.fol (drE (eG o)) y ws = some P) (hv : Sho.Val (drE (eG o)) y X)
    (hco : Sho.co (ocE (eG o) (wtG mg cN)) y X ≤ Sho.co (ocE (eG o) (wtG mg cN)) y P) (hfw : ∀ a ∈ X, decide (a.1 < 3) = true) : X.length ≤ gN y := by
  by_cases hq : y < 2048
  · have h1 := word_cost (cN := cN) ho hc hmg hq hw hf
    have h2 := drive_least (cN := cN) ho hc hmg X y hv hfw
    unfold gN
    rw [if_pos hq]
    refine Nat.le_trans ?_ (Nat.le_max_right _ _)
    rw [Nat.le_div_iff_mul_le (by decide)]
    omega
  · cases X with
    | nil => exact Nat.zero_le _
    | cons a X => exact absurd (ho _ (dr_some hv.1).1) hq
theorem gN_2 (y : Nat) : 2 ≤ gN y := by
  unfold gN
  split
  · exact Nat.le_max_left _ _
  · exact Nat.le_refl _
theorem gN_75 (y : Nat) : gN y ≤ 75 := by
  by_cases hq : y < 2048
  · exact of_decide_eq_true (allP_get ckG hq)
  · unfold gN; rw [if_neg hq]; decide
set_option maxRecDepth 16384 in
theorem gN_sum : Sho.sumTo gN 2048 ≤ 113068 := Nat.le_of_ble_eq_true ckS
end
