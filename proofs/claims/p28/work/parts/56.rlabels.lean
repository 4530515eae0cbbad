def sumN (f : Nat → Nat) : Nat → Nat
  | 0 => 0
  | n + 1 => sumN f n + f n
theorem sum_congr {f g : Nat → Nat} : ∀ n, (∀ i, i < n → f i = g i) → sumN f n = sumN g n
  | 0, _ => rfl
  | n + 1, h => by rw [sumN, sumN, sum_congr n (fun i hi => h i (by omega)), h n (by omega)]
theorem sum_down {f g : Nat → Nat} {s : Nat} (h1 : ∀ i, i ≠ s → g i = f i) (h2 : g s < f s) : ∀ n, s < n → sumN g n < sumN f n
  | 0, h => absurd h (by omega)
  | n + 1, h => by
    rw [sumN, sumN]
    by_cases e : s = n
    · subst e; rw [sum_congr s (fun i hi => h1 i (by omega))]; omega
    · have := sum_down h1 h2 n (by omega); rw [h1 n (by omega)]; omega
def rMu (M : Nat → Nat → Nat) : Nat := 2 * sumN (M 0) 4096 + M 3 1
theorem mu_lower {M : Nat → Nat → Nat} {s c : Nat} (R : RI M) (hs : s < 4096) : rMu (rLower M s c) ≤ rMu M := by
  obtain ⟨_, a, b, d⟩ := ri_lower (c := c) R hs
  by_cases e : c < M 0 s
  · have h1 : ∀ i, i ≠ s → rLower M s c 0 i = M 0 i := fun i hi => by rw [a, if_neg (fun z => hi z.1)]
    have h2 : rLower M s c 0 s < M 0 s := by rw [a, if_pos ⟨rfl, e⟩]; exact e
    have := sum_down h1 h2 4096 hs
    have := d e
    unfold rMu; omega
  · unfold rLower; rw [if_neg e]; exact Nat.le_refl _
theorem mu_pop {M : Nat → Nat → Nat} (R : RI M) (hw : 0 < M 3 1) : rMu (rPop M) < rMu M := by
  obtain ⟨_, _, _, a, _, b⟩ := ri_pop R hw
  have : sumN (rPop M 0) 4096 = sumN (M 0) 4096 := sum_congr 4096 (fun i _ => a i)
  unfold rMu; omega
def rLows (c : Nat) : List (Nat × Nat) → (Nat → Nat → Nat) → (Nat → Nat → Nat)
  | [], M => M
  | e :: l, M => rLows c l (rLower M e.1 (c + e.2))
theorem rlows_app (c : Nat) (l m : List (Nat × Nat)) : ∀ (M : Nat → Nat → Nat), rLows c (l ++ m) M = rLows c m (rLows c l M) := by
  induction l with
  | nil => intro N; rfl
  | cons e l ih => intro N; exact ih _
/-- the reference's labels, but for a state that is spread just now -/
def RC (adj : Nat → List (Nat × Nat)) (sd : Nat → Bool) (x : Nat → Prop) (M : Nat → Nat → Nat) : Prop :=
  RI M ∧ (∀ s, s < 4096 → M 0 s = 1000000 ∨ ∃ n, gW adj sd n s (M 0 s)) ∧
  (∀ s, s < 4096 → ¬ x s → M 2 s = 0 → M 0 s < 1000000 → ∀ e, e ∈ adj s → M 0 e.1 ≤ M 0 s + e.2) ∧
  (∀ s, sd s = true → s < 4096 ∧ M 0 s = 0)
theorem rc_lower {adj : Nat → List (Nat × Nat)} {sd : Nat → Bool} {M : Nat → Nat → Nat} {s t w : Nat} {x : Nat → Prop} (R : RC adj sd x M) (hx : ∀ u, x u → u = s) (hs : s < 4096) (he : (t, w) ∈ adj s) (ht : t < 4096) :
    RC adj sd x (rLower M t (M 0 s + w)) ∧ rLower M t (M 0 s + w) 0 s = M 0 s ∧ (∀ u, rLower M t (M 0 s + w) 0 u ≤ M 0 u) ∧ rLower M t (M 0 s + w) 0 t ≤ M 0 s + w ∧ (∀ u, rLower M t (M 0 s + w) 2 u = 0 → M 2 u = 0) ∧ rMu (rLower M t (M 0 s + w)) ≤ rMu M := by
  obtain ⟨I, c1, c2, c3⟩ := R
  obtain ⟨I', a, b, d⟩ := ri_lower (c := M 0 s + w) I ht
  have le : ∀ u, rLower M t (M 0 s + w) 0 u ≤ M 0 u := by
    intro u; rw [a]; split
    · rename_i z; rw [z.1]; omega
    · exact Nat.le_refl _
  refine ⟨⟨I', ?_, ?_, ?_⟩, ?_, le, ?_, ?_, mu_lower I ht⟩
  · intro u hu
    rw [a]
    by_cases z : u = t ∧ M 0 s + w < M 0 t
    · rw [if_pos z]
      right
      rcases c1 s hs with q | ⟨n, q⟩
      · have := I.2.2.2.2.2 t ht; omega
      · refine ⟨n + 1, s, M 0 s, w, q, ?_, rfl⟩
        rw [z.1]; exact he
    · rw [if_neg z]; exact c1 u hu
  · intro u hu nx h2 hf e' he'
    rw [b] at h2
    by_cases z : u = t ∧ M 0 s + w < M 0 t
    · rw [if_pos z] at h2; omega
    · rw [if_neg z] at h2
      rw [a u, if_neg z] at hf ⊢
      exact Nat.le_trans (le _) (c2 u hu nx h2 hf e' he')
  · intro u hu
    have := c3 u hu
    refine ⟨this.1, ?_⟩
    have := le u; omega
  · rw [a, if_neg]; rintro ⟨z1, z2⟩; rw [← z1] at z2; omega
  · rw [a]; by_cases z : M 0 s + w < M 0 t
    · rw [if_pos ⟨rfl, z⟩]; exact Nat.le_refl _
    · rw [if_neg (fun y => z y.2)]; omega
  · intro u hu; rw [b] at hu; split at hu
    · omega
    · exact hu
theorem rc_lows {adj : Nat → List (Nat × Nat)} {sd : Nat → Bool} {s c : Nat} {x : Nat → Prop} (hx : ∀ u, x u → u = s) (hs : s < 4096) : ∀ (l : List (Nat × Nat)) (M : Nat → Nat → Nat), RC adj sd x M → M 0 s = c → (∀ e, e ∈ l → e ∈ adj s ∧ e.1 < 4096) →
    RC adj sd x (rLows c l M) ∧ rLows c l M 0 s = c ∧ (∀ u, rLows c l M 0 u ≤ M 0 u) ∧ (∀ e, e ∈ l → rLows c l M 0 e.1 ≤ c + e.2) ∧ (∀ u, rLows c l M 2 u = 0 → M 2 u = 0) ∧ rMu (rLows c l M) ≤ rMu M
  | [], M, R, hc, hl => ⟨R, hc, fun _ => Nat.le_refl _, fun e z => by simp at z, fun _ z => z, Nat.le_refl _⟩
  | e :: l, M, R, hc, hl => by
    obtain ⟨t, w⟩ := e
    have h1 := hl _ (List.mem_cons_self ..)
    obtain ⟨a1, a2, a3, a4, a5, a6⟩ := rc_lower R hx hs h1.1 h1.2
    rw [hc] at a1 a2 a3 a4 a5 a6
    obtain ⟨b1, b2, b3, b4, b5, b6⟩ := rc_lows hx hs l (rLower M t (c + w)) a1 a2 (fun e' z => hl e' (List.mem_cons_of_mem _ z))
    refine ⟨b1, b2, fun u => Nat.le_trans (b3 u) (a3 u), ?_, fun u z => a5 u (b5 u z), Nat.le_trans b6 a6⟩
    intro e' z
    rcases List.mem_cons.1 z with z | z
    · subst z; exact Nat.le_trans (b3 t) a4
    · exact b4 e' z
/-- a state taken and spread -/
theorem rc_step {adj : Nat → List (Nat × Nat)} {sd : Nat → Bool} {M : Nat → Nat → Nat} (ha : ∀ s, s < 4096 → ∀ e, e ∈ adj s → e.1 < 4096) (R : RC adj sd (fun _ => False) M) (hw : 0 < M 3 1) :
    RC adj sd (fun _ => False) (rLows (M 0 (M 1 (M 3 0))) (adj (M 1 (M 3 0))) (rPop M)) ∧ rMu (rLows (M 0 (M 1 (M 3 0))) (adj (M 1 (M 3 0))) (rPop M)) < rMu M := by
  obtain ⟨I, c1, c2, c3⟩ := R
  have hmu := mu_pop I hw
  obtain ⟨I', hs, h1, a, b, d⟩ := ri_pop I hw
  generalize M 1 (M 3 0) = s at hs h1 b ⊢
  have R' : RC adj sd (fun u => u = s) (rPop M) := by
    refine ⟨I', fun u hu => by rw [a]; exact c1 u hu, ?_, fun u hu => by rw [a]; exact c3 u hu⟩
    intro u hu nx h2 hf e he
    rw [b, if_neg nx] at h2
    rw [a] at hf
    rw [a, a]; exact c2 u hu (fun z => z) h2 hf e he
  obtain ⟨b1, b2, b3, b4, b5, b6⟩ := rc_lows (c := M 0 s) (fun u z => z) hs (adj s) (rPop M) R' (a s) (fun e he => ⟨he, ha s hs e he⟩)
  obtain ⟨k1, k2, k3, k4⟩ := b1
  refine ⟨⟨k1, k2, ?_, k4⟩, Nat.lt_of_le_of_lt b6 hmu⟩
  intro u hu _ h2 hf e he
  by_cases q : u = s
  · subst q; rw [b2]; exact b4 e he
  · exact k3 u hu q h2 hf e he
/-- when none waits, the labels are the least costs -/
theorem rc_end {adj : Nat → List (Nat × Nat)} {sd : Nat → Bool} {M : Nat → Nat → Nat} (ha : ∀ s, s < 4096 → ∀ e, e ∈ adj s → e.1 < 4096) (R : RC adj sd (fun _ => False) M) (hw : M 3 1 = 0) :
    (∀ s, s < 4096 → M 0 s = 1000000 ∨ ∃ n, gW adj sd n s (M 0 s)) ∧ (∀ n s c, gW adj sd n s c → s < 4096 ∧ M 0 s ≤ c) := by
  obtain ⟨I, c1, c2, c3⟩ := R
  refine ⟨c1, ?_⟩
  have flags : ∀ s, s < 4096 → M 2 s = 0 := by
    intro s hs
    have := cnt_zero (J := rFlag M) 4096 (by rw [← I.2.2.1]; exact hw) s hs
    unfold rFlag at this
    have h1 := of_decide_eq_false this
    rcases I.2.2.2.2.1 s hs with z | z
    · exact z
    · exact absurd z h1
  intro n
  induction n with
  | zero => rintro s c ⟨a, rfl⟩; have := c3 s a; exact ⟨this.1, by omega⟩
  | succ n ih =>
    rintro t c ⟨s, c', w, a, b, rfl⟩
    obtain ⟨hs, hc⟩ := ih s c' a
    have ht := ha s hs _ b
    refine ⟨ht, ?_⟩
    by_cases f : M 0 s < 1000000
    · have := c2 s hs (fun z => z) (flags s hs) f _ b
      simp only [] at this
      omega
    · have := I.2.2.2.2.2 t ht
      omega
