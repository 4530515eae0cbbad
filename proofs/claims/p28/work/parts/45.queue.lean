theorem QI_cost {N : Nat → Nat → Nat} {J : Nat → Bool} {rk : Nat → Nat} {cl s c : Nat} (h : QI N J rk cl) (hs : J s = false) : QI (nu N 0 s c) J rk cl := by
  obtain ⟨h1, h2, h3, h4, h5⟩ := h
  have Z : ∀ t, J t = true → nu N 0 s c 0 t = N 0 t := fun t ht => nu_ne (fun z => by rw [z, hs] at ht; cases ht)
  have R : ∀ r j, r ≠ 0 → nu N 0 s c r j = N r j := fun r j hr => nu_row hr
  refine ⟨?_, ?_, ?_, ?_, ?_⟩
  · intro t ht; rw [Z t ht, R 4 1 (by decide)]; exact h1 t ht
  · intro t ht; rw [R 1 _ (by decide), R 2 _ (by decide), Z t ht]
    rcases h2 t ht with a | ⟨a, b, d⟩
    · exact Or.inl a
    · rw [Z _ b]; exact Or.inr ⟨a, b, d⟩
  · intro t ht; rw [R 2 _ (by decide), R 1 _ (by decide), R 3 _ (by decide), Z t ht]
    rcases h3 t ht with a | ⟨a, b, d⟩
    · exact Or.inl a
    · rw [Z _ b]; exact Or.inr ⟨a, b, d⟩
  · intro r hr; rw [R 3 _ (by decide), R 2 _ (by decide)]
    rcases h4 r hr with a | ⟨a, b, d⟩
    · exact Or.inl a
    · rw [Z _ b]; exact Or.inr ⟨a, b, d⟩
  · rw [R 4 _ (by decide)]; exact h5
theorem ln_0 {N : Nat → Nat → Nat} {s j : Nat} : nLink N s 0 j = N 0 j := by
  unfold nLink nLn1; repeat' split
  all_goals simp [nu]
theorem ln_41 {N : Nat → Nat → Nat} {s : Nat} : nLink N s 4 1 = N 4 1 := by
  unfold nLink nLn1; repeat' split
  all_goals simp [nu]
theorem ln_40 {N : Nat → Nat → Nat} {s : Nat} : nLink N s 4 0 = N 4 0 + 1 := nu_eq
theorem ln_1 {N : Nat → Nat → Nat} {s j : Nat} : nLink N s 1 j = if j = s then N 3 (N 0 s % 256) else N 1 j := by
  unfold nLink nLn1; repeat' split
  all_goals simp_all [nu]
theorem ln_2 {N : Nat → Nat → Nat} {s j : Nat} : nLink N s 2 j = if j = s then 0 else if 0 < N 3 (N 0 s % 256) ∧ j = N 3 (N 0 s % 256) - 1 then s + 1 else N 2 j := by
  unfold nLink nLn1; repeat' split
  all_goals simp_all [nu]
theorem ln_3 {N : Nat → Nat → Nat} {s j : Nat} : nLink N s 3 j = if j = N 0 s % 256 then s + 1 else N 3 j := by
  unfold nLink nLn1; repeat' split
  all_goals simp_all [nu]
theorem QI_ln {N : Nat → Nat → Nat} {J : Nat → Bool} {rk : Nat → Nat} {cl s : Nat} (h : QI N J rk cl) (hs : J s = false) (h8 : s < 4096) (hl : N 4 1 ≤ N 0 s ∧ N 0 s < N 4 1 + 256) : QI (nLink N s) (updN J s true) (updN rk s cl) (cl + 1) := by
  obtain ⟨h1, h2, h3, h4, h5⟩ := h
  have V : ∀ t, J t = true → t ≠ s := fun t ht z => by rw [z, hs] at ht; cases ht
  have Vs : ∀ t, J t = true → updN J s true t = true := fun t ht => by unfold updN; split; rfl; exact ht
  have K : ∀ t, J t = true → updN rk s cl t = rk t := fun t ht => by unfold updN; rw [if_neg (V t ht)]
  have Ks : updN rk s cl s = cl := by simp [updN]
  have Js : updN J s true s = true := by simp [updN]
  have U : ∀ t, updN J s true t = true → t ≠ s → J t = true := fun t ht hn => by unfold updN at ht; rw [if_neg hn] at ht; exact ht
  have a4 := h4 (N 0 s % 256) (Nat.mod_lt _ (by decide))
  refine ⟨?_, ?_, ?_, ?_, ?_⟩
  · intro t ht; rw [ln_0, ln_41]
    by_cases e : t = s
    · subst e; rw [Ks]; omega
    · have := h1 t (U t ht e); rw [K t (U t ht e)]; omega
  · intro t ht
    simp only [ln_0, ln_1, ln_2]
    by_cases e : t = s
    · subst e; rw [if_pos rfl, Ks]
      rcases a4 with a | ⟨a, b, c, d⟩
      · exact Or.inl a
      · refine Or.inr ⟨a, Vs _ b, ?_, c, ?_⟩
        · rw [if_neg (V _ b), if_pos ⟨a, rfl⟩]
        · rw [K _ b]; exact (h1 _ b).2.2.2
    · have jt := U t ht e
      rw [if_neg e, K t jt]
      rcases h2 t jt with a | ⟨a, b, c, d, f⟩
      · exact Or.inl a
      · refine Or.inr ⟨a, Vs _ b, ?_, d, ?_⟩
        · rw [if_neg (V _ b), if_neg]
          · exact c
          · rintro ⟨z1, z2⟩
            rw [z2] at c; rcases a4 with a4 | ⟨_, _, _, a4⟩ <;> omega
        · rw [K _ b]; exact f
  · intro t ht
    simp only [ln_0, ln_1, ln_2, ln_3]
    by_cases e : t = s
    · subst e; rw [if_pos rfl, if_pos rfl]; exact Or.inl ⟨rfl, rfl⟩
    · have jt := U t ht e
      rw [if_neg e, K t jt]
      by_cases c : 0 < N 3 (N 0 s % 256) ∧ t = N 3 (N 0 s % 256) - 1
      · rw [if_pos c]
        refine Or.inr ⟨by omega, ?_, ?_, ?_, ?_⟩
        · rw [Nat.add_sub_cancel]; exact Js
        · rw [Nat.add_sub_cancel, if_pos rfl]; omega
        · rw [Nat.add_sub_cancel]; rcases a4 with a4 | ⟨_, _, a4, _⟩
          · omega
          · rw [c.2, a4]
        · rw [Nat.add_sub_cancel, Ks]; exact (h1 t jt).2.2.2
      · rw [if_neg c]
        rcases h3 t jt with ⟨a, b⟩ | ⟨a, b, d, f, g⟩
        · refine Or.inl ⟨a, ?_⟩
          rw [if_neg]
          · exact b
          · intro z; rw [z] at b; apply c; omega
        · refine Or.inr ⟨a, Vs _ b, ?_, f, ?_⟩
          · rw [if_neg (V _ b)]; exact d
          · rw [K _ b]; exact g
  · intro r hr
    simp only [ln_0, ln_2, ln_3]
    by_cases e : r = N 0 s % 256
    · rw [if_pos e, Nat.add_sub_cancel, if_pos rfl]
      exact Or.inr ⟨by omega, Js, e.symm, rfl⟩
    · rw [if_neg e]
      rcases h4 r hr with a | ⟨a, b, c, d⟩
      · exact Or.inl a
      · refine Or.inr ⟨a, Vs _ b, c, ?_⟩
        rw [if_neg (V _ b), if_neg]
        · exact d
        · rintro ⟨z1, z2⟩
          rw [z2] at c; rcases a4 with a4 | ⟨_, _, a4, _⟩ <;> omega
  · rw [ln_40, h5, cnt_on hs 4096 h8]
/-- no row is empty that a state in wait belongs to -/
theorem QI_row {N : Nat → Nat → Nat} {J : Nat → Bool} {rk : Nat → Nat} {cl : Nat} (h : QI N J rk cl) : ∀ (d s : Nat), cl - rk s ≤ d → J s = true → 0 < N 3 (N 0 s % 256)
  | 0, s, hd, hs => absurd (h.1 s hs).2.2.2 (by omega)
  | d + 1, s, hd, hs => by
    rcases h.2.2.1 s hs with ⟨_, b⟩ | ⟨a, b, c, e, f⟩
    · omega
    · have := (h.1 _ b).2.2.2
      rw [← e]; exact QI_row h d _ (by omega) b
theorem QI_level {N : Nat → Nat → Nat} {J : Nat → Bool} {rk : Nat → Nat} {cl : Nat} (h : QI N J rk cl) (h0 : ¬ 0 < N 3 (N 4 1 % 256)) : QI (nu N 4 1 (N 4 1 + 1)) J rk cl := by
  obtain ⟨h1, h2, h3, h4, h5⟩ := id h
  have R : ∀ r j, r ≠ 4 → nu N 4 1 (N 4 1 + 1) r j = N r j := fun r j hr => nu_row hr
  have W : nu N 4 1 (N 4 1 + 1) 4 0 = N 4 0 := nu_ne (by decide)
  refine ⟨?_, ?_, ?_, ?_, ?_⟩
  · intro t ht; rw [R 0 _ (by decide), nu_eq]
    have a := h1 t ht
    have b := QI_row h _ t (Nat.le_refl _) ht
    have : N 0 t ≠ N 4 1 := fun z => by rw [z] at b; exact h0 b
    omega
  · intro t ht; simp only [R 0 _ (by decide), R 1 _ (by decide), R 2 _ (by decide)]; exact h2 t ht
  · intro t ht; simp only [R 0 _ (by decide), R 1 _ (by decide), R 2 _ (by decide), R 3 _ (by decide)]; exact h3 t ht
  · intro t ht; simp only [R 0 _ (by decide), R 2 _ (by decide), R 3 _ (by decide)]; exact h4 t ht
  · rw [W]; exact h5
/-- what take gives: the least of the states in wait -/
theorem nTake_get {J : Nat → Bool} {rk : Nat → Nat} {cl : Nat} : ∀ (d : Nat) (N : Nat → Nat → Nat), QI N J rk cl → (∃ t, J t = true ∧ N 0 t < N 4 1 + d) →
    ∃ s, (nTake d N).1 = s + 1 ∧ J s = true ∧ (∀ t, J t = true → N 0 s ≤ N 0 t) ∧ QI (nTake d N).2 (updN J s false) rk cl ∧ (∀ j, (nTake d N).2 0 j = N 0 j) ∧ (nTake d N).2 4 1 = N 0 s
  | 0, N, h, ⟨t, ht, hl⟩ => absurd (h.1 t ht).2.1 (by omega)
  | d + 1, N, h, ⟨t, ht, hl⟩ => by
    have ht8 := (h.1 t ht).1
    have hw : N 4 0 ≠ 0 := by
      intro z; rw [h.2.2.2.2] at z
      have := cnt_zero 4096 z t ht8; rw [ht] at this; cases this
    unfold nTake; rw [if_neg hw]
    by_cases e : 0 < N 3 (N 4 1 % 256)
    · rw [if_pos e]
      rcases h.2.2.2.1 (N 4 1 % 256) (Nat.mod_lt _ (by decide)) with a | ⟨a, b, c, f⟩
      · omega
      · have k := h.1 _ b
        have hc : N 0 (N 3 (N 4 1 % 256) - 1) = N 4 1 := by omega
        refine ⟨N 3 (N 4 1 % 256) - 1, by simp only []; omega, b, ?_, QI_un h b, fun j => un_0, ?_⟩
        · intro u hu; rw [hc]; exact (h.1 u hu).2.1
        · simp only [un_41, hc]
    · rw [if_neg e]
      have hn := QI_level h e
      have b := QI_row h _ t (Nat.le_refl _) ht
      have hne : N 0 t ≠ N 4 1 := fun z => by rw [z] at b; exact e b
      have R : ∀ j, nu N 4 1 (N 4 1 + 1) 0 j = N 0 j := fun j => nu_row (by decide)
      obtain ⟨s, k1, k2, k3, k4, k5, k6⟩ := nTake_get d (nu N 4 1 (N 4 1 + 1)) hn ⟨t, ht, by rw [R, nu_eq]; have := (h.1 t ht).2.1; omega⟩
      refine ⟨s, k1, k2, ?_, k4, fun j => by rw [k5, R], by rw [k6, R]⟩
      intro u hu; have := k3 u hu; rw [R, R] at this; exact this
theorem nTake_none {J : Nat → Bool} {rk : Nat → Nat} {cl : Nat} (d : Nat) (N : Nat → Nat → Nat) (h : QI N J rk cl) (hn : ∀ t, J t = false) : nTake d N = (0, N) := by
  have hw : N 4 0 = 0 := by
    rw [h.2.2.2.2]
    cases hc : cnt J 4096
    · rfl
    · obtain ⟨i, _, hi⟩ := cnt_pos (J := J) 4096 (by omega); rw [hn i] at hi; cases hi
  cases d
  · rfl
  · unfold nTake; rw [if_pos hw]
