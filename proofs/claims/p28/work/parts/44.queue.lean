def updN {α : Type} (f : Nat → α) (j : Nat) (v : α) : Nat → α := fun i => if i = j then v else f i
/-- a queue's numbers: rows 0 costs, 1 after, 2 ahead, 3 firsts (a state by its number and 1, none by 0), 4 waiting and level -/
def nu (N : Nat → Nat → Nat) (r j v : Nat) : Nat → Nat → Nat := fun r' j' => if r' = r ∧ j' = j then v else N r' j'
theorem nu_eq {N : Nat → Nat → Nat} {r j v : Nat} : nu N r j v r j = v := by simp [nu]
theorem nu_row {N : Nat → Nat → Nat} {r j v r' j' : Nat} (hr : r' ≠ r) : nu N r j v r' j' = N r' j' := by simp [nu, hr]
theorem nu_ne {N : Nat → Nat → Nat} {r j v r' j' : Nat} (hj : j' ≠ j) : nu N r j v r' j' = N r' j' := by simp [nu, hj]
def nUn1 (N : Nat → Nat → Nat) (s : Nat) : Nat → Nat → Nat := if 0 < N 1 s then nu N 2 (N 1 s - 1) (N 2 s) else N
def nUn2 (N : Nat → Nat → Nat) (s : Nat) : Nat → Nat → Nat := if 0 < N 2 s then nu (nUn1 N s) 1 (N 2 s - 1) (N 1 s) else nu (nUn1 N s) 3 (N 0 s % 256) (N 1 s)
def nUnlink (N : Nat → Nat → Nat) (s : Nat) : Nat → Nat → Nat := nu (nUn2 N s) 4 0 (N 4 0 - 1)
def nLn1 (N : Nat → Nat → Nat) (s : Nat) : Nat → Nat → Nat := if 0 < N 3 (N 0 s % 256) then nu N 2 (N 3 (N 0 s % 256) - 1) (s + 1) else N
def nLink (N : Nat → Nat → Nat) (s : Nat) : Nat → Nat → Nat := nu (nu (nu (nu (nLn1 N s) 1 s (N 3 (N 0 s % 256))) 2 s 0) 3 (N 0 s % 256) (s + 1)) 4 0 (N 4 0 + 1)
def nLower (N : Nat → Nat → Nat) (s c : Nat) : Nat → Nat → Nat := if N 0 s ≤ c then N else nLink (nu (if N 0 s < 536870912 then nUnlink N s else N) 0 s c) s
def nTake : Nat → (Nat → Nat → Nat) → Nat × (Nat → Nat → Nat)
  | 0, N => (0, N)
  | d + 1, N => if N 4 0 = 0 then (0, N) else if 0 < N 3 (N 4 1 % 256) then (N 3 (N 4 1 % 256), nUnlink N (N 3 (N 4 1 % 256) - 1)) else nTake d (nu N 4 1 (N 4 1 + 1))
def cnt (J : Nat → Bool) : Nat → Nat
  | 0 => 0
  | n + 1 => cnt J n + if J n then 1 else 0
theorem cnt_congr {J K : Nat → Bool} : ∀ n, (∀ i, i < n → J i = K i) → cnt J n = cnt K n
  | 0, _ => rfl
  | n + 1, h => by rw [cnt, cnt, cnt_congr n (fun i hi => h i (by omega)), h n (by omega)]
theorem cnt_upd_ge {J : Nat → Bool} {s : Nat} {b : Bool} : ∀ n, n ≤ s → cnt (updN J s b) n = cnt J n := fun n hn =>
  cnt_congr n (fun i hi => by unfold updN; rw [if_neg (by omega)])
theorem cnt_off {J : Nat → Bool} {s : Nat} (hs : J s = true) : ∀ n, s < n → cnt (updN J s false) n + 1 = cnt J n
  | 0, h => absurd h (by omega)
  | n + 1, h => by
    by_cases e : s = n
    · subst e; rw [cnt, cnt, cnt_upd_ge _ (Nat.le_refl _), hs]; simp [updN]
    · have := cnt_off hs n (by omega)
      rw [cnt, cnt, show updN J s false n = J n by simp [updN]; omega]; omega
theorem cnt_on {J : Nat → Bool} {s : Nat} (hs : J s = false) : ∀ n, s < n → cnt (updN J s true) n = cnt J n + 1
  | 0, h => absurd h (by omega)
  | n + 1, h => by
    by_cases e : s = n
    · subst e; rw [cnt, cnt, cnt_upd_ge _ (Nat.le_refl _), hs]; simp [updN]
    · have := cnt_on hs n (by omega)
      rw [cnt, cnt, show updN J s true n = J n by simp [updN]; omega]; omega
theorem cnt_zero {J : Nat → Bool} : ∀ n, cnt J n = 0 → ∀ i, i < n → J i = false
  | 0, _, i, hi => absurd hi (by omega)
  | n + 1, h, i, hi => by
    rw [cnt] at h
    by_cases e : i = n
    · subst e; cases hj : J i
      · rfl
      · rw [hj] at h; simp at h
    · exact cnt_zero n (by omega) i (by omega)
theorem cnt_pos {J : Nat → Bool} : ∀ n, 0 < cnt J n → ∃ i, i < n ∧ J i = true
  | 0, h => absurd h (by simp [cnt])
  | n + 1, h => by
    cases hj : J n
    · rw [cnt, hj] at h
      obtain ⟨i, hi, h'⟩ := cnt_pos n (by simpa using h)
      exact ⟨i, by omega, h'⟩
    · exact ⟨n, by omega, hj⟩
theorem cnt_le {J : Nat → Bool} : ∀ n, cnt J n ≤ n
  | 0 => Nat.le_refl _
  | n + 1 => by rw [cnt]; have := cnt_le (J := J) n; split <;> omega
theorem cnt_lt {J : Nat → Bool} {s : Nat} (hs : J s = false) {n : Nat} (h : s < n) : cnt J n < n := by
  have := cnt_on hs n h; have := cnt_le (J := updN J s true) n; omega
def QI (N : Nat → Nat → Nat) (J : Nat → Bool) (rk : Nat → Nat) (cl : Nat) : Prop :=
  (∀ s, J s = true → s < 4096 ∧ N 4 1 ≤ N 0 s ∧ N 0 s < N 4 1 + 256 ∧ rk s < cl) ∧
  (∀ s, J s = true → N 1 s = 0 ∨ (0 < N 1 s ∧ J (N 1 s - 1) = true ∧ N 2 (N 1 s - 1) = s + 1 ∧ N 0 (N 1 s - 1) % 256 = N 0 s % 256 ∧ rk (N 1 s - 1) < rk s)) ∧
  (∀ s, J s = true → (N 2 s = 0 ∧ N 3 (N 0 s % 256) = s + 1) ∨ (0 < N 2 s ∧ J (N 2 s - 1) = true ∧ N 1 (N 2 s - 1) = s + 1 ∧ N 0 (N 2 s - 1) % 256 = N 0 s % 256 ∧ rk s < rk (N 2 s - 1))) ∧
  (∀ r, r < 256 → N 3 r = 0 ∨ (0 < N 3 r ∧ J (N 3 r - 1) = true ∧ N 0 (N 3 r - 1) % 256 = r ∧ N 2 (N 3 r - 1) = 0)) ∧
  N 4 0 = cnt J 4096
theorem un_0 {N : Nat → Nat → Nat} {s j : Nat} : nUnlink N s 0 j = N 0 j := by
  unfold nUnlink nUn2 nUn1; repeat' split
  all_goals simp [nu]
theorem un_41 {N : Nat → Nat → Nat} {s : Nat} : nUnlink N s 4 1 = N 4 1 := by
  unfold nUnlink nUn2 nUn1; repeat' split
  all_goals simp [nu]
theorem un_40 {N : Nat → Nat → Nat} {s : Nat} : nUnlink N s 4 0 = N 4 0 - 1 := nu_eq
theorem un_1 {N : Nat → Nat → Nat} {s j : Nat} : nUnlink N s 1 j = if 0 < N 2 s ∧ j = N 2 s - 1 then N 1 s else N 1 j := by
  unfold nUnlink nUn2 nUn1; repeat' split
  all_goals simp_all [nu]
theorem un_2 {N : Nat → Nat → Nat} {s j : Nat} : nUnlink N s 2 j = if 0 < N 1 s ∧ j = N 1 s - 1 then N 2 s else N 2 j := by
  unfold nUnlink nUn2 nUn1; repeat' split
  all_goals simp_all [nu]
theorem un_3 {N : Nat → Nat → Nat} {s j : Nat} : nUnlink N s 3 j = if N 2 s = 0 ∧ j = N 0 s % 256 then N 1 s else N 3 j := by
  unfold nUnlink nUn2 nUn1; repeat' split
  all_goals simp_all [nu]
theorem QI_un {N : Nat → Nat → Nat} {J : Nat → Bool} {rk : Nat → Nat} {cl s : Nat} (h : QI N J rk cl) (hs : J s = true) : QI (nUnlink N s) (updN J s false) rk cl := by
  obtain ⟨h1, h2, h3, h4, h5⟩ := h
  have U : ∀ t, updN J s false t = true → J t = true ∧ t ≠ s := by
    intro t ht; unfold updN at ht; split at ht
    · cases ht
    · exact ⟨ht, by assumption⟩
  have V : ∀ t, J t = true → t ≠ s → updN J s false t = true := by
    intro t ht hn; unfold updN; rw [if_neg hn]; exact ht
  refine ⟨?_, ?_, ?_, ?_, ?_⟩
  · intro t ht; rw [un_0, un_41]; exact h1 t (U t ht).1
  · intro t ht
    obtain ⟨jt, nt⟩ := U t ht
    simp only [un_0, un_1, un_2]
    have a2 := h2 s hs
    have a3 := h3 s hs
    have b2 := h2 t jt
    have b3 := h3 t jt
    by_cases c : 0 < N 2 s ∧ t = N 2 s - 1
    · rw [if_pos c]
      rcases a2 with a | ⟨a, b, c', d, e⟩
      · exact Or.inl a
      · refine Or.inr ⟨a, V _ b ?_, ?_, ?_, ?_⟩
        · intro z; rw [z] at e; omega
        · rw [if_pos ⟨a, rfl⟩]; omega
        · rcases a3 with a3 | a3
          · omega
          · rw [c.2, d, a3.2.2.2.1]
        · rcases a3 with a3 | a3
          · omega
          · rw [c.2]; omega
    · rw [if_neg c]
      rcases b2 with a | ⟨a, b, c', d, e⟩
      · exact Or.inl a
      · have q : N 1 t - 1 ≠ s := fun z => by
          rcases a3 with a3 | a3
          · rw [z] at c'; omega
          · rw [z] at c'; apply c; omega
        refine Or.inr ⟨a, V _ b q, ?_, d, e⟩
        rw [if_neg]; · exact c'
        rintro ⟨z1, z2⟩
        rw [z2] at c'
        rcases a2 with a2 | ⟨_, _, a2, _⟩ <;> omega
  · intro t ht
    obtain ⟨jt, nt⟩ := U t ht
    simp only [un_0, un_1, un_2, un_3]
    have a2 := h2 s hs
    have a3 := h3 s hs
    have b2 := h2 t jt
    have b3 := h3 t jt
    by_cases c : 0 < N 1 s ∧ t = N 1 s - 1
    · rw [if_pos c]
      rcases a2 with a2 | ⟨a, b, c', d, e⟩
      · omega
      rcases a3 with ⟨p, q⟩ | ⟨p, q, r, u, v⟩
      · refine Or.inl ⟨p, ?_⟩
        rw [if_pos ⟨p, by rw [c.2]; exact d⟩]; omega
      · refine Or.inr ⟨p, V _ q ?_, ?_, ?_, ?_⟩
        · intro z; rw [z] at v; omega
        · rw [if_pos ⟨p, rfl⟩]; omega
        · rw [u, c.2, d]
        · rw [c.2]; omega
    · rw [if_neg c]
      rcases b3 with ⟨p, q⟩ | ⟨p, q, r, u, v⟩
      · refine Or.inl ⟨p, ?_⟩
        rw [if_neg]; · exact q
        rintro ⟨z1, z2⟩
        rcases a3 with a3 | a3
        · rw [← z2, q] at a3; omega
        · omega
      · have qq : N 2 t - 1 ≠ s := fun z => by
          rw [z] at r; apply c; omega
        refine Or.inr ⟨p, V _ q qq, ?_, u, v⟩
        rw [if_neg]; · exact r
        rintro ⟨z1, z2⟩
        rw [z2] at r
        rcases a3 with a3 | ⟨_, _, a3, _⟩ <;> omega
  · intro r hr
    simp only [un_0, un_2, un_3]
    have a2 := h2 s hs
    have a3 := h3 s hs
    by_cases c : N 2 s = 0 ∧ r = N 0 s % 256
    · rw [if_pos c]
      rcases a2 with a2 | ⟨a, b, c', d, e⟩
      · exact Or.inl a2
      · refine Or.inr ⟨a, V _ b ?_, ?_, ?_⟩
        · intro z; rw [z] at e; omega
        · rw [d, c.2]
        · rw [if_pos ⟨a, rfl⟩]; exact c.1
    · rw [if_neg c]
      rcases h4 r hr with a | ⟨a, b, d, e⟩
      · exact Or.inl a
      · refine Or.inr ⟨a, V _ b ?_, d, ?_⟩
        · intro z; rw [z] at e d; exact c ⟨e, d.symm⟩
        · rw [if_neg]; · exact e
          rintro ⟨z1, z2⟩
          rw [z2] at e
          rcases a2 with a2 | ⟨_, _, a2, _⟩ <;> omega
  · rw [un_40, h5, ← cnt_off hs 4096 (h1 s hs).1]; omega
