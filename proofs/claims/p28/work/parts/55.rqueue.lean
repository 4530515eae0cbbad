theorem oi_div {a b : Nat} (ha : a < 2 ^ 31) (hb : b < 2 ^ 31) : Int32.ofNat a / Int32.ofNat b = Int32.ofNat (a / b) := by
  apply Int32.toInt_inj.1
  have : a / b ≤ a := Nat.div_le_self a b
  rw [Int32.toInt_div, oi_int ha, oi_int hb, oi_int (by omega)]
  rw [Int.tdiv_eq_ediv_of_nonneg (by omega)]
  rw [bmod_small] <;> simp [← Int.natCast_ediv] <;> omega
theorem oi_rem {a b : Nat} (ha : a < 2 ^ 31) (hb : b < 2 ^ 31) : Int32.ofNat a - Int32.ofNat a / Int32.ofNat b * Int32.ofNat b = Int32.ofNat (a % b) := by
  rw [oi_div ha hb, ← Int32.ofNat_mul, oi_sub (Nat.div_mul_le_self a b)]
  congr 1
  have := Nat.div_add_mod a b
  rw [Nat.mul_comm] at this
  omega
/-- the reference's queue: rows 0 costs, 1 the round row, 2 whether a state waits; 3 where the row begins, how many wait -/
def rLower (M : Nat → Nat → Nat) (s c : Nat) : Nat → Nat → Nat :=
  if c < M 0 s then (if M 2 s = 0 then nu (nu (nu (nu M 0 s c) 2 s 1) 1 ((M 3 0 + M 3 1) % 4096) s) 3 1 (M 3 1 + 1) else nu M 0 s c) else M
def rPop (M : Nat → Nat → Nat) : Nat → Nat → Nat := nu (nu (nu M 3 0 ((M 3 0 + 1) % 4096)) 3 1 (M 3 1 - 1)) 2 (M 1 (M 3 0)) 0
def rFlag (M : Nat → Nat → Nat) (s : Nat) : Bool := decide (M 2 s = 1)
def RI (M : Nat → Nat → Nat) : Prop :=
  (∀ i, i < M 3 1 → M 1 ((M 3 0 + i) % 4096) < 4096 ∧ M 2 (M 1 ((M 3 0 + i) % 4096)) = 1) ∧
  (∀ i j, i < j → j < M 3 1 → M 1 ((M 3 0 + i) % 4096) ≠ M 1 ((M 3 0 + j) % 4096)) ∧
  M 3 1 = cnt (rFlag M) 4096 ∧ M 3 0 < 4096 ∧ (∀ s, s < 4096 → M 2 s = 0 ∨ M 2 s = 1) ∧ (∀ s, s < 4096 → M 0 s ≤ 1000000)
theorem ri_wait {M : Nat → Nat → Nat} (R : RI M) : M 3 1 ≤ 4096 := by rw [R.2.2.1]; exact cnt_le 4096
theorem ri_lower {M : Nat → Nat → Nat} {s c : Nat} (R : RI M) (hs : s < 4096) :
    RI (rLower M s c) ∧ (∀ t, rLower M s c 0 t = if t = s ∧ c < M 0 s then c else M 0 t) ∧ (∀ t, rLower M s c 2 t = if t = s ∧ c < M 0 s then 1 else M 2 t) ∧ (c < M 0 s → rLower M s c 3 1 ≤ M 3 1 + 1) := by
  obtain ⟨r1, r2, r3, r4, r5, r6⟩ := id R
  unfold rLower
  by_cases e : c < M 0 s
  · rw [if_pos e]
    have h6 := r6 s hs
    by_cases f : M 2 s = 0
    · rw [if_pos f]
      have hw : M 3 1 < 4096 := by
        rw [r3]; exact cnt_lt (s := s) (by unfold rFlag; rw [f]; rfl) hs
      have F0 : ∀ t, nu (nu (nu (nu M 0 s c) 2 s 1) 1 ((M 3 0 + M 3 1) % 4096) s) 3 1 (M 3 1 + 1) 0 t = if t = s ∧ c < M 0 s then c else M 0 t := by
        intro t; rw [nu_row (by decide), nu_row (by decide), nu_row (by decide)]
        unfold nu; by_cases q : t = s <;> simp [q, e]
      have F2 : ∀ t, nu (nu (nu (nu M 0 s c) 2 s 1) 1 ((M 3 0 + M 3 1) % 4096) s) 3 1 (M 3 1 + 1) 2 t = if t = s ∧ c < M 0 s then 1 else M 2 t := by
        intro t; rw [nu_row (by decide), nu_row (by decide)]
        unfold nu; by_cases q : t = s <;> simp [q, e]
      have F1 : ∀ t, nu (nu (nu (nu M 0 s c) 2 s 1) 1 ((M 3 0 + M 3 1) % 4096) s) 3 1 (M 3 1 + 1) 1 t = if t = (M 3 0 + M 3 1) % 4096 then s else M 1 t := by
        intro t; rw [nu_row (by decide)]
        unfold nu; by_cases q : t = (M 3 0 + M 3 1) % 4096 <;> simp [q]
      have F30 : nu (nu (nu (nu M 0 s c) 2 s 1) 1 ((M 3 0 + M 3 1) % 4096) s) 3 1 (M 3 1 + 1) 3 0 = M 3 0 := by
        rw [nu_ne (by decide), nu_row (by decide), nu_row (by decide), nu_row (by decide)]
      have F31 : nu (nu (nu (nu M 0 s c) 2 s 1) 1 ((M 3 0 + M 3 1) % 4096) s) 3 1 (M 3 1 + 1) 3 1 = M 3 1 + 1 := nu_eq
      generalize nu (nu (nu (nu M 0 s c) 2 s 1) 1 ((M 3 0 + M 3 1) % 4096) s) 3 1 (M 3 1 + 1) = M' at F0 F1 F2 F30 F31 ⊢
      have V : ∀ i, i < M 3 1 → M' 1 ((M 3 0 + i) % 4096) = M 1 ((M 3 0 + i) % 4096) := by
        intro i hi; rw [F1, if_neg (by omega)]
      have Vw : M' 1 ((M 3 0 + M 3 1) % 4096) = s := by rw [F1, if_pos rfl]
      have ns : ∀ i, i < M 3 1 → M 1 ((M 3 0 + i) % 4096) ≠ s := by
        intro i hi z; have := (r1 i hi).2; rw [z] at this; omega
      refine ⟨⟨?_, ?_, ?_, ?_, ?_, ?_⟩, F0, F2, fun _ => by rw [F31]; omega⟩
      · intro i hi
        rw [F31] at hi; rw [F30]
        by_cases q : i = M 3 1
        · rw [q, Vw, F2, if_pos ⟨rfl, e⟩]; exact ⟨hs, rfl⟩
        · rw [V i (by omega), F2]
          have := r1 i (by omega)
          refine ⟨this.1, ?_⟩
          split
          · rfl
          · exact this.2
      · intro i j hij hj
        rw [F31] at hj; rw [F30, V i (by omega)]
        by_cases q : j = M 3 1
        · rw [q, Vw]; exact ns i (by omega)
        · rw [V j (by omega)]; exact r2 i j hij (by omega)
      · rw [F31, r3, ← cnt_on (J := rFlag M) (s := s) (by unfold rFlag; rw [f]; rfl) 4096 hs]
        apply cnt_congr
        intro t ht
        unfold rFlag updN
        rw [F2]
        by_cases q : t = s
        · rw [if_pos q, if_pos ⟨q, e⟩]; rfl
        · rw [if_neg q, if_neg (fun z => q z.1)]
      · rw [F30]; exact r4
      · intro t ht; rw [F2]; split
        · exact Or.inr rfl
        · exact r5 t ht
      · intro t ht; rw [F0]; split
        · omega
        · exact r6 t ht
    · rw [if_neg f]
      have f1 : M 2 s = 1 := by have := r5 s hs; omega
      have F0 : ∀ t, nu M 0 s c 0 t = if t = s ∧ c < M 0 s then c else M 0 t := by
        intro t; unfold nu; by_cases q : t = s <;> simp [q, e]
      have F2 : ∀ t, nu M 0 s c 2 t = if t = s ∧ c < M 0 s then 1 else M 2 t := by
        intro t; rw [nu_row (by decide)]; by_cases q : t = s
        · rw [if_pos ⟨q, e⟩, q, f1]
        · rw [if_neg (fun z => q z.1)]
      have G : ∀ r j, r ≠ 0 → nu M 0 s c r j = M r j := fun r j hr => nu_row hr
      refine ⟨⟨?_, ?_, ?_, ?_, ?_, ?_⟩, F0, F2, fun _ => by rw [G 3 1 (by decide)]; omega⟩
      · intro i hi; simp only [G 1 _ (by decide), G 2 _ (by decide), G 3 _ (by decide)] at hi ⊢; exact r1 i hi
      · intro i j hij hj; simp only [G 1 _ (by decide), G 3 _ (by decide)] at hj ⊢; exact r2 i j hij hj
      · rw [G 3 _ (by decide), r3]; apply cnt_congr; intro t ht; unfold rFlag; rw [G 2 _ (by decide)]
      · rw [G 3 _ (by decide)]; exact r4
      · intro t ht; rw [G 2 _ (by decide)]; exact r5 t ht
      · intro t ht; rw [F0]; split
        · omega
        · exact r6 t ht
  · rw [if_neg e]
    exact ⟨R, fun t => by rw [if_neg (fun z => e z.2)], fun t => by rw [if_neg (fun z => e z.2)], fun z => absurd z e⟩
theorem ri_pop {M : Nat → Nat → Nat} (R : RI M) (hw : 0 < M 3 1) :
    RI (rPop M) ∧ M 1 (M 3 0) < 4096 ∧ M 2 (M 1 (M 3 0)) = 1 ∧ (∀ t, rPop M 0 t = M 0 t) ∧ (∀ t, rPop M 2 t = if t = M 1 (M 3 0) then 0 else M 2 t) ∧ rPop M 3 1 + 1 = M 3 1 := by
  obtain ⟨r1, r2, r3, r4, r5, r6⟩ := id R
  have z0 : (M 3 0 + 0) % 4096 = M 3 0 := by omega
  have a := r1 0 hw
  rw [z0] at a
  have F0 : ∀ t, rPop M 0 t = M 0 t := fun t => by unfold rPop; rw [nu_row (by decide), nu_row (by decide), nu_row (by decide)]
  have F1 : ∀ t, rPop M 1 t = M 1 t := fun t => by unfold rPop; rw [nu_row (by decide), nu_row (by decide), nu_row (by decide)]
  have F2 : ∀ t, rPop M 2 t = if t = M 1 (M 3 0) then 0 else M 2 t := fun t => by unfold rPop nu; by_cases q : t = M 1 (M 3 0) <;> simp [q]
  have F30 : rPop M 3 0 = (M 3 0 + 1) % 4096 := by unfold rPop; rw [nu_row (by decide), nu_ne (by decide)]; exact nu_eq
  have F31 : rPop M 3 1 = M 3 1 - 1 := by unfold rPop; rw [nu_row (by decide)]; exact nu_eq
  have V : ∀ i, (rPop M 3 0 + i) % 4096 = (M 3 0 + (i + 1)) % 4096 := fun i => by rw [F30]; omega
  refine ⟨⟨?_, ?_, ?_, ?_, ?_, ?_⟩, a.1, a.2, F0, F2, by rw [F31]; omega⟩
  · intro i hi
    rw [F31] at hi
    rw [V, F1, F2]
    have b := r1 (i + 1) (by omega)
    have c := r2 0 (i + 1) (by omega) (by omega)
    rw [z0] at c
    rw [if_neg (Ne.symm c)]; exact b
  · intro i j hij hj
    rw [F31] at hj
    rw [V, V, F1, F1]
    exact r2 (i + 1) (j + 1) (by omega) (by omega)
  · have hf : rFlag M (M 1 (M 3 0)) = true := by unfold rFlag; rw [a.2]; rfl
    have := cnt_off hf 4096 a.1
    rw [F31, r3, ← this, Nat.add_sub_cancel]
    apply cnt_congr
    intro t ht
    unfold rFlag updN
    rw [F2]
    by_cases q : t = M 1 (M 3 0)
    · rw [if_pos q, if_pos q]; rfl
    · rw [if_neg q, if_neg q]
  · rw [F30]; omega
  · intro t ht; rw [F2]; split
    · exact Or.inl rfl
    · exact r5 t ht
  · intro t ht; rw [F0]; exact r6 t ht
