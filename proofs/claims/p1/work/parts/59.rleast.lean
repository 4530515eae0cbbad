section
variable {L : Nat} {xs : Nat → Int32} {k : Nat} {ad : Nat → Nat} {fs0 : List Value} {M : Nat → Nat → Nat} {h : List mCel} {ca cl cu : Nat} {fcan fc : Nat → Int32} {mg : Int32}
def gear (m : Nat) : Nat := if m < 3 then 0 else 1
def byN (en : Nat → Nat → Nat) (wt : Nat → Nat → Nat → Nat) (cu : Nat) (M : Nat → Nat → Nat) (p dr m : Nat) : Nat :=
  wt p m (en p m - 1) + (if dr = 2 ∨ dr = gear m then 0 else cu) + M 0 (2048 * gear m + (en p m - 1))
theorem d_by {en can : Nat → Nat → Nat} {wt : Nat → Nat → Nat → Nat} {p m dr : Nat} (HN : geoN en) (HV : geoV fc mg en wt) (hcu : cu ≤ 100) (hp : p < 2048) (hm : m < 6) (hd : dr < 3) (he : 0 < en p m) (h0 : ∀ s, s < 4096 → M 0 s ≤ 1000000) (Q : rH ad fs0 M h) (V : vH ad fs0 ca cl cu mg fcan fc h) :
    mW (mRo L xs) mTab 75 0 [some (.ref (ad 3)), some (.int (Int32.ofNat p)), some (.int (Int32.ofNat m)), some (.int (Int32.ofNat dr)), none, none] [] h k = some (.inl (some (.int (Int32.ofNat (byN en wt cu M p dr m)))), h, k) := by
  obtain ⟨⟨v1, v2, v3, v4⟩, v5, v6, v7, v8⟩ := id V
  obtain ⟨N1, N2⟩ := HN p m hp hm
  obtain ⟨W1, W2⟩ := HV p m hp hm he
  have D := d_costOf (L := L) (xs := xs) (k := k) Q V (p := Int32.ofNat p) (m := Int32.ofNat m) N2 N1 he
  rw [W1] at D
  have hg : gear m < 2 := by unfold gear; split <;> omega
  have G : mW (mRo L xs) mTab 75 0 [some (.ref (ad 3)), some (.int (Int32.ofNat p)), some (.int (Int32.ofNat m)), some (.int (Int32.ofNat dr)), none, none] [] h k = mW (mRo L xs) mTab 75 14 [some (.ref (ad 3)), some (.int (Int32.ofNat p)), some (.int (Int32.ofNat m)), some (.int (Int32.ofNat dr)), some (.int (Int32.ofNat (gear m))), none] [] h k := by
    rw [e75_0, e75_1 (by simp), d_isReverse]
    simp only [mAft, Option.toList_some, List.cons_append, List.nil_append]
    rw [e75_4]
    have : (2 < Int32.ofNat m) = (2 < m) := oi_lt (by decide) (by omega)
    unfold gear
    by_cases y : m < 3
    · rw [pB_neg (by rw [this]; omega), if_pos rfl, if_pos y, e75_11, e75_12]; rfl
    · rw [pB_pos (by rw [this]; omega), if_neg (by decide), if_neg y, e75_7, e75_8, e75_12]; rfl
  have C : mW (mRo L xs) mTab 75 14 [some (.ref (ad 3)), some (.int (Int32.ofNat p)), some (.int (Int32.ofNat m)), some (.int (Int32.ofNat dr)), some (.int (Int32.ofNat (gear m))), none] [] h k = mW (mRo L xs) mTab 75 35 [some (.ref (ad 3)), some (.int (Int32.ofNat p)), some (.int (Int32.ofNat m)), some (.int (Int32.ofNat dr)), some (.int (Int32.ofNat (gear m))), some (.int (Int32.ofNat (if dr = 2 ∨ dr = gear m then 0 else cu)))] [] h k := by
    have q2 : (Int32.ofNat dr = 2) = (dr = 2) := by
      obtain rfl | rfl | rfl : dr = 0 ∨ dr = 1 ∨ dr = 2 := by omega
      all_goals simp
    have qg : (Int32.ofNat dr = Int32.ofNat (gear m)) = (dr = gear m) := by
      obtain z | z : gear m = 0 ∨ gear m = 1 := by omega
      all_goals (rw [z]; obtain rfl | rfl | rfl : dr = 0 ∨ dr = 1 ∨ dr = 2 := by omega)
      all_goals simp
    rw [e75_14, e75_15, e75_16]
    simp only [q2]
    by_cases y : dr = 2
    · rw [if_pos y, if_pos (Or.inl y), e75_25, e75_26, e75_33]; rfl
    · rw [if_neg y, e75_19, e75_20, e75_22]
      simp only [qg]
      by_cases w : dr = gear m
      · rw [if_neg (not_not_intro w), if_pos (Or.inr w), e75_25, e75_26, e75_33]; rfl
      · rw [if_pos w, if_neg (fun z => z.elim y w), e75_29, e75_30, r_F Q (by decide) (by decide) v1, e75_33]
  have hs : 2048 * gear m + (en p m - 1) < 4096 := by omega
  have h00 := h0 _ hs
  rw [G, C, e75_35, e75_36, e75_37, e75_38 (r_R Q) (by simp), D]
  simp only [mAft, Option.toList_some, List.cons_append, List.nil_append]
  rw [e75_41, e75_43, e75_44, e75_45, r_F19 Q, e75_48, e75_51, e75_53, e75_54, e75_55, e75_56 (by simp [Value.category]), d_endOf, N1, dec_put he]
  simp only [mAft, Option.toList_some, List.cons_append, List.nil_append]
  rw [e75_59, show (2048 : Int32) * Int32.ofNat (gear m) + Int32.ofNat (en p m - 1) = Int32.ofNat (2048 * gear m + (en p m - 1)) by rw [oi_add, oi_mul]; rfl, e75_60, r_A Q (by decide) hs, e75_61, e75_62, ← oi_add, ← oi_add]
  rfl
/-- the least of the moves' costs -/
def lbN (can : Nat → Nat) (b : Nat → Nat) : Nat → Nat → Nat → Nat
  | 0, _, a => a
  | d + 1, i, a => lbN can b d (i + 1) (if can i = 0 then a else if b i < a then b i else a)
theorem lb_le {can b : Nat → Nat} : ∀ (d i a : Nat), lbN can b d i a ≤ a
  | 0, _, _ => Nat.le_refl _
  | d + 1, i, a => by
    refine Nat.le_trans (lb_le d (i + 1) _) ?_
    repeat' split
    all_goals omega
theorem lb_all {can b : Nat → Nat} : ∀ (d i a m : Nat), i ≤ m → m < i + d → can m ≠ 0 → lbN can b d i a ≤ b m
  | 0, i, a, m, h1, h2, _ => absurd h2 (by omega)
  | d + 1, i, a, m, h1, h2, h3 => by
    unfold lbN
    by_cases e : m = i
    · subst e
      refine Nat.le_trans (lb_le d (m + 1) _) ?_
      rw [if_neg h3]; split <;> omega
    · exact lb_all d (i + 1) _ m (by omega) (by omega) h3
theorem lb_get {can b : Nat → Nat} : ∀ (d i a : Nat), lbN can b d i a = a ∨ ∃ m, i ≤ m ∧ m < i + d ∧ can m ≠ 0 ∧ lbN can b d i a = b m
  | 0, _, _ => Or.inl rfl
  | d + 1, i, a => by
    unfold lbN
    rcases lb_get (can := can) (b := b) d (i + 1) (if can i = 0 then a else if b i < a then b i else a) with h | ⟨m, h1, h2, h3, h4⟩
    · rw [h]
      by_cases c : can i = 0
      · rw [if_pos c]; exact Or.inl rfl
      · rw [if_neg c]
        by_cases e : b i < a
        · rw [if_pos e]; exact Or.inr ⟨i, Nat.le_refl _, by omega, c, rfl⟩
        · rw [if_neg e]; exact Or.inl rfl
    · exact Or.inr ⟨m, by omega, by omega, h3, h4⟩
theorem least_loop {en can : Nat → Nat → Nat} {wt : Nat → Nat → Nat → Nat} {p dr kinds : Nat} (HN : geoN en) (HC : geoC fcan can) (HV : geoV fc mg en wt) (hcu : cu ≤ 100) (hcan : ∀ p m, p < 2048 → m < 6 → can p m ≠ 0 → 0 < en p m) (hp : p < 2048) (hd : dr < 3) (hk : kinds ≤ 6) (h0 : ∀ s, s < 4096 → M 0 s ≤ 1000000) (Q : rH ad fs0 M h) (V : vH ad fs0 ca cl cu mg fcan fc h) (d : Nat) :
    ∀ (i a : Nat) (l6 : Option Value), i + d = kinds → a ≤ 1000000 →
    mW (mRo L xs) mTab 113 7 [some (.ref (ad 3)), some (.int (Int32.ofNat p)), some (.int (Int32.ofNat dr)), some (.int (Int32.ofNat kinds)), some (.int (Int32.ofNat a)), some (.int (Int32.ofNat i)), l6] [] h k = some (.inl (some (.int (Int32.ofNat (lbN (can p) (byN en wt cu M p dr) d i a)))), h, k) := by
  obtain ⟨⟨v1, v2, v3, v4⟩, v5, v6, v7, v8⟩ := id V
  induction d with
  | zero =>
    intro i a l6 hi ha
    obtain rfl : i = kinds := by omega
    rw [e113_7, e113_9, e113_10, if_pos (Int32.le_refl _), e113_60, e113_62]
    rfl
  | succ d IH =>
    intro i a l6 hi ha
    have n1 : ¬ (Int32.ofNat kinds ≤ Int32.ofNat i) := by rw [oi_le (by omega) (by omega)]; omega
    obtain ⟨C1, C2⟩ := HC p i hp (by omega)
    have h6 : (6 : Int32) * Int32.ofNat p + Int32.ofNat i = Int32.ofNat (6 * p + i) := by rw [oi_add, oi_mul]; rfl
    have hin : 0 ≤ (Int32.ofNat (6 * p + i)).toInt ∧ (Int32.ofNat (6 * p + i)).toInt < (12288 : Nat) := by rw [oi_int (by omega)]; omega
    rw [e113_7, e113_9, e113_10, if_neg n1, e113_13, e113_14, r_F Q (by decide) (by decide) v4, e113_17, e113_19, e113_20, e113_21, e113_23, h6, e113_24, kBA_bool v5 hin, oi_nat (by omega), C1, e113_25]
    have hl : lbN (can p) (byN en wt cu M p dr) (d + 1) i a = lbN (can p) (byN en wt cu M p dr) d (i + 1) (if can p i = 0 then a else if byN en wt cu M p dr i < a then byN en wt cu M p dr i else a) := rfl
    rw [hl]
    by_cases c : can p i = 0
    · rw [c, if_pos (by decide), if_pos rfl, e113_54, e113_57, oi_succ]
      exact IH (i + 1) a l6 (by omega) ha
    · have c1 : can p i = 1 := by omega
      have he := hcan p i hp (by omega) c
      have hb : byN en wt cu M p dr i < 2 ^ 31 := by
        have W2 := (HV p i hp (by omega) he).2
        have N2 := (HN p i hp (by omega)).2
        have hg : gear i < 2 := by unfold gear; split <;> omega
        have := h0 (2048 * gear i + (en p i - 1)) (by omega)
        have b1 : (if dr = 2 ∨ dr = gear i then 0 else cu) ≤ cu := by
          by_cases y0 : dr = 2 ∨ dr = gear i
          · rw [if_pos y0]; omega
          · rw [if_neg y0]; omega
        unfold byN; omega
      rw [if_neg c, c1, if_neg (by decide), e113_28, e113_29, e113_30, e113_32, e113_33 (r_R Q) (by simp), d_by (can := can) HN HV hcu hp (by omega) hd he h0 Q V]
      simp only [mAft, Option.toList_some, List.cons_append, List.nil_append]
      rw [e113_36, e113_38, e113_40, e113_42]
      simp only [oi_le (show a < 2 ^ 31 by omega) hb]
      by_cases y : byN en wt cu M p dr i < a
      · rw [if_neg (by omega), if_pos y, e113_45, e113_47, e113_52, e113_54, e113_57, oi_succ]
        exact IH (i + 1) _ _ (by omega) (by omega)
      · rw [if_pos (by omega), if_neg y, e113_50, e113_52, e113_54, e113_57, oi_succ]
        exact IH (i + 1) _ _ (by omega) ha
theorem d_leastBy {en can : Nat → Nat → Nat} {wt : Nat → Nat → Nat → Nat} {p dr kinds : Nat} (HN : geoN en) (HC : geoC fcan can) (HV : geoV fc mg en wt) (hcu : cu ≤ 100) (hcan : ∀ p m, p < 2048 → m < 6 → can p m ≠ 0 → 0 < en p m) (hp : p < 2048) (hd : dr < 3) (hk : kinds ≤ 6) (h0 : ∀ s, s < 4096 → M 0 s ≤ 1000000) (Q : rH ad fs0 M h) (V : vH ad fs0 ca cl cu mg fcan fc h) :
    mW (mRo L xs) mTab 113 0 [some (.ref (ad 3)), some (.int (Int32.ofNat p)), some (.int (Int32.ofNat dr)), some (.int (Int32.ofNat kinds)), none, none, none] [] h k = some (.inl (some (.int (Int32.ofNat (lbN (can p) (byN en wt cu M p dr) kinds 0 1000000)))), h, k) := by
  rw [e113_0, e113_2, e113_4, e113_5]
  exact least_loop (L := L) (xs := xs) (k := k) HN HC HV hcu hcan hp hd hk h0 Q V kinds 0 1000000 none (by omega) (by omega)
end
