section
variable {e : Nat → Nat → Nat} {wt : Nat → Nat → Nat → Nat} {cu rv q m : Nat} {N : Nat → Nat → Nat}
theorem b_state (HL : geoL e) (HS : geoS e) (hrv : rv < 2) (hq : q < 2048) : ∀ (n t c : Nat), gW (adjS e wt cu rv 1) (seedS q rv) n t c → t < 4096 ∧ (rv = 0 → t < 2048)
  | 0, t, c, h => by
    rcases seed_iff.1 h.1 with z | ⟨z1, z2⟩
    · subst z; exact ⟨by omega, fun _ => hq⟩
    · exact ⟨by omega, fun z => absurd z z1⟩
  | n + 1, t, c, ⟨s, c', w, h1, h2, _⟩ => by
    obtain ⟨s1, s2⟩ := b_state HL HS hrv hq n s c' h1
    obtain ⟨p, g, m, k1, k2, k3, k4, k5, k6, _⟩ := (mem_bAdj HL HS s1 hrv).1 h2
    have := gear_lt m
    refine ⟨by rcases k5 with z | ⟨_, z⟩ <;> omega, fun z => ?_⟩
    have := s2 z
    rcases k5 with y | ⟨y, _⟩
    · omega
    · exact absurd z y
theorem tc_gear {a b : Nat} : tcN cu (some a) (some b) = if gear a = gear b then 0 else cu := by
  unfold tcN gear
  by_cases h1 : a < 3 <;> by_cases h2 : b < 3 <;> simp [h1, h2]
/-- the states that a pose with the move that led to it can stand in -/
def stO (l : Option Nat) (p t : Nat) : Prop := match l with
  | some m => t = p + 2048 * gear m
  | none => t < 4096 ∧ t % 2048 = p
/-- what is left is the least cost of a walk -/
def Gd (e : Nat → Nat → Nat) (wt : Nat → Nat → Nat → Nat) (cu rv q m : Nat) (l : Option Nat) (p c : Nat) : Prop :=
  p < 2048 ∧ c ≤ m ∧ (∀ a, l = some a → a < 3 + 3 * rv) ∧ (∃ t n, stO l p t ∧ gW (adjS e wt cu rv 1) (seedS q rv) n t c) ∧ ∀ t n c', stO l p t → gW (adjS e wt cu rv 1) (seedS q rv) n t c' → c ≤ c'
theorem gear_rv {a : Nat} (hrv : rv < 2) (ha : a < 3 + 3 * rv) : rv = 0 → gear a = 0 := fun z => by unfold gear; rw [if_pos (by omega)]
theorem gear_2 (a b : Nat) : gear a = gear b ∨ gear a = 1 - gear b := by have := gear_lt a; have := gear_lt b; omega
/-- a walk on by one move -/
theorem gd_edge (HL : geoL e) (HS : geoS e) (hrv : rv < 2) {l : Option Nat} {p v x n c' : Nat} (hp : p < 2048) (hl : ∀ a, l = some a → a < 3 + 3 * rv) (hv : v < 3 + 3 * rv) (he : e p v = x + 1) (hx : x < 2048) (hw : gW (adjS e wt cu rv 1) (seedS q rv) n (x + 2048 * gear v) c') :
    ∃ t, stO l p t ∧ gW (adjS e wt cu rv 1) (seedS q rv) (n + 1) t (c' + (wt p v x + tcN cu l (some v))) := by
  have gv := gear_lt v
  have s8 : x + 2048 * gear v < 4096 := by omega
  cases l with
  | none =>
    refine ⟨p + 2048 * gear v, ⟨by omega, by omega⟩, x + 2048 * gear v, c', wt p v x, hw, (mem_bAdj HL HS s8 hrv).2 ⟨p, gear v, v, hp, by omega, by omega, by omega, Or.inl rfl, rfl, by rw [if_pos rfl, he, Nat.add_sub_cancel]; rfl⟩, rfl⟩
  | some a =>
    refine ⟨p + 2048 * gear a, rfl, x + 2048 * gear v, c', wt p v x + tcN cu (some a) (some v), hw, (mem_bAdj HL HS s8 hrv).2 ⟨p, gear a, v, hp, by omega, by omega, by omega, ?_, rfl, by rw [tc_gear, he, Nat.add_sub_cancel]⟩, rfl⟩
    by_cases z : rv = 0
    · left; rw [gear_rv hrv (hl a rfl) z, gear_rv hrv hv z]
    · exact (gear_2 a v).imp id (fun y => ⟨z, y⟩)
theorem gd_step (HL : geoL e) (HS : geoS e) (hrv : rv < 2) (hq : q < 2048) (hm : m < 536870912) (h10 : ∀ p a x, 10 ≤ wt p a x) (LB : gLab (adjS e wt cu rv 1) (seedS q rv) N m) {l : Option Nat} {p c : Nat} (G : Gd e wt cu rv q m l p c) (hpq : p ≠ q) :
    ∃ v x, v < 3 + 3 * rv ∧ e p v = x + 1 ∧ x < 2048 ∧ wt p v x + tcN cu l (some v) + N 0 (x + 2048 * gear v) = c := by
  obtain ⟨hp, hcm, hl, ⟨t, n, ht, hw⟩, least⟩ := G
  have tm : t < 4096 ∧ t % 2048 = p := by
    cases l with
    | none => exact ht
    | some a =>
      have g := gear_lt a
      have ht' : t = p + 2048 * gear a := ht
      constructor <;> omega
  cases n with
  | zero =>
    exfalso
    rcases seed_iff.1 hw.1 with z | ⟨_, z⟩ <;> omega
  | succ n =>
    obtain ⟨s, c', w, h1, h2, h3⟩ := hw
    obtain ⟨s1, s2⟩ := b_state HL HS hrv hq n s c' h1
    obtain ⟨p', g, v, k1, k2, k3, k4, k5, k6, k7⟩ := (mem_bAdj HL HS s1 hrv).1 h2
    have gv := gear_lt v
    have hg : g < 2 := by rcases k5 with z | ⟨_, z⟩ <;> omega
    obtain rfl : p' = p := by omega
    have L := HL p' v k1 k2
    have hv : v < 3 + 3 * rv := by
      by_cases z : rv = 0
      · have := s2 z
        have : gear v = 0 := by omega
        unfold gear at this
        split at this <;> omega
      · omega
    have w10 := h10 p' v (e p' v - 1)
    have ns : N 0 s ≤ c' := (LB.2 n s c' h1).resolve_right (by omega)
    obtain ⟨n', hA⟩ := LB.1 s s1 (by omega)
    rw [k4] at hA
    obtain ⟨t', e1, e2⟩ := gd_edge (cu := cu) HL HS hrv (l := l) k1 hl hv (show e p' v = (e p' v - 1) + 1 by omega) (by omega) hA
    have ls := least _ _ _ e1 e2
    rw [← k4] at ls
    refine ⟨v, e p' v - 1, hv, by omega, by omega, ?_⟩
    rw [← k4]
    have tl : tcN cu l (some v) ≤ (if g = gear v then 0 else cu) := by
      cases l with
      | none => exact Nat.zero_le _
      | some a =>
        have ht' : t = p' + 2048 * gear a := ht
        have ga := gear_lt a
        have : g = gear a := by omega
        rw [tc_gear, this]
        exact Nat.le_refl _
    omega
theorem gd_next (HL : geoL e) (HS : geoS e) (hrv : rv < 2) (hm : m < 536870912) (h10 : ∀ p a x, 10 ≤ wt p a x) (LB : gLab (adjS e wt cu rv 1) (seedS q rv) N m) {l : Option Nat} {p c v x : Nat} (G : Gd e wt cu rv q m l p c) (hv : v < 3 + 3 * rv) (he : e p v = x + 1) (hx : x < 2048)
    (hc : wt p v x + tcN cu l (some v) + N 0 (x + 2048 * gear v) = c) : Gd e wt cu rv q m (some v) x (N 0 (x + 2048 * gear v)) ∧ N 0 (x + 2048 * gear v) + 10 ≤ c := by
  obtain ⟨hp, hcm, hl, ⟨t, n, ht, hw⟩, least⟩ := G
  have w10 := h10 p v x
  have gv := gear_lt v
  obtain ⟨n', hA⟩ := LB.1 (x + 2048 * gear v) (by omega) (by omega)
  refine ⟨⟨hx, by omega, fun a ha => by cases ha; exact hv, ⟨_, n', rfl, hA⟩, fun t' n'' c'' ht' hw' => ?_⟩, by omega⟩
  have ht2 : t' = x + 2048 * gear v := ht'
  subst ht2
  obtain ⟨t0, e1, e2⟩ := gd_edge (cu := cu) HL HS hrv (l := l) hp hl hv he hx hw'
  have := least _ _ _ e1 e2
  omega
/-- a way traced by what is left -/
def TrL (e : Nat → Nat → Nat) (wt : Nat → Nat → Nat → Nat) (cu rv q : Nat) (N : Nat → Nat → Nat) : Option Nat → Nat → Nat → List (Nat × Nat) → Prop
  | _, _, _, [] => True
  | l, p, c, a :: T => p ≠ q ∧ a.1 < 3 + 3 * rv ∧ e p a.1 = a.2 + 1 ∧ a.2 < 2048 ∧ wt p a.1 a.2 + tcN cu l (some a.1) + N 0 (a.2 + 2048 * gear a.1) = c ∧ TrL e wt cu rv q N (some a.1) a.2 (N 0 (a.2 + 2048 * gear a.1)) T
theorem gd_end (hrv : rv < 2) (hq : q < 2048) {l : Option Nat} {c : Nat} (G : Gd e wt cu rv q m l q c) : c = 0 := by
  obtain ⟨hp, hcm, hl, _, least⟩ := G
  have key : ∃ t, stO l q t ∧ seedS q rv t = true := by
    cases l with
    | none => exact ⟨q, ⟨by omega, by omega⟩, seed_iff.2 (Or.inl rfl)⟩
    | some a =>
      refine ⟨q + 2048 * gear a, rfl, seed_iff.2 ?_⟩
      have g := gear_lt a
      by_cases z : rv = 0
      · left; have := gear_rv hrv (hl a rfl) z; omega
      · by_cases y : gear a = 0
        · left; omega
        · right; exact ⟨z, by omega⟩
  obtain ⟨t, h1, h2⟩ := key
  exact Nat.le_zero.mp (least t 0 0 h1 ⟨h2, rfl⟩)
theorem tr_facts (HL : geoL e) (HS : geoS e) (hrv : rv < 2) (hq : q < 2048) (hm : m < 536870912) (h10 : ∀ p a x, 10 ≤ wt p a x) (LB : gLab (adjS e wt cu rv 1) (seedS q rv) N m) : ∀ (T : List (Nat × Nat)) (l : Option Nat) (p c : Nat), Gd e wt cu rv q m l p c → TrL e wt cu rv q N l p c T → Sho.fin p T = q →
    Sho.Val (drE e) p T ∧ mvW wt (tcN cu) l p T = c ∧ (∀ x ∈ T, x.1 < 3 + 3 * rv ∧ x.2 < 2048) ∧ 10 * T.length ≤ c
  | [], l, p, c, G, _, h => by
    have h' : p = q := h
    subst h'
    exact ⟨trivial, (gd_end hrv hq G).symm, fun x hx => (List.not_mem_nil hx).elim, Nat.zero_le _⟩
  | a :: T, l, p, c, G, ⟨h1, h2, h3, h4, h5, h6⟩, hf => by
    obtain ⟨G', h10'⟩ := gd_next HL HS hrv hm h10 LB G h2 h3 h4 h5
    obtain ⟨i1, i3, i4, i5⟩ := tr_facts HL HS hrv hq hm h10 LB T (some a.1) a.2 _ G' h6 hf
    refine ⟨⟨by unfold drE; rw [if_neg (by omega), h3, Nat.add_sub_cancel], i1⟩, by rw [mvW, i3]; exact h5, fun x hx => (List.mem_cons.mp hx).elim (fun z => z ▸ ⟨h2, h4⟩) (i4 x), by rw [List.length_cons]; omega⟩
theorem mvW_tri (h10 : ∀ p a x, 10 ≤ wt p a x) : ∀ (A : List (Nat × Nat)) (l : Option Nat) (p : Nat) (x : Option Nat), A ≠ [] → tcN cu l x < mvW wt (tcN cu) l p A + tcN cu (Sho.lst l A) x
  | [], _, _, _, h => absurd rfl h
  | a :: A, l, p, x, _ => by
    have h1 := h10 p a.1 a.2
    rw [mvW, Sho.lst]
    cases x with
    | none => rw [tcN_none, tcN_none]; omega
    | some x =>
      have h2 := tcN_tri cu l (some x) a.1
      by_cases hA : A = []
      · subst hA; rw [mvW, Sho.lst]; omega
      · have := mvW_tri h10 A (some a.1) a.2 (some x) hA
        omega
theorem sp_split {T : List (Nat × Nat)} : ∀ {q z : Nat}, z ∈ Sho.sp q T → ∃ X b Y, T = X ++ b :: Y ∧ Sho.fin q X = z := by
  induction T with
  | nil => intro q z h; exact (List.not_mem_nil h).elim
  | cons a T ih =>
    intro q z h
    rw [Sho.sp, List.mem_cons] at h
    rcases h with h | h
    · exact ⟨[], a, T, rfl, h.symm⟩
    · obtain ⟨X, b, Y, h1, h2⟩ := ih h
      exact ⟨a :: X, b, Y, by rw [h1]; rfl, h2⟩
/-- the rest behind some moves -/
theorem tr_drop (HL : geoL e) (HS : geoS e) (hrv : rv < 2) (hm : m < 536870912) (h10 : ∀ p a x, 10 ≤ wt p a x) (LB : gLab (adjS e wt cu rv 1) (seedS q rv) N m) : ∀ (A B : List (Nat × Nat)) (l : Option Nat) (p c : Nat), Gd e wt cu rv q m l p c → TrL e wt cu rv q N l p c (A ++ B) →
    ∃ c2, Gd e wt cu rv q m (Sho.lst l A) (Sho.fin p A) c2 ∧ TrL e wt cu rv q N (Sho.lst l A) (Sho.fin p A) c2 B ∧ c = mvW wt (tcN cu) l p A + c2
  | [], B, l, p, c, G, h => ⟨c, G, h, by rw [mvW, Nat.zero_add]⟩
  | a :: A, B, l, p, c, G, ⟨h1, h2, h3, h4, h5, h6⟩ => by
    obtain ⟨G', _⟩ := gd_next HL HS hrv hm h10 LB G h2 h3 h4 h5
    obtain ⟨c2, i1, i2, i3⟩ := tr_drop HL HS hrv hm h10 LB A B (some a.1) a.2 _ G' h6
    exact ⟨c2, i1, i2, by rw [mvW]; omega⟩
theorem tr_new (HL : geoL e) (HS : geoS e) (hrv : rv < 2) (hm : m < 536870912) (h10 : ∀ p a x, 10 ≤ wt p a x) (LB : gLab (adjS e wt cu rv 1) (seedS q rv) N m) {A B : List (Nat × Nat)} {b : Nat × Nat} {l : Option Nat} {p c : Nat} (G : Gd e wt cu rv q m l p c) (h : TrL e wt cu rv q N l p c (A ++ b :: B)) (hA : A ≠ []) : Sho.fin p A ≠ p := by
  intro hp
  obtain ⟨c2, G2, ⟨t1, t2, t3, t4, t5, t6⟩, hc⟩ := tr_drop HL HS hrv hm h10 LB A (b :: B) l p c G h
  rw [hp] at t3 t5
  have tri := mvW_tri (cu := cu) h10 A l p (some b.1) hA
  have w10 := h10 p b.1 b.2
  have gv := gear_lt b.1
  obtain ⟨hp8, hcm, hl, _, least⟩ := G
  obtain ⟨n', hN⟩ := LB.1 (b.2 + 2048 * gear b.1) (by omega) (by have := G2.2.1; omega)
  obtain ⟨t0, e1, e2⟩ := gd_edge (cu := cu) HL HS hrv (l := l) hp8 hl t2 t3 t4 hN
  have := least _ _ _ e1 e2
  omega
theorem tr_nodup (HL : geoL e) (HS : geoS e) (hrv : rv < 2) (hm : m < 536870912) (h10 : ∀ p a x, 10 ≤ wt p a x) (LB : gLab (adjS e wt cu rv 1) (seedS q rv) N m) : ∀ (T : List (Nat × Nat)) (l : Option Nat) (p c : Nat), Gd e wt cu rv q m l p c → TrL e wt cu rv q N l p c T → (Sho.sp p T).Nodup
  | [], _, _, _, _, _ => List.nodup_nil
  | a :: T, l, p, c, G, h => by
    have h' := h
    obtain ⟨h1, h2, h3, h4, h5, h6⟩ := h'
    obtain ⟨G', _⟩ := gd_next HL HS hrv hm h10 LB G h2 h3 h4 h5
    refine List.nodup_cons.2 ⟨fun hz => ?_, tr_nodup HL HS hrv hm h10 LB T (some a.1) a.2 _ G' h6⟩
    obtain ⟨X, b, Y, e1, e2⟩ := sp_split hz
    rw [e1] at h
    exact tr_new HL HS hrv hm h10 LB (A := a :: X) G h (by simp) e2
end
