section
/-- a neighbour of a cell and 1 (0 off the field); 1 stands for no step -/
def nbN (c dx dy : Nat) : Nat := if 1 ≤ c % 16 + dx ∧ c % 16 + dx ≤ 16 ∧ 1 ≤ c / 16 + dy ∧ c / 16 + dy ≤ 16 then 16 * (c / 16 + dy - 1) + (c % 16 + dx - 1) + 1 else 0
theorem ck_nb : allB 256 (fun c => allB 3 fun dx => allB 3 fun dy => decide (pNum (pX (Int32.ofNat c) + (Int32.ofNat dx - 1)) (pY (Int32.ofNat c) + (Int32.ofNat dy - 1)) 0 = qDec 1 (nbN c dx dy))) = true := by decide +kernel
def clN (g : Nat → Int32) (G : Nat → Nat) : Prop := ∀ j, j < 256 → g j = Int32.ofNat (G j) ∧ G j ≤ 16
def setN (G : Nat → Nat) (c v : Nat) : Nat → Nat := fun j => if j = c then v else G j
theorem setN_at {G : Nat → Nat} {c v : Nat} : setN G c v c = v := by unfold setN; rw [if_pos rfl]
theorem setN_ne {G : Nat → Nat} {c v j : Nat} (hj : j ≠ c) : setN G c v j = G j := by unfold setN; rw [if_neg hj]
def nNear (G : Nat → Nat) (c dx dy : Nat) : Nat → Nat := if nbN c dx dy = 0 then G else setN G c (if G (nbN c dx dy - 1) + 1 < G c then G (nbN c dx dy - 1) + 1 else G c)
theorem nb_le (c dx dy : Nat) (hc : c < 256) : nbN c dx dy ≤ 256 := by
  unfold nbN
  split
  · omega
  · omega
theorem near_ok {g : Nat → Int32} {G : Nat → Nat} (H : clN g G) {c dx dy : Nat} (hc : c < 256) (hx : dx < 3) (hy : dy < 3) : clN (pNear g c (Int32.ofNat dx - 1) (Int32.ofNat dy - 1)) (nNear G c dx dy) := by
  have ck := of_decide_eq_true (allB_get (allB_get (allB_get ck_nb c hc) dx hx) dy hy)
  have nl := nb_le c dx dy hc
  unfold pNear nNear
  rw [ck]
  by_cases z : nbN c dx dy = 0
  · rw [if_pos z, if_pos (by rw [z]; exact enc_zero)]
    exact H
  · rw [if_neg z, if_neg (fun y => z ((enc_eq (by omega)).mp y)), dec_put (by omega)]
    have e1 : pAt g (Int32.ofNat (nbN c dx dy - 1)) = Int32.ofNat (G (nbN c dx dy - 1)) := by
      rw [pAt_nat (by omega), show (nbN c dx dy - 1) % 256 = nbN c dx dy - 1 by omega]
      exact (H _ (by omega)).1
    obtain ⟨h1, h2⟩ := H c hc
    have h3 := (H (nbN c dx dy - 1) (by omega)).2
    rw [e1, h1, oi_succ]
    intro j hj
    by_cases y : j = c
    · rw [y, setN_at]
      unfold upd
      rw [if_pos rfl]
      by_cases w : G (nbN c dx dy - 1) + 1 < G c
      · rw [if_pos w, if_pos ((oi_lt (by omega) (by omega)).mpr w)]
        exact ⟨rfl, by omega⟩
      · rw [if_neg w, if_neg (fun v => w ((oi_lt (by omega) (by omega)).mp v))]
        exact ⟨rfl, h2⟩
    · rw [setN_ne y]
      unfold upd
      rw [if_neg y]
      exact H j hj
def nMany (c : Nat) : List (Nat × Nat) → (Nat → Nat) → (Nat → Nat)
  | [], G => G
  | a :: l, G => nMany c l (nNear G c a.1 a.2)
theorem many_ok (c : Nat) : ∀ (l : List (Nat × Nat)) (G : Nat → Nat), (∀ a ∈ l, nbN c a.1 a.2 - 1 ≠ c ∨ nbN c a.1 a.2 = 0) →
    (∀ j, j ≠ c → nMany c l G j = G j) ∧ nMany c l G c ≤ G c ∧ (∀ a ∈ l, nbN c a.1 a.2 ≠ 0 → nMany c l G c ≤ G (nbN c a.1 a.2 - 1) + 1) ∧ (nMany c l G c = G c ∨ ∃ a ∈ l, nbN c a.1 a.2 ≠ 0 ∧ nMany c l G c = G (nbN c a.1 a.2 - 1) + 1)
  | [], G, _ => ⟨fun _ _ => rfl, Nat.le_refl _, fun a ha => (List.not_mem_nil ha).elim, Or.inl rfl⟩
  | a :: l, G, hl => by
    obtain ⟨i1, i2, i3, i4⟩ := many_ok c l (nNear G c a.1 a.2) (fun b hb => hl b (List.mem_cons_of_mem _ hb))
    have n1 : ∀ j, j ≠ c → nNear G c a.1 a.2 j = G j := fun j hj => by
      unfold nNear
      split
      · rfl
      · exact setN_ne hj
    have n2 : nNear G c a.1 a.2 c ≤ G c ∧ (nbN c a.1 a.2 ≠ 0 → nNear G c a.1 a.2 c ≤ G (nbN c a.1 a.2 - 1) + 1) ∧ (nNear G c a.1 a.2 c = G c ∨ nbN c a.1 a.2 ≠ 0 ∧ nNear G c a.1 a.2 c = G (nbN c a.1 a.2 - 1) + 1) := by
      unfold nNear
      by_cases z : nbN c a.1 a.2 = 0
      · rw [if_pos z]
        exact ⟨Nat.le_refl _, fun y => absurd z y, Or.inl rfl⟩
      · rw [if_neg z, setN_at]
        by_cases w : G (nbN c a.1 a.2 - 1) + 1 < G c
        · rw [if_pos w]
          exact ⟨by omega, fun _ => Nat.le_refl _, Or.inr ⟨z, rfl⟩⟩
        · rw [if_neg w]
          exact ⟨Nat.le_refl _, fun _ => by omega, Or.inl rfl⟩
    obtain ⟨m1, m2, m3⟩ := n2
    refine ⟨fun j hj => (i1 j hj).trans (n1 j hj), Nat.le_trans i2 m1, fun b hb hz => ?_, ?_⟩
    · rcases List.mem_cons.mp hb with e | e
      · rw [e] at hz ⊢
        exact Nat.le_trans i2 (m2 hz)
      · have := i3 b e hz
        rw [n1 _ ((hl b (List.mem_cons_of_mem _ e)).resolve_right hz)] at this
        exact this
    · rcases i4 with e | ⟨b, e1, e2, e3⟩
      · rcases m3 with w | ⟨w1, w2⟩
        · exact Or.inl (e.trans w)
        · exact Or.inr ⟨a, List.mem_cons_self, w1, e.trans w2⟩
      · rw [n1 _ ((hl b (List.mem_cons_of_mem _ e1)).resolve_right e2)] at e3
        exact Or.inr ⟨b, List.mem_cons_of_mem _ e1, e2, e3⟩
def nsU : List (Nat × Nat) := [(0, 1), (0, 0), (1, 0), (2, 0)]
def nsD : List (Nat × Nat) := [(2, 1), (2, 2), (1, 2), (0, 2)]
theorem nb_up {c : Nat} (hc : c < 256) : ∀ a ∈ nsU, nbN c a.1 a.2 = 0 ∨ nbN c a.1 a.2 - 1 < c := by
  intro a ha
  unfold nsU at ha
  simp only [List.mem_cons, List.not_mem_nil, or_false] at ha
  rcases ha with z | z | z | z <;> rw [z] <;> unfold nbN <;> split <;> omega
theorem nb_down {c : Nat} (hc : c < 256) : ∀ a ∈ nsD, nbN c a.1 a.2 = 0 ∨ c < nbN c a.1 a.2 - 1 := by
  intro a ha
  unfold nsD at ha
  simp only [List.mem_cons, List.not_mem_nil, or_false] at ha
  rcases ha with z | z | z | z <;> rw [z] <;> unfold nbN <;> split <;> omega
theorem ahead_ok {g : Nat → Int32} {G : Nat → Nat} (H : clN g G) {c : Nat} (hc : c < 256) : clN (pAhead g c) (nMany c nsU G) := by
  have h1 := near_ok H (dx := 0) (dy := 1) hc (by decide) (by decide)
  have h2 := near_ok h1 (dx := 0) (dy := 0) hc (by decide) (by decide)
  have h3 := near_ok h2 (dx := 1) (dy := 0) hc (by decide) (by decide)
  exact near_ok h3 (dx := 2) (dy := 0) hc (by decide) (by decide)
theorem behind_ok {g : Nat → Int32} {G : Nat → Nat} (H : clN g G) {c : Nat} (hc : c < 256) : clN (pBehind g c) (nMany c nsD G) := by
  have h1 := near_ok H (dx := 2) (dy := 1) hc (by decide) (by decide)
  have h2 := near_ok h1 (dx := 2) (dy := 2) hc (by decide) (by decide)
  have h3 := near_ok h2 (dx := 1) (dy := 2) hc (by decide) (by decide)
  rw [pBehind_eq]
  exact near_ok h3 (dx := 0) (dy := 2) hc (by decide) (by decide)
/-- no cell lies further from one of its neighbours than 1 -/
def stepsN (ns : List (Nat × Nat)) (G : Nat → Nat) (c : Nat) : Prop := ∀ a ∈ ns, nbN c a.1 a.2 ≠ 0 → G c ≤ G (nbN c a.1 a.2 - 1) + 1
theorem up_ok (B : Nat → Prop) : ∀ (d i : Nat) (g : Nat → Int32) (G : Nat → Nat), i + d = 256 → clN g G → (∀ c, c < i → stepsN nsU G c) → (∀ c, c < 256 → B c → 1 ≤ G c) →
    ∃ G', clN (pPassUp g i d) G' ∧ (∀ c, c < 256 → stepsN nsU G' c) ∧ ∀ c, c < 256 → B c → 1 ≤ G' c
  | 0, i, g, G, hi, H, hs, hb => ⟨G, H, fun c hc => hs c (by omega), hb⟩
  | d + 1, i, g, G, hi, H, hs, hb => by
    have hi8 : i < 256 := by omega
    obtain ⟨m1, m2, m3, m4⟩ := many_ok i nsU G (fun a ha => (nb_up hi8 a ha).symm.imp (fun z => by omega) id)
    refine up_ok B d (i + 1) (pAhead g i) (nMany i nsU G) (by omega) (ahead_ok H hi8) (fun c hc a ha hz => ?_) (fun c hc hB => ?_)
    · have lt := (nb_up (show c < 256 by omega) a ha).resolve_left hz
      by_cases e : c = i
      · rw [e] at hz lt ⊢
        rw [m1 (nbN i a.1 a.2 - 1) (by omega)]
        exact m3 a ha hz
      · rw [m1 c e, m1 (nbN c a.1 a.2 - 1) (by omega)]
        exact hs c (by omega) a ha hz
    · by_cases e : c = i
      · rw [e]
        rcases m4 with w | ⟨a, _, _, w⟩
        · rw [w]; exact hb i hi8 (e ▸ hB)
        · omega
      · rw [m1 c e]; exact hb c hc hB
theorem down_ok (B : Nat → Prop) (F : Nat → Nat) : ∀ (d : Nat) (g : Nat → Int32) (G : Nat → Nat), d ≤ 256 → clN g G → (∀ c, c < d → G c = F c) → (∀ c, d ≤ c → c < 256 → stepsN nsD G c ∧ G c ≤ F c ∧ (G c = F c ∨ ∃ a ∈ nsD, nbN c a.1 a.2 ≠ 0 ∧ G c = G (nbN c a.1 a.2 - 1) + 1)) → (∀ c, c < 256 → B c → 1 ≤ G c) →
    ∃ G', clN (pIter pBehind d g) G' ∧ (∀ c, c < 256 → stepsN nsD G' c ∧ G' c ≤ F c ∧ (G' c = F c ∨ ∃ a ∈ nsD, nbN c a.1 a.2 ≠ 0 ∧ G' c = G' (nbN c a.1 a.2 - 1) + 1)) ∧ ∀ c, c < 256 → B c → 1 ≤ G' c
  | 0, g, G, _, H, _, hs, hb => ⟨G, by rw [pIter_zero]; exact H, fun c hc => hs c (Nat.zero_le _) hc, hb⟩
  | d + 1, g, G, hd, H, hF, hs, hb => by
    have hd8 : d < 256 := by omega
    obtain ⟨m1, m2, m3, m4⟩ := many_ok d nsD G (fun a ha => (nb_down hd8 a ha).symm.imp (fun z => by omega) id)
    rw [pIter_succ]
    refine down_ok B F d (pBehind g d) (nMany d nsD G) (by omega) (behind_ok H hd8) (fun c hc => by rw [m1 c (by omega)]; exact hF c (by omega)) (fun c hc hc8 => ?_) (fun c hc hB => ?_)
    · by_cases e : c = d
      · rw [e]
        refine ⟨fun a ha hz => ?_, by rw [← hF d (by omega)]; exact m2, ?_⟩
        · have lt := (nb_down hd8 a ha).resolve_left hz
          rw [m1 (nbN d a.1 a.2 - 1) (by omega)]
          exact m3 a ha hz
        · rcases m4 with w | ⟨a, w1, w2, w3⟩
          · exact Or.inl (w.trans (hF d (by omega)))
          · have lt := (nb_down hd8 a w1).resolve_left w2
            exact Or.inr ⟨a, w1, w2, by rw [m1 (nbN d a.1 a.2 - 1) (by omega)]; exact w3⟩
      · obtain ⟨s1, s2, s3⟩ := hs c (by omega) hc8
        refine ⟨fun a ha hz => ?_, by rw [m1 c e]; exact s2, ?_⟩
        · have lt := (nb_down hc8 a ha).resolve_left hz
          rw [m1 c e, m1 (nbN c a.1 a.2 - 1) (by omega)]
          exact s1 a ha hz
        · rcases s3 with w | ⟨a, w1, w2, w3⟩
          · exact Or.inl (by rw [m1 c e]; exact w)
          · have lt := (nb_down hc8 a w1).resolve_left w2
            exact Or.inr ⟨a, w1, w2, by rw [m1 c e, m1 (nbN c a.1 a.2 - 1) (by omega)]; exact w3⟩
    · by_cases e : c = d
      · rw [e]
        rcases m4 with w | ⟨a, _, _, w⟩
        · rw [w]; exact hb d hd8 (e ▸ hB)
        · omega
      · rw [m1 c e]; exact hb c hc hB
/-- clearances of cells beside each other, and above, differ by 1 at most -/
theorem lips {G F : Nat → Nat} (hF : ∀ c, c < 256 → stepsN nsU F c) (hG : ∀ c, c < 256 → stepsN nsD G c ∧ G c ≤ F c ∧ (G c = F c ∨ ∃ a ∈ nsD, nbN c a.1 a.2 ≠ 0 ∧ G c = G (nbN c a.1 a.2 - 1) + 1)) :
    ∀ (d c : Nat), c + d = 255 → (c % 16 < 15 → G c ≤ G (c + 1) + 1 ∧ G (c + 1) ≤ G c + 1) ∧ (c / 16 < 15 → G c ≤ G (c + 16) + 1 ∧ G (c + 16) ≤ G c + 1) := by
  -- neighbours by their numbers
  have E : ∀ c, c % 16 < 15 → c < 256 → nbN c 2 1 = c + 2 := fun c h1 h2 => by unfold nbN; rw [if_pos (by omega)]; omega
  have NE : ∀ c, c % 16 < 15 → c / 16 < 15 → nbN c 2 2 = c + 18 := fun c h1 h2 => by unfold nbN; rw [if_pos (by omega)]; omega
  have NN : ∀ c, c / 16 < 15 → nbN c 1 2 = c + 17 := fun c h1 => by unfold nbN; rw [if_pos (by omega)]; omega
  have NW : ∀ c, 0 < c % 16 → c / 16 < 15 → nbN c 0 2 = c + 16 := fun c h1 h2 => by unfold nbN; rw [if_pos (by omega)]; omega
  have WW : ∀ c, 0 < c % 16 → c < 256 → nbN c 0 1 = c := fun c h1 h2 => by unfold nbN; rw [if_pos (by omega)]; omega
  have SS : ∀ c, 0 < c / 16 → c < 256 → nbN c 1 0 = c - 15 := fun c h1 h2 => by unfold nbN; rw [if_pos (by omega)]; omega
  have mE : ((2, 1) : Nat × Nat) ∈ nsD := by simp [nsD]
  have mNE : ((2, 2) : Nat × Nat) ∈ nsD := by simp [nsD]
  have mN : ((1, 2) : Nat × Nat) ∈ nsD := by simp [nsD]
  have mNW : ((0, 2) : Nat × Nat) ∈ nsD := by simp [nsD]
  have mW' : ((0, 1) : Nat × Nat) ∈ nsU := by simp [nsU]
  have mS : ((1, 0) : Nat × Nat) ∈ nsU := by simp [nsU]
  have gE : ∀ c, c < 256 → c % 16 < 15 → G c ≤ G (c + 1) + 1 := fun c h1 h2 => by
    have := (hG c h1).1 _ mE (by rw [E c h2 h1]; omega)
    rw [E c h2 h1] at this
    exact this
  have gNE : ∀ c, c < 256 → c % 16 < 15 → c / 16 < 15 → G c ≤ G (c + 17) + 1 := fun c h1 h2 h3 => by
    have := (hG c h1).1 _ mNE (by rw [NE c h2 h3]; omega)
    rw [NE c h2 h3] at this
    exact this
  have gN : ∀ c, c < 256 → c / 16 < 15 → G c ≤ G (c + 16) + 1 := fun c h1 h2 => by
    have := (hG c h1).1 _ mN (by rw [NN c h2]; omega)
    rw [NN c h2] at this
    exact this
  have gNW : ∀ c, c < 256 → 0 < c % 16 → c / 16 < 15 → G c ≤ G (c + 15) + 1 := fun c h1 h2 h3 => by
    have := (hG c h1).1 _ mNW (by rw [NW c h2 h3]; omega)
    rw [NW c h2 h3] at this
    exact this
  have fW : ∀ c, c < 255 → c % 16 < 15 → F (c + 1) ≤ F c + 1 := fun c h1 h2 => by
    have := hF (c + 1) (by omega) _ mW' (by rw [WW (c + 1) (by omega) (by omega)]; omega)
    rw [WW (c + 1) (by omega) (by omega)] at this
    exact this
  have fS : ∀ c, c / 16 < 15 → F (c + 16) ≤ F c + 1 := fun c h1 => by
    have := hF (c + 16) (by omega) _ mS (by rw [SS (c + 16) (by omega) (by omega)]; omega)
    rw [SS (c + 16) (by omega) (by omega)] at this
    exact this
  intro d
  induction d using Nat.strongRecOn with
  | ind d IH =>
    intro c hc
    have hc8 : c < 256 := by omega
    have Q : ∀ c', c < c' → c' < 256 → (c' % 16 < 15 → G (c' + 1) ≤ G c' + 1) ∧ (c' / 16 < 15 → G (c' + 16) ≤ G c' + 1) := fun c' h1 h2 => by
      have := IH (255 - c') (by omega) c' (by omega)
      exact ⟨fun z => (this.1 z).2, fun z => (this.2 z).2⟩
    refine ⟨fun hx => ⟨gE c hc8 hx, ?_⟩, fun hy => ⟨gN c hc8 hy, ?_⟩⟩
    · rcases (hG c hc8).2.2 with w | ⟨a, w1, w2, w3⟩
      · have h1 := (hG (c + 1) (by omega)).2.1
        have h2 := fW c (by omega) hx
        omega
      · unfold nsD at w1
        simp only [List.mem_cons, List.not_mem_nil, or_false] at w1
        rcases w1 with z | z | z | z <;> rw [z] at w2 w3
        · rw [E c hx hc8] at w3
          have e1 : c + 2 - 1 = c + 1 := by omega
          rw [e1] at w3
          omega
        · have hy : c / 16 < 15 := by
            refine Classical.byContradiction fun y => w2 ?_
            unfold nbN; rw [if_neg (by omega)]
          rw [NE c hx hy] at w3
          have e1 : c + 18 - 1 = c + 17 := by omega
          rw [e1] at w3
          have := gN (c + 1) (by omega) (by omega)
          have e2 : c + 1 + 16 = c + 17 := by omega
          rw [e2] at this
          omega
        · have hy : c / 16 < 15 := by
            refine Classical.byContradiction fun y => w2 ?_
            unfold nbN; rw [if_neg (by omega)]
          rw [NN c hy] at w3
          have e1 : c + 17 - 1 = c + 16 := by omega
          rw [e1] at w3
          have := gNW (c + 1) (by omega) (by omega) (by omega)
          have e2 : c + 1 + 15 = c + 16 := by omega
          rw [e2] at this
          omega
        · have hxy : 0 < c % 16 ∧ c / 16 < 15 := by
            refine Classical.byContradiction fun y => w2 ?_
            unfold nbN; rw [if_neg (by omega)]
          rw [NW c hxy.1 hxy.2] at w3
          have e1 : c + 16 - 1 = c + 15 := by omega
          rw [e1] at w3
          have h1 := gNW (c + 1) (by omega) (by omega) (by omega)
          have e2 : c + 1 + 15 = c + 16 := by omega
          rw [e2] at h1
          have h2 := (Q (c + 15) (by omega) (by omega)).1 (by omega)
          have e3 : c + 15 + 1 = c + 16 := by omega
          rw [e3] at h2
          omega
    · rcases (hG c hc8).2.2 with w | ⟨a, w1, w2, w3⟩
      · have h1 := (hG (c + 16) (by omega)).2.1
        have h2 := fS c hy
        omega
      · unfold nsD at w1
        simp only [List.mem_cons, List.not_mem_nil, or_false] at w1
        rcases w1 with z | z | z | z <;> rw [z] at w2 w3
        · have hx : c % 16 < 15 := by
            refine Classical.byContradiction fun y => w2 ?_
            unfold nbN; rw [if_neg (by omega)]
          rw [E c hx hc8] at w3
          have e1 : c + 2 - 1 = c + 1 := by omega
          rw [e1] at w3
          have h1 := gE (c + 16) (by omega) (by omega)
          have e2 : c + 16 + 1 = c + 17 := by omega
          rw [e2] at h1
          have h2 := (Q (c + 1) (by omega) (by omega)).2 (by omega)
          have e3 : c + 1 + 16 = c + 17 := by omega
          rw [e3] at h2
          omega
        · have hx : c % 16 < 15 := by
            refine Classical.byContradiction fun y => w2 ?_
            unfold nbN; rw [if_neg (by omega)]
          rw [NE c hx hy] at w3
          have e1 : c + 18 - 1 = c + 17 := by omega
          rw [e1] at w3
          have h1 := gE (c + 16) (by omega) (by omega)
          have e2 : c + 16 + 1 = c + 17 := by omega
          rw [e2] at h1
          omega
        · rw [NN c hy] at w3
          have e1 : c + 17 - 1 = c + 16 := by omega
          rw [e1] at w3
          omega
        · have hx : 0 < c % 16 := by
            refine Classical.byContradiction fun y => w2 ?_
            unfold nbN; rw [if_neg (by omega)]
          rw [NW c hx hy] at w3
          have e1 : c + 16 - 1 = c + 15 := by omega
          rw [e1] at w3
          have h2 := (Q (c + 15) (by omega) (by omega)).1 (by omega)
          have e3 : c + 15 + 1 = c + 16 := by omega
          rw [e3] at h2
          omega
/-- what the clearances are -/
def clOk (cov fcl : Nat → Int32) (cN : Nat → Nat) : Prop := clN fcl cN ∧ (∀ c, c < 256 → ¬ 0 < cov c → 1 ≤ cN c) ∧ (∀ c, c < 256 → c % 16 < 15 → cN c ≤ cN (c + 1) + 1 ∧ cN (c + 1) ≤ cN c + 1) ∧ ∀ c, c < 256 → c / 16 < 15 → cN c ≤ cN (c + 16) + 1 ∧ cN (c + 16) ≤ cN c + 1
theorem clears_ok (cov g : Nat → Int32) : ∃ cN, clOk cov (pClears cov g) cN := by
  have pa : ∀ j, j < 256 → pAt cov (Int32.ofNat j) = cov j := fun j hj => by rw [pAt_nat (by omega), show j % 256 = j by omega]
  have b0 : clN (fillG g 0 256 (pBase cov)) (fun j => if 0 < cov j then 0 else 16) := fun j hj => by
    unfold fillG pBase
    rw [if_pos ⟨Nat.zero_le _, hj⟩, pa j hj]
    by_cases z : 0 < cov j
    · dsimp only; rw [if_pos z, if_pos z]; exact ⟨rfl, Nat.zero_le _⟩
    · dsimp only; rw [if_neg z, if_neg z]; exact ⟨rfl, Nat.le_refl _⟩
  obtain ⟨F, f1, f2, f3⟩ := up_ok (fun c => ¬ 0 < cov c) 256 0 _ _ rfl b0 (fun c hc => absurd hc (Nat.not_lt_zero _)) (fun c _ hB => by
    show 1 ≤ if 0 < cov c then 0 else 16
    rw [if_neg hB]; decide)
  obtain ⟨G, g1, g2, g3⟩ := down_ok (fun c => ¬ 0 < cov c) F 256 _ F (Nat.le_refl _) f1 (fun _ _ => rfl) (fun c h1 h2 => absurd h2 (Nat.not_lt.mpr h1)) f3
  have lp := lips f2 g2
  exact ⟨G, g1, g3, fun c hc hx => (lp (255 - c) c (by omega)).1 hx, fun c hc hy => (lp (255 - c) c (by omega)).2 hy⟩
end
