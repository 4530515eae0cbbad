section
variable {e : Nat → Nat → Nat} {wt : Nat → Nat → Nat → Nat} {cu rv q m p0 : Nat} {N : Nat → Nat → Nat}
theorem gd_start (hp : p0 < 2048) (G : gLeast (adjS e wt cu rv 1) (seedS q rv) (goalS p0) (m + 1)) : Gd e wt cu rv q m none p0 m := by
  obtain ⟨_, ⟨n, t, h1, h2⟩, h3⟩ := G.2 m rfl
  exact ⟨hp, Nat.le_refl _, fun a h => (Option.some_ne_none a h.symm).elim, ⟨t, n, goal_iff.1 h1, h2⟩, fun t' n' c' h4 h5 => h3 n' t' c' (goal_iff.2 h4) h5⟩
theorem min_start (hp : p0 < 2048) (hm : m < 536870912) (G : gLeast (adjS e wt cu rv 1) (seedS q rv) (goalS p0) (m + 1)) (hs : ∃ s, goalS p0 s = true ∧ N 0 s = m) (LB : gLab (adjS e wt cu rv 1) (seedS q rv) N m) :
    (N 0 p0 = m ∧ m ≤ N 0 (p0 + 2048)) ∨ (N 0 (p0 + 2048) = m ∧ m ≤ N 0 p0) := by
  have low : ∀ t, t < 4096 → t % 2048 = p0 → m ≤ N 0 t := fun t h8 ht => by
    by_cases f : N 0 t < 536870912
    · obtain ⟨n, hn⟩ := LB.1 t h8 f
      exact (G.2 m rfl).2.2 n t _ (goal_iff.2 ⟨h8, ht⟩) hn
    · omega
  obtain ⟨s, h1, h2⟩ := hs
  obtain ⟨h8, hs2⟩ := goal_iff.1 h1
  rcases (show s = p0 ∨ s = p0 + 2048 by omega) with z | z
  · left; exact ⟨z ▸ h2, low _ (by omega) (by omega)⟩
  · right; exact ⟨z ▸ h2, low _ (by omega) (by omega)⟩
variable {L : Nat} {xs : Nat → Int32} {k : Nat} {ad : Nat → Nat} {w F P op cl rt pa ma e0 q0 : Nat} {T0 : List (Nat × Nat)} {fw fF : List Value} {mg : Int32} {fo fc : Nat → Int32} {h : List mCel}
theorem c_trace (HE : geoE fo e) (HW : geoW fc mg wt) (HL : geoL e) (HS : geoS e) (hcu : cu ≤ 100) (hrv : rv < 2) (hp : p0 < 2048) (hq : q < 2048) (hm : m < 1000000) (h10 : ∀ p a x, 10 ≤ wt p a x) (G : gLeast (adjS e wt cu rv 1) (seedS q rv) (goalS p0) (m + 1)) (hs : ∃ s, goalS p0 s = true ∧ N 0 s = m)
    (LB : gLab (adjS e wt cu rv 1) (seedS q rv) N m) (o : qOk N) (hrt : fw[3]? = some (.ref rt)) (R : RT rt pa ma e0 q0 T0 h) (Q : qH ad N h) (W : wH ad w F P op cl fw fF (Int32.ofNat cu) mg fo fc h) (D : Dj [rt, pa, ma] (wCs ad w F P op cl)) :
    ∃ h' pa' ma' e' T, mW (mRo L xs) mTab 154 0 [some (.ref w), some (.int (Int32.ofNat p0)), some (.int (Int32.ofNat q)), some (.int (Int32.ofNat rv)), none, none, none, none] [] h k = some (.inl (some (.ref rt)), h', k) ∧
      RT rt pa' ma' e' p0 T h' ∧ TrL e wt cu rv q N none p0 m T ∧ Sho.fin p0 T = q ∧ e0 ≤ e' ∧ h'.length = h.length + 2 * (e' - e0) ∧ hz h' + 256 * 2 ^ e0 = hz h + 256 * 2 ^ e' ∧ mExt (fun a => a = rt ∨ a = pa ∨ a = ma) h h' ∧ (pa' = pa ∨ 8 + h.length ≤ pa') ∧ (ma' = ma ∨ 8 + h.length ≤ ma') ∧ (e' = e0 ∨ 64 * 2 ^ (e' - 1) ≤ 2047) := by
  obtain ⟨h1, A1, A2, A3⟩ := rt_restart (L := L) (xs := xs) (k := k) R (p := p0)
  obtain ⟨W1, Q1, D1⟩ := w_new W Q D (ext_of A3) (Or.inl rfl) (Or.inl rfl)
  have c1 := c_qCost (L := L) (xs := xs) (k := k) Q1 (s := p0) (by omega)
  have c2 := c_qCost (L := L) (xs := xs) (k := k) Q1 (s := p0 + 2048) (by omega)
  have mn := min_start (N := N) hp (by omega) G hs LB
  have o1 := (o p0 (by omega)).1
  have o2 := (o (p0 + 2048) (by omega)).1
  have mi : (if Int32.ofNat (N 0 (p0 + 2048)) < Int32.ofNat (N 0 p0) then Int32.ofNat (N 0 (p0 + 2048)) else Int32.ofNat (N 0 p0)) = Int32.ofNat m := by
    by_cases z : N 0 (p0 + 2048) < N 0 p0
    · rw [if_pos ((oi_lt o2 o1).mpr z)]; congr 1; omega
    · rw [if_neg (fun y => z ((oi_lt o2 o1).mp y))]; congr 1; omega
  have s0 : (if (0 : Int32) = 0 then Int32.ofNat p0 else Int32.ofNat p0 + 2048) = Int32.ofNat p0 := if_pos rfl
  have s1 : (if (1 : Int32) = 0 then Int32.ofNat p0 else Int32.ofNat p0 + 2048) = Int32.ofNat (p0 + 2048) := by rw [if_neg (by decide), oi_add]; rfl
  obtain ⟨h2, pa2, ma2, e2, T, B1, B2, B3, B4, B5, B6, B7, B8, B9, B10, B11⟩ := trace_loop (L := L) (xs := xs) (k := k) HE HW HL HS hcu hrv hq hm h10 LB (gd_start hp G) o hrt m [] pa ma e0 h1 none none (Nat.le_refl _) trivial A2 Q1 W1 D1
  refine ⟨h2, pa2, ma2, e2, T, ?_, B2, B3, B4, B5, by rw [B6, A3.1], by rw [B7, A3.2.1], ext_old (ext_of A3) B8 (fun y _ z => z), by rw [A3.1] at B9; exact B9, by rw [A3.1] at B10; exact B10, B11⟩
  rw [e154_0, e154_1, kF_eq W.1.1 hrt, e154_4, e154_5 (kR_eq R.2.choose_spec.choose_spec.1.1) (by simp [Value.category]), A1]
  simp only [mAft, Option.toList_none, List.nil_append]
  rw [e154_8, e154_9, kF_eq W1.1.1 W1.1.2.2.2, e154_12, e154_13, e154_14 (by simp [Value.category]), c_stateOf, s0]
  simp only [mAft, Option.toList_some, List.cons_append, List.nil_append]
  rw [e154_17 (q_R Q1) (by simp [Value.category]), c1]
  simp only [mAft, Option.toList_some, List.cons_append, List.nil_append]
  rw [e154_20, e154_21, kF_eq W1.1.1 W1.1.2.2.2, e154_24, e154_25, e154_26 (by simp [Value.category]), c_stateOf, s1]
  simp only [mAft, Option.toList_some, List.cons_append, List.nil_append]
  rw [e154_29 (q_R Q1) (by simp [Value.category]), c2]
  simp only [mAft, Option.toList_some, List.cons_append, List.nil_append]
  rw [e154_32 (by simp [Value.category]), mi, e154_35, e154_37, e154_38]
  exact B1
/-- a way of a plan keeps what each plan keeps -/
theorem pi_trace {o : Nat → Bool} (ho : ∀ p, o p = true → p < 2048) (HL : geoL (eG o)) (HS : geoS (eG o)) (hrv : rv < 2) (hp : p0 < 2048) (hq : q < 2048) (hm : m < 536870912) (h10 : ∀ p a x, 10 ≤ wt p a x) (G : gLeast (adjS (eG o) wt cu rv 1) (seedS q rv) (goalS p0) (m + 1)) (LB : gLab (adjS (eG o) wt cu rv 1) (seedS q rv) N m) {T : List (Nat × Nat)}
    (h : TrL (eG o) wt cu rv q N none p0 m T) (hf : Sho.fin p0 T = q) : PI p0 T ∧ Sho.Val (drE (eG o)) p0 T ∧ mvW wt (tcN cu) none p0 T = m ∧ (∀ x ∈ T, x.1 < 3 + 3 * rv) ∧ T.length ≤ 2047 := by
  have Gs := gd_start hp G
  obtain ⟨f1, f2, f3, _⟩ := tr_facts HL HS hrv hq hm h10 LB T none p0 m Gs h hf
  have nd := tr_nodup HL HS hrv hm h10 LB T none p0 m Gs h
  have ln := tr_len HL HS hrv hq hm h10 LB Gs h
  have ok : ∀ x ∈ T, x.1 < 6 ∧ x.2 < 2048 := tr_ok T none p0 m hrv h
  have vG := val_mono (dr_geo (o := o)) T p0 f1
  have sub : ∀ A B, T = A ++ B → (Sho.sp (Sho.fin p0 A) B).Nodup := fun A B e => by
    rw [e, Sho.sp_app] at nd
    exact (List.nodup_append.1 nd).2.1
  refine ⟨⟨hp, ok, vG, ?_, ?_, by omega⟩, f1, f2, fun x hx => (f3 x hx).1, ln⟩
  · intro A B e
    refine ⟨Sho.sp (Sho.fin p0 A) B, sub A B e, fun y hy => hy, ?_⟩
    have : ∀ Y : List Nat, Y.length ≤ (Y.map gN).sum := by
      intro Y
      induction Y with
      | nil => exact Nat.le_refl _
      | cons a Y ih => rw [List.map_cons, List.sum_cons, List.length_cons]; have := gN_2 a; omega
    have := this (Sho.sp (Sho.fin p0 A) B)
    rw [Sho.sp_len] at this
    omega
  · intro A B C a e hB
    by_cases hl : 16 ≤ B.length
    · exfalso
      obtain ⟨k1, k2, k3, k4, k5⟩ := run_of hp ok vG e hB hl
      have e8 : B = B.take 8 ++ B.drop 8 := (List.take_append_drop 8 B).symm
      have nB : (Sho.sp (Sho.fin p0 A) B).Nodup := by
        have := sub A (B ++ C) e
        rw [Sho.sp_app] at this
        exact (List.nodup_append.1 this).1
      have d8 : 0 < (B.drop 8).length := by rw [List.length_drop]; omega
      cases hd : B.drop 8 with
      | nil => rw [hd] at d8; exact absurd d8 (Nat.lt_irrefl _)
      | cons b D =>
        have hy : Sho.fin (Sho.fin p0 A) (B.take 8) ∈ Sho.sp (Sho.fin p0 A) B := by
          have : Sho.sp (Sho.fin p0 A) B = Sho.sp (Sho.fin p0 A) (B.take 8) ++ Sho.sp (Sho.fin (Sho.fin p0 A) (B.take 8)) (b :: D) := by
            rw [← Sho.sp_app, ← hd, ← e8]
          rw [this]
          exact List.mem_append_right _ List.mem_cons_self
        have hy2 := circ_sp k1 k2 B.length (Sho.fin p0 A) B (Nat.le_refl _) k3 k4 k5 _ hy
        have e9 : Sho.sp (Sho.fin p0 A) B = Sho.sp (Sho.fin p0 A) (B.take 8) ++ Sho.sp (Sho.fin (Sho.fin p0 A) (B.take 8)) (b :: D) := by
          rw [← Sho.sp_app, ← hd, ← e8]
        rw [e9] at nB
        exact (List.nodup_append.1 nB).2.2 _ hy2 _ List.mem_cons_self rfl
    · omega
end
