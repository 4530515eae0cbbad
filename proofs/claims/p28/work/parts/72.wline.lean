def tnI (kk : Nat) : Int32 := if kk = 1 then -1 else 1
theorem ck_al : allB 8 (fun g => allB 2 fun z => allB 8 fun a => decide ((Int32.ofNat g + tnI (z + 1) * Int32.ofNat a) &&& 7 = Int32.ofNat (hdN g (z + 1) a) ∧ pSx (Int32.ofNat g + tnI (z + 1) * Int32.ofNat a) = pSx (Int32.ofNat (hdN g (z + 1) a)) ∧ pSy (Int32.ofNat g + tnI (z + 1) * Int32.ofNat a) = pSy (Int32.ofNat (hdN g (z + 1) a)) ∧
    pSteps (Int32.ofNat g + tnI (z + 1) * Int32.ofNat a) 0 = Int32.ofNat (sc1 (hdN g (z + 1) a) 0) ∧ (-20 ≤ (vX g (z + 1) a).toInt ∧ (vX g (z + 1) a).toInt ≤ 20) ∧ (-20 ≤ (vY g (z + 1) a).toInt ∧ (vY g (z + 1) a).toInt ≤ 20))) = true := by decide +kernel
theorem al_eq {g kk a : Nat} (hg : g < 8) (hk : kk = 1 ∨ kk = 2) (ha : a < 8) : (Int32.ofNat g + tnI kk * Int32.ofNat a) &&& 7 = Int32.ofNat (hdN g kk a) ∧ pSx (Int32.ofNat g + tnI kk * Int32.ofNat a) = pSx (Int32.ofNat (hdN g kk a)) ∧ pSy (Int32.ofNat g + tnI kk * Int32.ofNat a) = pSy (Int32.ofNat (hdN g kk a)) ∧
    pSteps (Int32.ofNat g + tnI kk * Int32.ofNat a) 0 = Int32.ofNat (sc1 (hdN g kk a) 0) ∧ (-20 ≤ (vX g kk a).toInt ∧ (vX g kk a).toInt ≤ 20) ∧ (-20 ≤ (vY g kk a).toInt ∧ (vY g kk a).toInt ≤ 20) := by
  have := of_decide_eq_true (allB_get (allB_get (allB_get ck_al g hg) (kk - 1) (by omega)) a ha)
  rwa [show kk - 1 + 1 = kk by omega] at this
theorem ck_bh : allB 8 (fun g => allB 2 fun z => allB 8 fun a => allB 8 fun g2 => allB 2 fun z2 => decide ((tnI (z2 + 1) * (Int32.ofNat g2 - (Int32.ofNat g + tnI (z + 1) * Int32.ofNat a))) &&& 7 = Int32.ofNat (cB (hdN g (z + 1) a) g2 (z2 + 1)))) = true := by decide +kernel
theorem bh_eq {g kk a g2 k2 : Nat} (hg : g < 8) (hk : kk = 1 ∨ kk = 2) (ha : a < 8) (hg2 : g2 < 8) (hk2 : k2 = 1 ∨ k2 = 2) : (tnI k2 * (Int32.ofNat g2 - (Int32.ofNat g + tnI kk * Int32.ofNat a))) &&& 7 = Int32.ofNat (cB (hdN g kk a) g2 k2) := by
  have := of_decide_eq_true (allB_get (allB_get (allB_get (allB_get (allB_get ck_bh g hg) (kk - 1) (by omega)) a ha) g2 hg2) (k2 - 1) (by omega))
  rwa [show kk - 1 + 1 = kk by omega, show k2 - 1 + 1 = k2 by omega] at this
theorem ck_last : allB 8 (fun g => allB 2 fun z => allB 8 fun a => allB 8 fun b => decide ((Int32.ofNat g + tnI (z + 1) * Int32.ofNat a - tnI (z + 1) * Int32.ofNat b) &&& 7 = Int32.ofNat (hdN (hdN g (z + 1) a) (2 - z) b))) = true := by decide +kernel
theorem last_eq {g kk a b : Nat} (hg : g < 8) (hk : kk = 1 ∨ kk = 2) (ha : a < 8) (hb : b < 8) : (Int32.ofNat g + tnI kk * Int32.ofNat a - tnI kk * Int32.ofNat b) &&& 7 = Int32.ofNat (hdN (hdN g kk a) (3 - kk) b) := by
  have := of_decide_eq_true (allB_get (allB_get (allB_get (allB_get ck_last g hg) (kk - 1) (by omega)) a ha) b hb)
  rwa [show kk - 1 + 1 = kk by omega, show 2 - (kk - 1) = 3 - kk by omega] at this
theorem ck_lb : allB 8 (fun g => allB 2 fun z => allB 8 fun a => allB 8 fun b => allB 8 fun g2 => decide ((tnI (z + 1) * (Int32.ofNat g2 - (Int32.ofNat g + tnI (z + 1) * Int32.ofNat a - tnI (z + 1) * Int32.ofNat b))) &&& 7 = Int32.ofNat (cB (hdN (hdN g (z + 1) a) (2 - z) b) g2 (z + 1)))) = true := by decide +kernel
theorem lb_eq {g kk a b g2 : Nat} (hg : g < 8) (hk : kk = 1 ∨ kk = 2) (ha : a < 8) (hb : b < 8) (hg2 : g2 < 8) : (tnI kk * (Int32.ofNat g2 - (Int32.ofNat g + tnI kk * Int32.ofNat a - tnI kk * Int32.ofNat b))) &&& 7 = Int32.ofNat (cB (hdN (hdN g kk a) (3 - kk) b) g2 kk) := by
  have := of_decide_eq_true (allB_get (allB_get (allB_get (allB_get (allB_get ck_lb g hg) (kk - 1) (by omega)) a ha) b hb) g2 hg2)
  rwa [show kk - 1 + 1 = kk by omega, show 2 - (kk - 1) = 3 - kk by omega] at this
theorem sm_sub {u v : Int32} {a b : Int} (hu : -a ≤ u.toInt ∧ u.toInt ≤ a) (hv : -b ≤ v.toInt ∧ v.toInt ≤ b) (hab : a + b ≤ 1000) : -(a + b) ≤ (u - v).toInt ∧ (u - v).toInt ≤ a + b := by
  rw [Int32.toInt_sub, bmod_small (by omega) (by omega)]; omega
theorem sm_abs {x : Int32} (hx : -1000 ≤ x.toInt ∧ x.toInt ≤ 1000) : 0 ≤ (if 0 ≤ x then x else 0 - x) := by
  by_cases z : 0 ≤ x
  · rw [if_pos z]; exact z
  · rw [if_neg z]
    have h1 : x.toInt < 0 := by
      have := Int32.lt_iff_toInt_lt.1 (Int32.not_le.1 z); simpa using this
    rw [Int32.le_iff_toInt_le, Int32.toInt_sub, show (0 : Int32).toInt = 0 from rfl, bmod_small (by omega) (by omega)]; omega
theorem sm_max {x y : Int32} (hx : -1000 ≤ x.toInt ∧ x.toInt ≤ 1000) (hy : -1000 ≤ y.toInt ∧ y.toInt ≤ 1000) : 0 ≤ pMax x y := by
  have a := sm_abs hx
  have b := sm_abs hy
  unfold pMax
  generalize (if 0 ≤ x then x else 0 - x) = u at *
  generalize (if 0 ≤ y then y else 0 - y) = v at *
  by_cases c : u < v
  · rw [if_pos c]; exact b
  · rw [if_neg c]; exact a
/-- a straight stretch: the class solves for it, the reference tries all lengths -/
theorem line_iff {g : Nat} {x y : Int32} (hg : g < 8) (hx : -1000 ≤ x.toInt ∧ x.toInt ≤ 1000) (hy : -1000 ≤ y.toInt ∧ y.toInt ≤ 1000) :
    (∃ b, b < 16 ∧ pMax x y = Int32.ofNat b ∧ (¬ (15 < pMax x y) ∧ x = pMax x y * pSx (Int32.ofNat g) ∧ y = pMax x y * pSy (Int32.ofNat g)) ∧ ∀ j, j < 16 → ((x = vX g 0 j ∧ y = vY g 0 j) ↔ j = b)) ∨
    (¬ (¬ (15 < pMax x y) ∧ x = pMax x y * pSx (Int32.ofNat g) ∧ y = pMax x y * pSy (Int32.ofNat g)) ∧ ∀ j, j < 16 → ¬ (x = vX g 0 j ∧ y = vY g 0 j)) := by
  have back : ∀ j, j < 16 → (x = vX g 0 j ∧ y = vY g 0 j) → pMax x y = Int32.ofNat j ∧ (¬ (15 < pMax x y) ∧ x = pMax x y * pSx (Int32.ofNat g) ∧ y = pMax x y * pSy (Int32.ofNat g)) := by
    rintro j hj ⟨e1, e2⟩
    obtain ⟨l1, l2, l3⟩ := line_eq hg hj
    have : pMax x y = Int32.ofNat j := by rw [e1, e2]; exact l3
    refine ⟨this, ?_, ?_, ?_⟩
    · rw [this, show (15 : Int32) = Int32.ofNat 15 from rfl, oi_lt (by decide) (by omega)]; omega
    · rw [this, e1]; exact l1
    · rw [this, e2]; exact l2
  by_cases c : ¬ (15 < pMax x y) ∧ x = pMax x y * pSx (Int32.ofNat g) ∧ y = pMax x y * pSy (Int32.ofNat g)
  · left
    obtain ⟨b, hb, e⟩ := num_of (n := 15) (by decide) ⟨sm_max hx hy, Int32.not_lt.1 c.1⟩
    have hb16 : b < 16 := by omega
    obtain ⟨l1, l2, l3⟩ := line_eq hg hb16
    refine ⟨b, hb16, e, c, fun j hj => ⟨fun z => ?_, ?_⟩⟩
    · have := (back j hj z).1
      rw [e] at this
      have := congrArg Int32.toNatClampNeg this
      rw [oi_nat (by omega), oi_nat (by omega)] at this
      exact this.symm
    · rintro rfl
      exact ⟨by rw [l1, ← e]; exact c.2.1, by rw [l2, ← e]; exact c.2.2⟩
  · right
    exact ⟨c, fun j hj z => c (back j hj z).2⟩
/-- one count of first arcs, where a straight stretch is the second part -/
theorem straight_eq {g2 : Nat} {X Y xa ya x y : Int32} {w a ha Ca : Nat} {s : wS} (hw : w < 4) (hh : ha < 8) (hg : g2 < 8) (hx0 : x = X - xa - vX ha (kN w 2) (cB ha g2 (kN w 2))) (hy0 : y = Y - ya - vY ha (kN w 2) (cB ha g2 (kN w 2)))
    (hx : -1000 ≤ x.toInt ∧ x.toInt ≤ 1000) (hy : -1000 ≤ y.toInt ∧ y.toInt ≤ 1000) :
    (∃ b, b < 16 ∧ pMax x y = Int32.ofNat b ∧ (¬ (15 < pMax x y) ∧ x = pMax x y * pSx (Int32.ofNat ha) ∧ y = pMax x y * pSy (Int32.ofNat ha)) ∧ bF g2 X Y w a xa ya ha Ca 16 0 s = wOff s w a b (cB ha g2 (kN w 2)) (Ca + b * sc1 ha 0 + 24 * cB ha g2 (kN w 2))) ∨
    (¬ (¬ (15 < pMax x y) ∧ x = pMax x y * pSx (Int32.ofNat ha) ∧ y = pMax x y * pSy (Int32.ofNat ha)) ∧ bF g2 X Y w a xa ya ha Ca 16 0 s = s) := by
  have k1 : kN w 1 = 0 := by unfold kN; rw [if_pos rfl, if_neg (by omega), if_neg (by omega)]
  have hsc : sc1 ha 0 = if ha % 2 = 0 then 10 else 14 := rfl
  have f : ∀ j (t : wS), cF g2 X Y w a j (xa + vX ha (kN w 1) j) (ya + vY ha (kN w 1) j) (hdN ha (kN w 1) j) (Ca + vC ha (kN w 1) j) (kN w 2) 8 0 t = if x = vX ha 0 j ∧ y = vY ha 0 j then wOff t w a j (cB ha g2 (kN w 2)) (Ca + j * sc1 ha 0 + 24 * cB ha g2 (kN w 2)) else t := by
    intro j t
    rw [k1, hdN_0 hh, cF_eq hh hg (kN_02 w).2, vC_0 hh, ← hsc]
    have e1 : (xa + vX ha 0 j + vX ha (kN w 2) (cB ha g2 (kN w 2)) = X) = (x = vX ha 0 j) := by
      apply propext; rw [ring_eq, ← hx0]; exact ⟨Eq.symm, Eq.symm⟩
    have e2 : (ya + vY ha 0 j + vY ha (kN w 2) (cB ha g2 (kN w 2)) = Y) = (y = vY ha 0 j) := by
      apply propext; rw [ring_eq, ← hy0]; exact ⟨Eq.symm, Eq.symm⟩
    simp only [e1, e2]
  rw [bF_fld]
  rcases line_iff (x := x) (y := y) hh hx hy with ⟨b, hb, e, c, u⟩ | ⟨c, u⟩
  · left
    refine ⟨b, hb, e, c, ?_⟩
    rw [fldF_one (b := b) 16 0 s (by omega) (by omega)]
    · show cF g2 X Y w a b _ _ _ _ _ 8 0 s = _
      rw [f, if_pos ((u b hb).2 rfl)]
    · intro j t h1 h2 h3
      show cF g2 X Y w a j _ _ _ _ _ 8 0 t = _
      rw [f, if_neg (fun z => h3 ((u j (by omega)).1 z))]
  · right
    refine ⟨c, fldF_none 16 0 s (fun j h1 h2 => ?_)⟩
    show cF g2 X Y w a j _ _ _ _ _ 8 0 s = _
    rw [f, if_neg (u j (by omega))]
