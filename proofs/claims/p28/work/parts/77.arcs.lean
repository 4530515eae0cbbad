section
variable {L : Nat} {xs : Nat → Int32}
theorem c_Ways {h : List mCel} {f p : Nat} : mW (mRo L xs) mTab 148 0 [some (.ref (8 + h.length)), some (.ref f), some (.ref p)] [] (h ++ [.inr (8, mFls TX9 4)]) 0 =
    some (.inl none, h ++ [.inr (8, [.ref f, .ref p, .ref (8 + h.length + 1), .ref (8 + h.length + 6)]), .inr (5, [.ref (8 + h.length + 2), .ref (8 + h.length + 3), .ref (8 + h.length + 4), .ref (8 + h.length + 5), .int 0, .int 0]), zI 4096, zI 4096, zI 4096, zI 256,
      .inr (6, [.ref (8 + h.length + 7), .ref (8 + h.length + 8), .int 0]), zI 64, zI 64], 0) := by
  have K1 : ∀ l : List mCel, kR (mCell ((h ++ l) ++ [.inr (5, mFls TX6 6)]) (8 + (h ++ l).length)) 5 = true := fun l => kR_eq (by rw [ap_0]; rfl)
  have K2 : ∀ l : List mCel, kR (mCell ((h ++ l) ++ [.inr (6, mFls TX7 3)]) (8 + (h ++ l).length)) 6 = true := fun l => kR_eq (by rw [ap_0]; rfl)
  rw [fl_9, e148_0, e148_1 (by simp), e148_4, e148_5, e148_8r, e148_9 (K1 _) (by simp [Value.category]), c_Queue]
  simp only [mAft, Option.toList_none, List.nil_append]
  rw [ap_len, List.append_assoc, e148_12, kP_eq (ap_0) (by simp), ap_set0]
  simp only [List.cons_append, List.nil_append, List.set_cons_succ, List.set_cons_zero]
  rw [e148_15, e148_16, e148_19r, e148_20 (K2 _) (by simp [Value.category]), c_Route]
  simp only [mAft, Option.toList_none, List.nil_append]
  rw [ap_len, List.append_assoc, e148_23, kP_eq (ap_0) (by simp), ap_set0]
  simp only [List.cons_append, List.nil_append, List.set_cons_succ, List.set_cons_zero]
  rw [e148_26, e148_27, e148_28, kP_eq (ap_0) (by simp), ap_set0, e148_31, e148_32, e148_33, kP_eq (ap_0) (by simp), ap_set0, e148_36]
  rfl
theorem c_Shortener {h : List mCel} {f p ar : Nat} : mW (mRo L xs) mTab 141 0 [some (.ref (8 + h.length)), some (.ref f), some (.ref p), some (.ref ar)] [] (h ++ [.inr (7, mFls TX8 4)]) 0 =
    some (.inl none, h ++ [.inr (7, [.ref f, .ref p, .ref (8 + h.length + 4), .ref (8 + h.length + 1)]), .inr (6, [.ref (8 + h.length + 2), .ref (8 + h.length + 3), .int 0]), zI 64, zI 64,
      .inr (9, [.ref ar, .int (-1), .int 0, .int 0, .int 0, .int 536870912])], 0) := by
  have K1 : ∀ l : List mCel, kR (mCell ((h ++ l) ++ [.inr (9, mFls TX10 6)]) (8 + (h ++ l).length)) 9 = true := fun l => kR_eq (by rw [ap_0]; rfl)
  have K2 : ∀ l : List mCel, kR (mCell ((h ++ l) ++ [.inr (6, mFls TX7 3)]) (8 + (h ++ l).length)) 6 = true := fun l => kR_eq (by rw [ap_0]; rfl)
  rw [fl_8, e141_0, e141_1 (by simp), e141_4, e141_5, e141_8r, e141_9 (K2 _) (by simp [Value.category]), c_Route]
  simp only [mAft, Option.toList_none, List.nil_append]
  rw [ap_len, List.append_assoc, e141_12, kP_eq (ap_0) (by simp), ap_set0]
  simp only [List.cons_append, List.nil_append, List.set_cons_succ, List.set_cons_zero]
  rw [e141_15, e141_16, e141_17, kP_eq (ap_0) (by simp), ap_set0, e141_20, e141_21, e141_22, kP_eq (ap_0) (by simp), ap_set0]
  simp only [List.cons_append, List.nil_append, List.set_cons_succ, List.set_cons_zero]
  rw [e141_25, e141_26, e141_29r, e141_30, e141_31 (K1 _) (by simp [Value.category]), c_Word]
  simp only [mAft, Option.toList_none, List.nil_append]
  rw [ap_len, List.append_assoc, e141_34, kP_eq (ap_0) (by simp), ap_set0, e141_37]
  rfl
def aHp (h : List mCel) (fX fY : Nat → Int32) : List mCel := h ++ [.inr (0, [.ref (8 + h.length + 1), .ref (8 + h.length + 2)]), .inl (0, 128, .inl fX), .inl (0, 128, .inl fY)]
theorem ahp_o {h : List mCel} {fX fY : Nat → Int32} : mCell (aHp h fX fY) (8 + h.length) = some (.inr (0, [.ref (8 + h.length + 1), .ref (8 + h.length + 2)])) := ap_0
theorem ahp_x {h : List mCel} {fX fY : Nat → Int32} : mCell (aHp h fX fY) (8 + h.length + 1) = some (.inl (0, 128, .inl fX)) := ap_cell 1
theorem ahp_y {h : List mCel} {fX fY : Nat → Int32} : mCell (aHp h fX fY) (8 + h.length + 2) = some (.inl (0, 128, .inl fY)) := ap_cell 2
theorem ahp_sx {h : List mCel} {fX fY g : Nat → Int32} : (aHp h fX fY).set (8 + h.length + 1 - 8) (.inl (0, 128, .inl g)) = aHp h g fY := ap_set 1
theorem ahp_sy {h : List mCel} {fX fY g : Nat → Int32} : (aHp h fX fY).set (8 + h.length + 2 - 8) (.inl (0, 128, .inl g)) = aHp h fX g := ap_set 2
theorem ck_fill : allB 8 (fun g => allB 2 fun z => allB 8 fun i => decide (pSx (Int32.ofNat g + tnI (z + 1) * Int32.ofNat i) + pSx (Int32.ofNat g + tnI (z + 1) * Int32.ofNat i + tnI (z + 1)) = qFx (Int32.ofNat (hdN g (z + 1) i)) (Int32.ofNat (z + 1)) ∧ pSy (Int32.ofNat g + tnI (z + 1) * Int32.ofNat i) + pSy (Int32.ofNat g + tnI (z + 1) * Int32.ofNat i + tnI (z + 1)) = qFy (Int32.ofNat (hdN g (z + 1) i)) (Int32.ofNat (z + 1)))) = true := by decide +kernel
theorem fill_eq {g kk i : Nat} (hg : g < 8) (hk : kk = 1 ∨ kk = 2) (hi : i < 8) : pSx (Int32.ofNat g + tnI kk * Int32.ofNat i) + pSx (Int32.ofNat g + tnI kk * Int32.ofNat i + tnI kk) = qFx (Int32.ofNat (hdN g kk i)) (Int32.ofNat kk) ∧ pSy (Int32.ofNat g + tnI kk * Int32.ofNat i) + pSy (Int32.ofNat g + tnI kk * Int32.ofNat i + tnI kk) = qFy (Int32.ofNat (hdN g kk i)) (Int32.ofNat kk) := by
  have := of_decide_eq_true (allB_get (allB_get (allB_get ck_fill g hg) (kk - 1) (by omega)) i hi)
  rwa [show kk - 1 + 1 = kk by omega] at this
theorem and7n {g : Nat} (hg : g < 8) : Int32.ofNat g &&& 7 = Int32.ofNat g := by
  have := (al_eq (g := g) (kk := 1) (a := 0) hg (Or.inl rfl) (by decide)).1
  rw [show Int32.ofNat 0 = 0 from rfl, Int32.mul_zero, Int32.add_zero] at this
  exact this
theorem arcfill_loop {h : List mCel} {g kk : Nat} (hg : g < 8) (hk : kk = 1 ∨ kk = 2) (d : Nat) : ∀ (i : Nat) (fX fY : Nat → Int32) (l6 l7 : Option Value), i + d = 8 →
    ∃ fX' fY', mW (mRo L xs) mTab 2 8 [some (.ref (8 + h.length)), some (.int (Int32.ofNat g)), some (.int (tnI kk)), some (.int (vX g kk i)), some (.int (vY g kk i)), some (.int (Int32.ofNat i)), l6, l7] [] (aHp h fX fY) 0 = some (.inl none, aHp h fX' fY', 0) ∧
      (∀ n, i ≤ n → n < 8 → fX' ((g * 2 + (kk - 1)) * 8 + n) = vX g kk n ∧ fY' ((g * 2 + (kk - 1)) * 8 + n) = vY g kk n) ∧
      ∀ j, (¬ ((g * 2 + (kk - 1)) * 8 + i ≤ j ∧ j < (g * 2 + (kk - 1)) * 8 + 8)) → fX' j = fX j ∧ fY' j = fY j := by
  induction d with
  | zero =>
    intro i fX fY l6 l7 hi
    obtain rfl : i = 8 := by omega
    exact ⟨fX, fY, by rw [e2_8, e2_10, e2_12, if_pos (by decide), e2_109], fun n h1 h2 => absurd h1 (by omega), fun j _ => ⟨rfl, rfl⟩⟩
  | succ d IH =>
    intro i fX fY l6 l7 hi
    have n8 : ¬ ((8 : Int32) ≤ Int32.ofNat i) := by
      rw [show (8 : Int32) = Int32.ofNat 8 from rfl, oi_le (by decide) (by omega)]; omega
    have hi8 : i < 8 := by omega
    have hp : (g * 2 + (kk - 1)) * 8 + i < 128 := by omega
    have lt : ¬ (Int32.ofNat 128 ≤ Int32.ofNat ((g * 2 + (kk - 1)) * 8 + i)) := by rw [oi_le (by decide) (by omega)]; omega
    have hin : 0 ≤ (Int32.ofNat ((g * 2 + (kk - 1)) * 8 + i)).toInt ∧ (Int32.ofNat ((g * 2 + (kk - 1)) * 8 + i)).toInt < (128 : Nat) := by rw [oi_int (by omega)]; omega
    have S : ∀ (f : Nat → Int32) (a : Nat) (hh : List mCel) (q : Nat → (Nat → Int32) → Option mOut), mCell hh a = some (.inl (0, 128, .inl f)) → kIS hh a (Int32.ofNat ((g * 2 + (kk - 1)) * 8 + i)) q = q 128 f := by
      intro f a hh q hc; unfold kIS; rw [hc]; simp only [if_pos hin]
    obtain ⟨f1, f2⟩ := fill_eq hg hk hi8
    obtain ⟨fX', fY', R1, R2, R3⟩ := IH (i + 1) (upd fX ((g * 2 + (kk - 1)) * 8 + i) (vX g kk i)) (upd fY ((g * 2 + (kk - 1)) * 8 + i) (vY g kk i)) (some (.int (Int32.ofNat ((g * 2 + (kk - 1)) * 8 + i)))) (some (.int (Int32.ofNat g + tnI kk * Int32.ofNat i))) (by omega)
    refine ⟨fX', fY', ?_, ?_, ?_⟩
    · rw [e2_8, e2_10, e2_12, if_neg n8, e2_15, e2_16, e2_17, e2_19 (by simp), c_placeOf (and7n hg) hg hk hi8]
      simp only [mAft, Option.toList_some, List.cons_append, List.nil_append]
      rw [e2_22, e2_24, e2_26, e2_27, kF_eq ahp_o (v := .ref (8 + h.length + 1)) rfl, e2_30, kAL_int ahp_x, e2_31, if_neg lt, e2_34, e2_36, e2_37, kF_eq ahp_o (v := .ref (8 + h.length + 2)) rfl, e2_40, kAL_int ahp_y, e2_41, if_neg lt]
      rw [e2_44, e2_45, kF_eq ahp_o (v := .ref (8 + h.length + 1)) rfl, e2_48, e2_50, e2_51, S _ _ _ _ ahp_x, oi_nat (by omega), ahp_sx, e2_52, e2_53, kF_eq ahp_o (v := .ref (8 + h.length + 2)) rfl, e2_56, e2_58, e2_60, S _ _ _ _ ahp_y, oi_nat (by omega), ahp_sy]
      rw [e2_61, e2_62, e2_63, e2_65, e2_66, e2_67, e2_69, e2_70, e2_72 (by simp [Value.category]), c_stepX]
      simp only [mAft, Option.toList_some, List.cons_append, List.nil_append]
      rw [e2_75, e2_77, e2_78, e2_79 (by simp [Value.category]), c_stepX]
      simp only [mAft, Option.toList_some, List.cons_append, List.nil_append]
      rw [e2_82, f1, e2_83, e2_84, e2_85, e2_87, e2_89 (by simp [Value.category]), c_stepY]
      simp only [mAft, Option.toList_some, List.cons_append, List.nil_append]
      rw [e2_92, e2_94, e2_95, e2_96 (by simp [Value.category]), c_stepY]
      simp only [mAft, Option.toList_some, List.cons_append, List.nil_append]
      rw [e2_99, f2, e2_100, e2_101, e2_103, oi_succ, e2_106]
      exact R1
    · intro n h1 h2
      by_cases e : n = i
      · subst e
        have := R3 ((g * 2 + (kk - 1)) * 8 + n) (by omega)
        rw [this.1, this.2]
        unfold upd
        rw [if_pos rfl, if_pos rfl]
        exact ⟨rfl, rfl⟩
      · exact R2 n (by omega) h2
    · intro j hj
      have := R3 j (by omega)
      rw [this.1, this.2]
      unfold upd
      rw [if_neg (by omega), if_neg (by omega)]
      exact ⟨rfl, rfl⟩
def arcOk (fX fY : Nat → Int32) (g kk : Nat) : Prop := ∀ n, n < 8 → fX ((g * 2 + (kk - 1)) * 8 + n) = vX g kk n ∧ fY ((g * 2 + (kk - 1)) * 8 + n) = vY g kk n
theorem c_arcfill {h : List mCel} {g kk : Nat} {fX fY : Nat → Int32} (hg : g < 8) (hk : kk = 1 ∨ kk = 2) :
    ∃ fX' fY', mW (mRo L xs) mTab 2 0 [some (.ref (8 + h.length)), some (.int (Int32.ofNat g)), some (.int (tnI kk)), none, none, none, none, none] [] (aHp h fX fY) 0 = some (.inl none, aHp h fX' fY', 0) ∧ arcOk fX' fY' g kk ∧
      ∀ g' kk', (kk' = 1 ∨ kk' = 2) → g' * 2 + kk' ≠ g * 2 + kk → arcOk fX fY g' kk' → arcOk fX' fY' g' kk' := by
  obtain ⟨fX', fY', R1, R2, R3⟩ := arcfill_loop (L := L) (xs := xs) (h := h) hg hk 8 0 fX fY none none rfl
  refine ⟨fX', fY', ?_, fun n hn => R2 n (Nat.zero_le _) hn, ?_⟩
  · rw [e2_0, e2_1, e2_2, e2_3, e2_5, e2_6]
    exact R1
  · intro g' kk' hk' hne ok n hn
    have := R3 ((g' * 2 + (kk' - 1)) * 8 + n) (by omega)
    rw [this.1, this.2]; exact ok n hn
theorem arcs_init {h : List mCel} (d : Nat) : ∀ (i : Nat) (fX fY : Nat → Int32), i + d = 8 → (∀ g kk, g < i → (kk = 1 ∨ kk = 2) → arcOk fX fY g kk) →
    ∃ fX' fY', mW (mRo L xs) mTab 3 24 [some (.ref (8 + h.length)), some (.int (Int32.ofNat i))] [] (aHp h fX fY) 0 = some (.inl none, aHp h fX' fY', 0) ∧ ∀ g kk, g < 8 → (kk = 1 ∨ kk = 2) → arcOk fX' fY' g kk := by
  induction d with
  | zero =>
    intro i fX fY hi ok
    obtain rfl : i = 8 := by omega
    exact ⟨fX, fY, by rw [e3_24, e3_25, e3_27, if_pos (by decide), e3_48], ok⟩
  | succ d IH =>
    intro i fX fY hi ok
    have n8 : ¬ ((8 : Int32) ≤ Int32.ofNat i) := by
      rw [show (8 : Int32) = Int32.ofNat 8 from rfl, oi_le (by decide) (by omega)]; omega
    obtain ⟨f1, g1, A1, A2, A3⟩ := c_arcfill (L := L) (xs := xs) (h := h) (fX := fX) (fY := fY) (show i < 8 by omega) (Or.inl rfl : (1 : Nat) = 1 ∨ (1 : Nat) = 2)
    obtain ⟨f2, g2, B1, B2, B3⟩ := c_arcfill (L := L) (xs := xs) (h := h) (fX := f1) (fY := g1) (show i < 8 by omega) (Or.inr rfl : (2 : Nat) = 1 ∨ (2 : Nat) = 2)
    obtain ⟨f3, g3, C1, C2⟩ := IH (i + 1) f2 g2 (by omega) (by
      intro g kk hg hk
      by_cases e : g = i
      · subst e
        rcases hk with rfl | rfl
        · exact B3 g 1 (Or.inl rfl) (by omega) A2
        · exact B2
      · exact B3 g kk hk (by omega) (A3 g kk hk (by omega) (ok g kk (by omega) hk)))
    refine ⟨f3, g3, ?_, C2⟩
    rw [e3_24, e3_25, e3_27, if_neg n8, e3_30, e3_31, e3_32, show (-1 : Int32) = tnI 1 from rfl, e3_33 (kR_eq ahp_o) (by simp), A1]
    simp only [mAft, Option.toList_none, List.nil_append]
    rw [e3_36, e3_37, e3_38, show (1 : Int32) = tnI 2 from rfl, e3_39 (kR_eq ahp_o) (by simp), B1]
    simp only [mAft, Option.toList_none, List.nil_append]
    rw [e3_42, show Int32.ofNat i + 1 = Int32.ofNat (i + 1) from oi_succ i, e3_45]
    exact C1
theorem c_Arcs {h : List mCel} : ∃ fX fY, mW (mRo L xs) mTab 3 0 [some (.ref (8 + h.length)), none] [] (h ++ [.inr (0, mFls TX0 2)]) 0 = some (.inl none, aHp h fX fY, 0) ∧ ∀ g kk, g < 8 → (kk = 1 ∨ kk = 2) → arcOk fX fY g kk := by
  obtain ⟨f, g, A1, A2⟩ := arcs_init (L := L) (xs := xs) (h := h) 8 0 (fun _ => 0) (fun _ => 0) rfl (fun g kk hg => absurd hg (by omega))
  refine ⟨f, g, ?_, A2⟩
  rw [fl_0, e3_0, e3_1 (by simp), e3_4, e3_5, e3_8 (by decide), z_int, ap_app, ap_len, e3_10, kP_eq (ap_0) (by simp), ap_set0]
  rw [e3_13, e3_14, e3_17 (by decide), z_int, ap_app, ap_len, e3_19, kP_eq (ap_0) (by simp), ap_set0, e3_22, e3_23]
  exact A1
end
