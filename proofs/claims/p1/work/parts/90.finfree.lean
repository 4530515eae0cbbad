section
variable {xs : Nat → Int32} {k : Nat} {h h1 h2 : List mCel} {fX fY fc fo fcl fcan : Nat → Int32}
-- isFree
theorem cx_8 {x y g : Int32} (hc : pNum x y g = -1) : mW (mRo 8 xs) mTab 48 0 [some (.ref 8), some (.int x), some (.int y), some (.int g)] [] (hL fX fY fc fo fcl fcan) 0 = some (.inr 2, hL fX fY fc fo fcl fcan, 1) := by
  rw [e48_0, e48_1, kF_eq x8 (v := .ref 12) rfl, e48_4, e48_5, e48_6, e48_7 (by simp [Value.category]), c_reqPose, if_pos hc]
  rfl
theorem hn_238 {x y g v : Int32} (v01 : v = 0 ∨ v = 1) (E : mW (mRo 8 xs) mTab 48 0 [some (.ref 8), some (.int x), some (.int y), some (.int g)] [] (hL fX fY fc fo fcl fcan) 0 = some (.inl (some (.int v)), hL fX fY fc fo fcl fcan, 0)) :
    mW (mRo 8 xs) mTab 238 0 [some (.ref 8), some (.int x), some (.int y), some (.int g), some (.ref 62), none] [] (hL fX fY fc fo fcl fcan) 0 = some (.inl (some (.int 0)), wOut (hL fX fY fc fo fcl fcan) v.toInt64, 0) := by
  rw [e238_0, e238_2, e238_3, e238_4, e238_5, e238_6, e238_7 (kR_eq x8) (by simp [Value.category]), E]
  simp only [mAft, Option.toList_some, List.cons_append, List.nil_append]
  rw [e238_10]
  rcases v01 with rfl | rfl
  · rw [if_pos rfl, e238_17, e238_18, kLS_out x62, e238_19, e238_26, e238_27]; rfl
  · rw [if_neg (by decide), e238_13, e238_14, e238_18, kLS_out x62, e238_19, e238_26, e238_27]; rfl
theorem dx_8 {x y g : Int32} (hc : ¬ (((0 ≤ x ∧ x ≤ 15) ∧ 0 ≤ y ∧ y ≤ 15) ∧ 0 ≤ g ∧ g ≤ 7)) (M : mCell h 42 = some (.inr (11, mFS 42))) : mW (mRo 8 xs) mTab 106 0 [some (.ref 42), some (.int x), some (.int y), some (.int g)] [] h k = some (.inl (some (.int 0)), h.set (42 - 8) (.inr (11, (mFS 42).set 45 (.int 1))), k) := by
  rw [e106_0, e106_1, e106_2, e106_3, e106_4 (by simp [Value.category]), d_isPose]
  simp only [mAft, Option.toList_some, List.cons_append, List.nil_append]
  rw [e106_7, e106_8, e106_9 (kR_eq M) (by simp), g_false M rfl hc]
  simp only [mAft, Option.toList_some, List.cons_append, List.nil_append]
  rw [e106_12, if_pos rfl, e106_29, e106_30 (Or.inl rfl)]
theorem free_at {p : Nat} (hp : p < 2048) {fs : List Value} (hf : fs[8]? = some (.int 1)) (he : fs[9]? = some (.int 1)) (hb : fs[16]? = some (.ref 49)) (M : mCell h 42 = some (.inr (11, fs))) (B : mCell h 49 = some (.inl (1, 256, .inl fun _ => 0))) :
    mW (mRo 8 xs) mTab 107 0 [some (.ref 42), some (.int (Int32.ofNat (p % 16))), some (.int (Int32.ofNat (p / 16 % 16))), some (.int (Int32.ofNat (p / 256))), none, none, none, none] [] h k = some (.inl (some (.int (if opN p = true then 1 else 0))), h, k) := by
  obtain ⟨r1, r2, r3⟩ := oi_16 hp
  have F := fr_on hp
  rw [r1, r2, r3] at F
  rw [d_isFreeAt M hf he hb B (by decide) (by decide), ← F]
  rfl
theorem fin_8 (hf : ∀ j, j < 2048 → fo j = p1Fo j) : lawEnd xs 569 (hL fX fY fc fo fcl fcan) := by
  rcases pose_cases (xs 1) (xs 2) (xs 3) with ⟨z, p, hp, e, hn, e1, e2, e3, _⟩ | ⟨z, hn⟩
  · have O := c_isOpen (L := 8) (xs := xs) (k := 0) (p := Int32.ofNat p) (x12 (fX := fX) (fY := fY) (fc := fc) (fo := fo) (fcl := fcl) (fcan := fcan)) rfl x16
    have o := op_eq hf hp
    have C : mW (mRo 8 xs) mTab 48 0 [some (.ref 8), some (.int (xs 1)), some (.int (xs 2)), some (.int (xs 3))] [] (hL fX fY fc fo fcl fcan) 0 = some (.inl (some (.int (if opN p = true then 1 else 0))), hL fX fY fc fo fcl fcan, 0) := by
      rw [e48_0, e48_1, kF_eq x8 (v := .ref 12) rfl, e48_4, e48_5, e48_6, e48_7 (by simp [Value.category]), c_reqPose, if_neg hn, e]
      simp only [mAft, Option.toList_some, List.cons_append, List.nil_append]
      rw [e48_10 (kR_eq x12) (by simp), O]
      simp only [mAft, Option.toList_some, List.cons_append, List.nil_append]
      by_cases y : opN p = true
      · rw [if_pos (o.2 y), if_pos y, e48_13 (Or.inr rfl)]
      · rw [if_neg (fun q => y (o.1 q)), if_neg y, e48_13 (Or.inl rfl)]
    have v01 : (if opN p = true then (1 : Int32) else 0) = 0 ∨ (if opN p = true then (1 : Int32) else 0) = 1 := by cases opN p <;> simp
    generalize hv : (if opN p = true then (1 : Int32) else 0) = v at C v01
    have M := m_of (out_K keep_refl (v := v.toInt64)) (h1 := wOut (hL fX fY fc fo fcl fcan) v.toInt64) ⟨Nat.le_refl _, by decide⟩ x42
    have B := m_of (a := 49) (out_K keep_refl (v := v.toInt64)) (h1 := wOut (hL fX fY fc fo fcl fcan) v.toInt64) ⟨by decide, by decide⟩ x49
    have M2 := cell_set (d := .inr (11, (mFS 42).set 45 (.int 0))) M
    have B2 := (cell_setne (d := .inr (11, (mFS 42).set 45 (.int 0))) (show 42 ≠ 49 by decide) (by decide)).trans B
    have D : mW (mRo 8 xs) mTab 106 0 [some (.ref 42), some (.int (xs 1)), some (.int (xs 2)), some (.int (xs 3))] [] (wOut (hL fX fY fc fo fcl fcan) v.toInt64) 0 = some (.inl (some (.int v)), (wOut (hL fX fY fc fo fcl fcan) v.toInt64).set (42 - 8) (.inr (11, (mFS 42).set 45 (.int 0))), 0) := by
      rw [e106_0, e106_1, e106_2, e106_3, e106_4 (by simp [Value.category]), d_isPose]
      simp only [mAft, Option.toList_some, List.cons_append, List.nil_append]
      rw [e106_7, e106_8, e106_9 (kR_eq M) (by simp), g_true M rfl z]
      simp only [mAft, Option.toList_some, List.cons_append, List.nil_append]
      rw [e106_12, if_neg (by decide), e106_15, e106_16, e106_17, e106_18, e106_19 (kR_eq M2) (by simp), e1, e2, e3, free_at hp rfl rfl rfl M2 B2, hv]
      simp only [mAft, Option.toList_some, List.cons_append, List.nil_append]
      rw [e106_22]
      rcases v01 with rfl | rfl
      · rw [if_pos rfl, e106_29, e106_30 (Or.inl rfl)]
      · rw [if_neg (by decide), e106_25, e106_26, e106_30 (Or.inr rfl)]
    obtain ⟨l7, E⟩ := lc_8 (hn_238 v01 C) M D (cell_set M) rfl v01 (fun _ => out_O keep_refl (g_keep M))
    exact fin_n keep_refl (g_keep M) E
  · obtain ⟨l7, E⟩ := lc_8 (hx_238_2 (kR_eq x8) (cx_8 hn)) x42 (dx_8 z x42) (cell_set x42) rfl (Or.inl rfl) (fun z => absurd z (by decide))
    exact end_of E x_keep.1 x_keep.2.1 (by decide)
-- found
theorem cx_10 {c : Int32} (hc : ¬ (0 ≤ c ∧ c ≤ 3)) : mW (mRo 8 xs) mTab 46 0 [some (.ref 8), some (.int c)] [] (hL fX fY fc fo fcl fcan) 0 = some (.inr 0, hL fX fY fc fo fcl fcan, 1) := by
  rw [e46_0, e46_1, e46_2, e46_3 (by simp), c_isOutside, pB_pos (out_in.2 hc)]
  simp only [mAft, Option.toList_some, List.cons_append, List.nil_append]
  rw [e46_6, if_neg (by decide), e46_9 (by simp)]
theorem cn_10 {c : Int32} (hc : 0 ≤ c ∧ c ≤ 3) : mW (mRo 8 xs) mTab 46 0 [some (.ref 8), some (.int c)] [] (hL fX fY fc fo fcl fcan) 0 = some (.inl (some (.int (-1))), hL fX fY fc fo fcl fcan, 0) := by
  rw [e46_0, e46_1, e46_2, e46_3 (by simp), c_isOutside, pB_neg (fun z => out_in.1 z hc)]
  simp only [mAft, Option.toList_some, List.cons_append, List.nil_append]
  rw [e46_6, if_pos rfl, e46_19, e46_20, kF_eq x8 (v := .ref 27) rfl, e46_23, e46_24 (kR_eq x27) (by simp), e33_0, e33_1, kF_eq x27 (v := .int (-1)) rfl, e33_4, e33_5, if_pos rfl, e33_12, e33_13, kF_eq x27 (v := .int (-1)) rfl, e33_16]
  simp only [mAft, Option.toList_some, List.cons_append, List.nil_append]
  rw [e46_27]
theorem dx_10 {c : Int32} (hc : ¬ (0 ≤ c ∧ c ≤ 3)) (M : mCell h 42 = some (.inr (11, mFS 42))) : mW (mRo 8 xs) mTab 94 0 [some (.ref 42), some (.int c)] [] h k = some (.inl (some (.int 0)), h.set (42 - 8) (.inr (11, (mFS 42).set 45 (.int 1))), k) := by
  rw [e94_0, e94_1, e94_2, e94_3, e94_4 (by simp [Value.category]), d_in]
  simp only [mAft, Option.toList_some, List.cons_append, List.nil_append]
  rw [e94_7, e94_8, e94_9 (kR_eq M) (by simp), g_false M rfl hc]
  simp only [mAft, Option.toList_some, List.cons_append, List.nil_append]
  rw [e94_12, if_neg (not_not_intro rfl), e94_15, e94_16]
theorem dn_10 {c : Int32} (hc : 0 ≤ c ∧ c ≤ 3) (M : mCell h 42 = some (.inr (11, mFS 42))) : mW (mRo 8 xs) mTab 94 0 [some (.ref 42), some (.int c)] [] h k = some (.inl (some (.int (-1))), h.set (42 - 8) (.inr (11, (mFS 42).set 45 (.int 0))), k) := by
  have M2 := cell_set (d := .inr (11, (mFS 42).set 45 (.int 0))) M
  rw [e94_0, e94_1, e94_2, e94_3, e94_4 (by simp [Value.category]), d_in]
  simp only [mAft, Option.toList_some, List.cons_append, List.nil_append]
  rw [e94_7, e94_8, e94_9 (kR_eq M) (by simp), g_true M rfl hc]
  simp only [mAft, Option.toList_some, List.cons_append, List.nil_append]
  rw [e94_12, if_pos (by decide), e94_17, e94_18]
  by_cases a : c = 0
  · rw [if_neg (not_not_intro a), e94_21, e94_22, kF_eq M2 (v := .int (-1)) rfl, e94_25, e94_56]
  · rw [if_pos a, e94_28, e94_29, e94_30]
    by_cases b : c = 1
    · rw [if_neg (not_not_intro b), e94_33, e94_34, kF_eq M2 (v := .int (-1)) rfl, e94_37, e94_56]
    · rw [if_pos b, e94_40, e94_41, e94_42]
      by_cases d : c = 2
      · rw [if_neg (not_not_intro d), e94_45, e94_46, kF_eq M2 (v := .int (-1)) rfl, e94_49, e94_56]
      · rw [if_pos d, e94_52, e94_53, kF_eq M2 (v := .int (-1)) rfl, e94_56]
theorem fin_10 : lawEnd xs 774 (hL fX fY fc fo fcl fcan) := by
  by_cases z : 0 ≤ xs 1 ∧ xs 1 ≤ 3
  · have M := m_of (out_K keep_refl (v := (-1 : Int32).toInt64)) (h1 := wOut (hL fX fY fc fo fcl fcan) (-1 : Int32).toInt64) ⟨Nat.le_refl _, by decide⟩ x42
    obtain ⟨l7, E⟩ := lc_10 (hn_237 (kR_eq x8) (cn_10 z) x62) M (dn_10 z M) (cell_set M) rfl (fun _ => out_O keep_refl (g_keep M))
    exact fin_n keep_refl (g_keep M) E
  · obtain ⟨l7, E⟩ := lc_10 (hx_237_0 (kR_eq x8) (cx_10 z)) x42 (dx_10 z x42) (cell_set x42) rfl (fun z => absurd z (by decide))
    exact end_of E x_keep.1 x_keep.2.1 (by decide)
-- forget
theorem fin_2 : lawEnd xs 272 (hL fX fY fc fo fcl fcan) := by
  have K1 : mKeep Pd (hL fX fY fc fo fcl fcan) ((hL fX fY fc fo fcl fcan).set (39 - 8) (.inr (3, [.ref 40, .ref 41, .int 0]))) := keep_set x39 rfl (by unfold Pd; decide)
  have C : mW (mRo 8 xs) mTab 45 0 [some (.ref 8), none] [] (hL fX fY fc fo fcl fcan) 0 = some (.inl (some (.int 0)), (hL fX fY fc fo fcl fcan).set (39 - 8) (.inr (3, [.ref 40, .ref 41, .int 0])), 0) := by
    rw [e45_0, e45_1, kF_eq x8 (v := .ref 39) rfl, e45_4 (kR_eq x39) (by simp), c_xcount]
    simp only [mAft, Option.toList_some, List.cons_append, List.nil_append]
    rw [e45_7, e45_8, e45_9, kF_eq x8 (v := .ref 39) rfl, e45_12 (kR_eq x39) (by simp), e177_0, e177_1, e177_2, kP_eq x39 (by decide), e177_5]
    simp only [mAft, Option.toList_none, List.nil_append]
    rw [e45_15, e45_16]
    rfl
  have M : mCell ((hL fX fY fc fo fcl fcan).set (39 - 8) (.inr (3, [.ref 40, .ref 41, .int 0]))) 42 = some (.inr (11, mFS 42)) := (K1.2.2 42 (by unfold Pd; decide)).trans x42
  have M2 := cell_set (d := .inr (11, (mFS 42).set 45 (.int 0))) M
  have K2 := keep_trans (g_keep (v := 0) M) (keep_set (P := Pm) (d := .inr (11, ((mFS 42).set 45 (.int 0)).set 0 (.int 0))) M2 rfl ⟨by decide, by decide⟩)
  refine end_of (h2 := (((hL fX fY fc fo fcl fcan).set (39 - 8) (.inr (3, [.ref 40, .ref 41, .int 0]))).set (42 - 8) (.inr (11, (mFS 42).set 45 (.int 0)))).set (42 - 8) (.inr (11, ((mFS 42).set 45 (.int 0)).set 0 (.int 0)))) (x1 := 0) (l6 := none) (l7 := none) ?_ (K2.1.trans K1.1) (K2.2.1.trans K1.2.1) (by decide)
  rw [e240_272, e240_273 (kR_eq x8) (by simp), C]
  simp only [mAft, Option.toList_some, List.cons_append, List.nil_append]
  rw [e240_276, e240_277 (kR_eq M) (by simp [Value.category]), e93_0, e93_1, e93_2, kP_eq M (by decide), e93_5, e93_6, kF_eq M2 (v := .int 0) rfl, e93_9, e93_10, e93_11, e93_12, kP_eq M2 (by decide), e93_15, e93_16]
  simp only [mAft, Option.toList_some, List.cons_append, List.nil_append]
  rw [e240_280, if_pos rfl]
end
