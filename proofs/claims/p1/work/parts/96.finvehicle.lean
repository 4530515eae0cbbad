section
variable {L : Nat} {xs : Nat → Int32} {k : Nat}
noncomputable def canG (fr be : Int32) (j : Nat) : Int32 := @ite _ (qCan (fun _ => 0) fr be (Int32.ofNat (j / 6)) (Int32.ofNat (j % 6))) (Classical.propDecidable _) 1 0
theorem gcan_loop {fr be : Int32} (hfr : 0 ≤ fr.toInt ∧ fr.toInt ≤ 2) (hbe : 0 ≤ be.toInt ∧ be.toInt ≤ 2) {m bb kb : Nat} {fs : List Value} (h8' : fs[8]? = some (.int fr)) (h9 : fs[9]? = some (.int be)) (hb : fs[16]? = some (.ref bb)) (hkb : fs[18]? = some (.ref kb)) (d : Nat) : ∀ (i : Nat) (g : Nat → Int32) (h : List mCel) (l3 : Option Value), i + d = 12288 → kb ≠ bb → mCell h m = some (.inr (11, fs)) → mCell h bb = some (.inl (1, 256, .inl (fun _ => 0))) → mCell h kb = some (.inl (1, 12288, .inl g)) →
    mW (mRo L xs) mTab 90 137 [some (.ref m), some (.int 0), some (.int (Int32.ofNat i)), l3] [] h k = some (.inl (some (.int 0)), h.set (kb - 8) (.inl (1, 12288, .inl (fillG g i 12288 (canG fr be)))), k) := by
  induction d with
  | zero =>
    intro i g h l3 hi hkbb hc hbl hcl
    obtain rfl : i = 12288 := by omega
    rw [e90_137, e90_138, e90_141, if_pos (by decide), e90_168, e90_169, fillG_end, cell_same hcl]
  | succ d IH =>
    intro i g h l3 hi hkbb hc hbl hcl
    have n1 : ¬ ((12288 : Int32) ≤ Int32.ofNat i) := by
      rw [show (12288 : Int32) = Int32.ofNat 12288 from rfl, oi_le (by decide) (by omega)]; omega
    have hin : 0 ≤ (Int32.ofNat i).toInt ∧ (Int32.ofNat i).toInt < (12288 : Nat) := by rw [oi_int (by omega)]; omega
    have S : ∀ (q : Nat → (Nat → Int32) → Option mOut), kBS h kb (Int32.ofNat i) q = q 12288 g := by
      intro q; unfold kBS; rw [hcl]; simp only [if_pos hin]
    have n1' : kb ≠ m := cell_ne hcl hc (fun z => by cases z)
    have h8 := (cell_8 hcl).1
    obtain ⟨d1, d2⟩ := oi_divrem (a := i) (b := 6) (b' := 6) (by omega) (by decide) rfl
    have v01 : canG fr be i = 0 ∨ canG fr be i = 1 := by
      unfold canG
      by_cases z : qCan (fun _ => 0) fr be (Int32.ofNat (i / 6)) (Int32.ofNat (i % 6))
      · rw [if_pos z]; exact Or.inr rfl
      · rw [if_neg z]; exact Or.inl rfl
    rw [e90_137, e90_138, e90_141, if_neg n1, e90_144, e90_145, kF_eq hc hkb, e90_148, e90_149, e90_150, e90_151, e90_153 (by decide), d1, e90_154, e90_155, e90_157 (by decide), d1, show Int32.ofNat i - Int32.ofNat (i / 6) * 6 = Int32.ofNat (i % 6) by rw [← d1]; exact d2, e90_158 (kR_eq hc) (by simp [Value.category]), d_canDrive hc h8' h9 hb hbl hfr hbe]
    simp only [mAft, Option.toList_some, List.cons_append, List.nil_append]
    rw [show (@ite Int32 (qCan (fun _ => 0) fr be (Int32.ofNat (i / 6)) (Int32.ofNat (i % 6))) (Classical.propDecidable _) 1 0) = canG fr be i from rfl, e90_161 v01, S, oi_nat (by omega), e90_162, oi_succ, e90_165, IH (i + 1) _ _ l3 (by omega) hkbb ((cell_setne n1' h8).trans hc) ((cell_setne hkbb h8).trans hbl) (cell_set hcl), List.set_set, fillG_step (v := canG fr be) (by omega)]
theorem g_fields {fr be : Int32} (hfr : 0 ≤ fr.toInt ∧ fr.toInt ≤ 2) (hbe : 0 ≤ be.toInt ∧ be.toInt ≤ 2) {m bb cb kb : Nat} {fs : List Value} {g1 g2 : Nat → Int32} {h : List mCel} (h3 : fs[3]? = some (.int 0)) (h8' : fs[8]? = some (.int fr)) (h9 : fs[9]? = some (.int be)) (hb : fs[16]? = some (.ref bb)) (hcb : fs[17]? = some (.ref cb)) (hkb : fs[18]? = some (.ref kb)) (hkbb : kb ≠ bb)
    (hc : mCell h m = some (.inr (11, fs))) (hbl : mCell h bb = some (.inl (1, 256, .inl (fun _ => 0)))) (hcl : mCell h cb = some (.inl (0, 256, .inl g1))) (hkl : mCell h kb = some (.inl (1, 12288, .inl g2))) :
    mW (mRo L xs) mTab 90 0 [some (.ref m), none, none, none] [] h k = some (.inl (some (.int 0)), (h.set (cb - 8) (.inl (0, 256, .inl (fillG g1 0 256 (fun _ => 16))))).set (kb - 8) (.inl (1, 12288, .inl (fillG g2 0 12288 (canG fr be)))), k) := by
  obtain ⟨l3', B⟩ := dblk_loop (L := L) (xs := xs) (k := k) hc h3 hb hbl 256 0 none rfl
  have n1' : cb ≠ m := cell_ne hcl hc (fun z => by cases z)
  have n2' : cb ≠ bb := cell_ne hcl hbl (fun z => by simp at z)
  have n3' : cb ≠ kb := cell_ne hcl hkl (fun z => by simp at z)
  have h8 := (cell_8 hcl).1
  rw [e90_0, e90_1, e90_2, e90_3, show mW (mRo L xs) mTab 90 4 [some (.ref m), some (.int 0), some (.int 0), none] [] h k = _ from B, e90_102, e90_103, show (some (Value.int 0) : Option Value) = some (.int (Int32.ofNat 0)) from rfl]
  rw [show (some (Value.int (Int32.ofNat 0)) : Option Value) = some (.int 0) from rfl]
  rw [show mW (mRo L xs) mTab 90 104 [some (.ref m), some (.int 0), some (.int 0), l3'] [] h k = _ from dclr_loop hb hcb 256 0 g1 h l3' rfl hc hbl hcl, e90_135, e90_136]
  exact gcan_loop hfr hbe h8' h9 hb hkb 12288 0 g2 _ l3' rfl hkbb ((cell_setne n1' h8).trans hc) ((cell_setne n2' h8).trans hbl) ((cell_setne n3' h8).trans hkl)
end
section
variable {xs : Nat → Int32} {k : Nat} {h h1 h2 : List mCel} {fX fY fc fo fcl fcan : Nat → Int32}
theorem in02 {v : Int32} (h : 0 ≤ v ∧ v ≤ 2) : 0 ≤ v.toInt ∧ v.toInt ≤ 2 := by
  have h1 := Int32.le_iff_toInt_le.1 h.1
  have h2 := Int32.le_iff_toInt_le.1 h.2
  rw [show (0 : Int32).toInt = 0 from rfl] at h1
  rw [show (2 : Int32).toInt = 2 from rfl] at h2
  exact ⟨h1, h2⟩
theorem c_veh {a b : Int32} : ∃ h1, mW (mRo 8 xs) mTab 68 0 [some (.ref 8), some (.int a), some (.int b)] [] (hL fX fY fc fo fcl fcan) 0 = (if (0 ≤ a ∧ a ≤ 2) ∧ (0 ≤ b ∧ b ≤ 2) then some (.inl none, h1, 0) else some (.inr 0, hL fX fY fc fo fcl fcan, 1)) ∧ mKeep Pd (hL fX fY fc fo fcl fcan) h1 := by
  have c12 := cell_set (d := .inr (1, [.ref 13, .int 0, .ref 14, .ref 15, .ref 16, .int a, .int b])) (x12 (fX := fX) (fY := fY) (fc := fc) (fo := fo) (fcl := fcl) (fcan := fcan))
  have c14 := (cell_setne (d := .inr (1, [.ref 13, .int 0, .ref 14, .ref 15, .ref 16, .int a, .int b])) (show 12 ≠ 14 by decide) (by decide)).trans (x14 (fX := fX) (fY := fY) (fc := fc) (fo := fo) (fcl := fcl) (fcan := fcan))
  have c16 := (cell_setne (d := .inr (1, [.ref 13, .int 0, .ref 14, .ref 15, .ref 16, .int a, .int b])) (show 12 ≠ 16 by decide) (by decide)).trans (x16 (fX := fX) (fY := fY) (fc := fc) (fo := fo) (fcl := fcl) (fcan := fcan))
  refine ⟨((hL fX fY fc fo fcl fcan).set (12 - 8) (.inr (1, [.ref 13, .int 0, .ref 14, .ref 15, .ref 16, .int a, .int b]))).set (16 - 8) (.inl (1, 2048, .inl (fillG fo 0 2048 (fun j => pJudge (fun _ => 0) a b (Int32.ofNat j))))), ?_, keep_trans (keep_set (d := .inr (1, [.ref 13, .int 0, .ref 14, .ref 15, .ref 16, .int a, .int b])) x12 rfl (show Pd 12 by unfold Pd; decide)) (keep_set (d := .inl (1, 2048, .inl (fillG fo 0 2048 (fun j => pJudge (fun _ => 0) a b (Int32.ofNat j))))) c16 rfl (show Pd 16 by unfold Pd; decide))⟩
  rw [e68_0, e68_1, e68_2, e68_3 (by simp), c_isOutside]
  simp only [mAft, Option.toList_some, List.cons_append, List.nil_append]
  rw [e68_6]
  by_cases p1 : 0 ≤ a ∧ a ≤ 2
  · rw [pB_neg (fun z => out_in.1 z p1), if_neg (not_not_intro rfl), e68_9, e68_10, e68_11, e68_12 (by simp), c_isOutside]
    simp only [mAft, Option.toList_some, List.cons_append, List.nil_append]
    rw [e68_15]
    by_cases p2 : 0 ≤ b ∧ b ≤ 2
    · have i1 := in02 p1
      have i2 := in02 p2
      rw [pB_neg (fun z => out_in.1 z p2), if_pos rfl, if_pos ⟨p1, p2⟩, e68_28, e68_29, kF_eq x8 (v := .ref 12) rfl, e68_32, e68_33, e68_34 (kR_eq x12) (by simp)]
      rw [e22_0, e22_1, e22_2, kP_eq x12 (by decide), e22_5, e22_6, e22_7, kP_eq (cell_set x12) (by simp), List.set_set, show (([Value.ref 13, Value.int 0, Value.ref 14, Value.ref 15, Value.ref 16, Value.int 1, Value.int 1].set 5 (Value.int a)).set 6 (Value.int b)) = [Value.ref 13, Value.int 0, Value.ref 14, Value.ref 15, Value.ref 16, Value.int a, Value.int b] from rfl]
      rw [e22_10, e22_11 (kR_eq c12) (by simp), c_judge (f := fun _ => 0) (fr := a) (be := b) rfl rfl rfl rfl ⟨i1.1, by omega⟩ ⟨i2.1, by omega⟩ c12 c14 c16]
      simp only [mAft, Option.toList_none, List.nil_append]
      rw [e22_14]
      simp only [mAft, Option.toList_none, List.nil_append]
      rw [e68_37]
    · rw [pB_pos (out_in.2 p2), if_neg (by decide), if_neg (fun z => p2 z.2), e68_18 (by simp)]
  · rw [pB_pos (out_in.2 p1), if_pos (by decide), if_neg (fun z => p1 z.1), e68_18 (by simp)]
theorem v_and {a b : Int32} : mW (mRo 8 xs) mTab 141 1 [some (.ref 42), some (.int a), some (.int b), none] [.ref 42] h k = mW (mRo 8 xs) mTab 141 24 [some (.ref 42), some (.int a), some (.int b), none] [.int (pB ((0 ≤ a ∧ a ≤ 2) ∧ (0 ≤ b ∧ b ≤ 2))), .ref 42] h k := by
  rw [e141_1, e141_2, e141_3, e141_4 (by simp [Value.category]), d_in]
  simp only [mAft, Option.toList_some, List.cons_append, List.nil_append]
  rw [e141_7]
  by_cases p1 : 0 ≤ a ∧ a ≤ 2
  · rw [pB_pos p1, if_neg (by decide), e141_10, e141_11, e141_12, e141_13 (by simp [Value.category]), d_in]
    simp only [mAft, Option.toList_some, List.cons_append, List.nil_append]
    rw [e141_16]
    by_cases p2 : 0 ≤ b ∧ b ≤ 2
    · rw [pB_pos p2, if_neg (by decide), e141_19, e141_20, pB_pos ⟨p1, p2⟩]
    · rw [pB_neg p2, if_pos rfl, e141_23, pB_neg (fun z => p2 z.2)]
  · rw [pB_neg p1, if_pos rfl, e141_23, pB_neg (fun z => p1 z.1)]
theorem dx_4 {a b : Int32} (hc : ¬ ((0 ≤ a ∧ a ≤ 2) ∧ (0 ≤ b ∧ b ≤ 2))) (M : mCell h 42 = some (.inr (11, mFS 42))) : mW (mRo 8 xs) mTab 141 0 [some (.ref 42), some (.int a), some (.int b), none] [] h k = some (.inl none, h.set (42 - 8) (.inr (11, (mFS 42).set 45 (.int 1))), k) := by
  rw [e141_0, v_and, e141_24, e141_25, e141_26 (kR_eq M) (by simp), g_false M rfl hc]
  simp only [mAft, Option.toList_some, List.cons_append, List.nil_append]
  rw [e141_29, if_pos rfl, e141_47]
theorem dn_4 {a b : Int32} (hc : (0 ≤ a ∧ a ≤ 2) ∧ (0 ≤ b ∧ b ≤ 2)) (M : mCell h 42 = some (.inr (11, mFS 42))) (c49 : mCell h 49 = some (.inl (1, 256, .inl fun _ => 0))) (c50 : mCell h 50 = some (.inl (0, 256, .inl fcl))) (c51 : mCell h 51 = some (.inl (1, 12288, .inl fcan))) :
    ∃ h2 fs, mW (mRo 8 xs) mTab 141 0 [some (.ref 42), some (.int a), some (.int b), none] [] h k = some (.inl none, h2, k) ∧ mKeep Pm h h2 ∧ mCell h2 42 = some (.inr (11, fs)) ∧ fs[45]? = some (.int 0) := by
  have M1 := cell_set (d := .inr (11, (mFS 42).set 45 (.int 0))) M
  have M2 := cell_set (d := .inr (11, (((mFS 42).set 45 (.int 0)).set 8 (.int a)).set 9 (.int b))) M
  have T : ∀ x c, 42 < x → mCell h x = some c → mCell (h.set (42 - 8) (.inr (11, (((mFS 42).set 45 (.int 0)).set 8 (.int a)).set 9 (.int b)))) x = some c := fun x c hx hh => (cell_setne (by omega) (by decide)).trans hh
  have b50 := T 50 _ (by decide) c50
  have b51 := T 51 _ (by decide) c51
  have FL := g_fields (L := 8) (xs := xs) (k := k) (in02 hc.1) (in02 hc.2) (fs := (((mFS 42).set 45 (.int 0)).set 8 (.int a)).set 9 (.int b)) (bb := 49) (cb := 50) (kb := 51) rfl rfl rfl rfl rfl rfl (by decide) M2 (T 49 _ (by decide) c49) b50 b51
  have K1 : mKeep Pm _ _ := keep_set (d := .inr (11, (((mFS 42).set 45 (.int 0)).set 8 (.int a)).set 9 (.int b))) M rfl (show Pm 42 from ⟨by decide, by decide⟩)
  have K2 : mKeep Pm _ _ := keep_set (d := .inl (0, 256, .inl (fillG fcl 0 256 (fun _ => 16)))) b50 rfl (show Pm 50 from ⟨by decide, by decide⟩)
  have d51 := (cell_setne (d := .inl (0, 256, .inl (fillG fcl 0 256 (fun _ => 16)))) (show 50 ≠ 51 by decide) (by decide)).trans b51
  have K3 : mKeep Pm _ _ := keep_set (d := .inl (1, 12288, .inl (fillG fcan 0 12288 (canG a b)))) d51 rfl (show Pm 51 from ⟨by decide, by decide⟩)
  have M3 := (cell_setne (d := .inl (0, 256, .inl (fillG fcl 0 256 (fun _ => 16)))) (show 50 ≠ 42 by decide) (by decide)).trans M2
  have M4 := (cell_setne (d := .inl (1, 12288, .inl (fillG fcan 0 12288 (canG a b)))) (show 51 ≠ 42 by decide) (by decide)).trans M3
  refine ⟨_, _, ?_, keep_trans (keep_trans K1 K2) K3, M4, rfl⟩
  rw [e141_0, v_and, e141_24, e141_25, e141_26 (kR_eq M) (by simp), g_true M rfl hc]
  simp only [mAft, Option.toList_some, List.cons_append, List.nil_append]
  rw [e141_29, if_neg (by decide), e141_32, e141_33, e141_34, kP_eq M1 (by decide), List.set_set, e141_37, e141_38, e141_39, kP_eq (cell_set M) (by simp [mFS]), List.set_set, e141_42, e141_43 (kR_eq M2) (by simp), FL]
  simp only [mAft, Option.toList_some, List.cons_append, List.nil_append]
  rw [e141_46, e141_47]
theorem fin_4 : lawEnd xs 341 (hL fX fY fc fo fcl fcan) := by
  obtain ⟨h1, C1, C2⟩ := c_veh (xs := xs) (a := xs 1) (b := xs 2) (fX := fX) (fY := fY) (fc := fc) (fo := fo) (fcl := fcl) (fcan := fcan)
  by_cases z : (0 ≤ xs 1 ∧ xs 1 ≤ 2) ∧ (0 ≤ xs 2 ∧ xs 2 ≤ 2)
  · rw [if_pos z] at C1
    have T : ∀ x c, 42 ≤ x → mCell (hL fX fY fc fo fcl fcan) x = some c → mCell h1 x = some c := fun x c hx hh => (C2.2.2 x (by unfold Pd; omega)).trans hh
    obtain ⟨h2, fs, D1, D2, D3, D4⟩ := dn_4 (xs := xs) (k := 0) z (T 42 _ (by decide) x42) (T 49 _ (by decide) x49) (T 50 _ (by decide) x50) (T 51 _ (by decide) x51)
    obtain ⟨l7, E⟩ := lc_4 (hn_253 (kR_eq x8) C1) (T 42 _ (by decide) x42) D1 D3 D4
    exact end_of E (D2.1.trans C2.1) (D2.2.1.trans C2.2.1) (by decide)
  · rw [if_neg z] at C1
    obtain ⟨l7, E⟩ := lc_4 (hx_253_0 (kR_eq x8) C1) x42 (dx_4 z x42) (cell_set x42) rfl
    exact end_of E x_keep.1 x_keep.2.1 (by decide)
-- speed
theorem fin_23 : lawEnd xs 1834 (hL fX fY fc fo fcl fcan) := by
  have C : mW (mRo 8 xs) mTab 65 0 [some (.ref 8), some (.int (xs 1)), some (.int (xs 2)), none] [] (hL fX fY fc fo fcl fcan) 0 = some (.inr 2, hL fX fY fc fo fcl fcan, 1) := by
    rw [e65_0, e65_1, e65_2 (kR_eq x8) (by simp), c_reqPlan]
    rfl
  have D : mW (mRo 8 xs) mTab 131 0 [some (.ref 42), some (.int (xs 1)), some (.int (xs 2))] [] (hL fX fY fc fo fcl fcan) 1 = some (.inl (some (.float 0)), (hL fX fY fc fo fcl fcan).set (42 - 8) (.inr (11, (mFS 42).set 45 (.int 1))), 1) := by
    rw [e131_0, e131_1, e131_2, e131_3, e131_4, e131_5 (kR_eq x42) (by simp [Value.category]), d_isAt]
    simp only [mAft, Option.toList_some, List.cons_append, List.nil_append]
    rw [e131_8, e131_9, pB_F, pB_T, e131_10 (kR_eq x42) (by simp), d_goes x42 rfl]
    simp only [mAft, Option.toList_some, List.cons_append, List.nil_append]
    rw [e131_13, pB_neg (fun z => z.1), if_neg (not_not_intro rfl), e131_16, e131_17]
    rfl
  refine end_of (h2 := (hL fX fY fc fo fcl fcan).set (42 - 8) (.inr (11, (mFS 42).set 45 (.int 1)))) (x1 := 1) (l6 := some (.int 1)) (l7 := some (.float 0)) ?_ x_keep.1 x_keep.2.1 (by decide)
  rw [e240_1834, e240_1835, e240_1836, e240_1838, e240_1839, e240_1840, sc_1, e240_1841, e240_1842, e240_1844, e240_1845, e240_1846, sc_2, e240_1847, e240_1849 (by simp [Value.category]), hx_250_2 (kR_eq x8) C]
  simp only [mAft, Option.toList_some, List.cons_append, List.nil_append]
  rw [e240_1852, e240_1854, e240_1855, e240_1856, e240_1858, e240_1859, e240_1860, sc_1, e240_1861, e240_1862, e240_1864, e240_1865, e240_1866, sc_2, e240_1867 (kR_eq x42) (by simp [Value.category]), D]
  simp only [mAft, Option.toList_some, List.cons_append, List.nil_append]
  rw [e240_1870, e240_1872, e240_1873 (kR_eq (cell_set x42)) (by simp [Value.category]), d_thrown (cell_set x42) (v := 1) rfl]
  simp only [mAft, Option.toList_some, List.cons_append, List.nil_append]
  rw [e240_1876, e240_1878, if_pos rfl, e240_1883, e240_1885, if_pos (by decide), e240_1921]
end
