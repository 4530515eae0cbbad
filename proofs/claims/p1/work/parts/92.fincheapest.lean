section
variable {xs : Nat → Int32} {k : Nat} {h h1 h2 : List mCel} {fX fY fc fo fcl fcan : Nat → Int32}
theorem d_are {a1 a2 a3 a4 a5 a6 : Int32} : mW (mRo 8 xs) mTab 71 0 [some (.int a1), some (.int a2), some (.int a3), some (.int a4), some (.int a5), some (.int a6)] [] h k = some (.inl (some (.int (pB ((((0 ≤ a1 ∧ a1 ≤ 15) ∧ 0 ≤ a2 ∧ a2 ≤ 15) ∧ 0 ≤ a3 ∧ a3 ≤ 7) ∧ (((0 ≤ a4 ∧ a4 ≤ 15) ∧ 0 ≤ a5 ∧ a5 ≤ 15) ∧ 0 ≤ a6 ∧ a6 ≤ 7))))), h, k) := by
  rw [e71_0, e71_1, e71_2, e71_3 (by simp), d_isPose]
  simp only [mAft, Option.toList_some, List.cons_append, List.nil_append]
  rw [e71_6]
  by_cases a : ((0 ≤ a1 ∧ a1 ≤ 15) ∧ 0 ≤ a2 ∧ a2 ≤ 15) ∧ 0 ≤ a3 ∧ a3 ≤ 7
  · rw [pB_pos a, if_neg (by decide), e71_9, e71_10, e71_12, e71_14 (by simp), d_isPose]
    simp only [mAft, Option.toList_some, List.cons_append, List.nil_append]
    rw [e71_17]
    by_cases b : ((0 ≤ a4 ∧ a4 ≤ 15) ∧ 0 ≤ a5 ∧ a5 ≤ 15) ∧ 0 ≤ a6 ∧ a6 ≤ 7
    · rw [pB_pos b, if_neg (by decide), e71_20, e71_21, e71_25 (Or.inr rfl), pB_pos ⟨a, b⟩]
    · rw [pB_neg b, if_pos rfl, e71_24, e71_25 (Or.inl rfl), pB_neg (fun z => b z.2)]
  · rw [pB_neg a, if_pos rfl, e71_24, e71_25 (Or.inl rfl), pB_neg (fun z => a z.1)]
theorem cx_11 {a1 a2 a3 a4 a5 a6 rv : Int32} (hc : pNum a1 a2 a3 = -1 ∨ pNum a4 a5 a6 = -1) : mW (mRo 8 xs) mTab 39 0 [some (.ref 8), some (.int a1), some (.int a2), some (.int a3), some (.int a4), some (.int a5), some (.int a6), some (.int rv), none, none] [] (hL fX fY fc fo fcl fcan) 0 = some (.inr 2, hL fX fY fc fo fcl fcan, 1) := by
  rw [e39_0, e39_1, e39_2, e39_3 (by simp), c_reqPose]
  by_cases a : pNum a1 a2 a3 = -1
  · rw [if_pos a]; rfl
  · rw [if_neg a]
    simp only [mAft, Option.toList_some, List.cons_append, List.nil_append]
    rw [e39_6, e39_8, e39_10, e39_12, e39_14 (by simp), c_reqPose, if_pos (hc.resolve_left a)]
    rfl
theorem cx_12 {a1 a2 a3 a4 a5 a6 rv : Int32} (hc : pNum a1 a2 a3 = -1 ∨ pNum a4 a5 a6 = -1) : mW (mRo 8 xs) mTab 40 0 [some (.ref 8), some (.int a1), some (.int a2), some (.int a3), some (.int a4), some (.int a5), some (.int a6), some (.int rv), none, none] [] (hL fX fY fc fo fcl fcan) 0 = some (.inr 2, hL fX fY fc fo fcl fcan, 1) := by
  rw [e40_0, e40_1, e40_2, e40_3 (by simp), c_reqPose]
  by_cases a : pNum a1 a2 a3 = -1
  · rw [if_pos a]; rfl
  · rw [if_neg a]
    simp only [mAft, Option.toList_some, List.cons_append, List.nil_append]
    rw [e40_6, e40_8, e40_10, e40_12, e40_14 (by simp), c_reqPose, if_pos (hc.resolve_left a)]
    rfl
theorem c_fromEnd {p q rv v : Nat} (E : mW (mRo 8 xs) mTab 225 0 [some (.ref 18), some (.int (Int32.ofNat q)), some (.int (Int32.ofNat p)), some (.int (Int32.ofNat rv)), some (.int (Int32.ofNat 1)), none, none, none, none] [] (hL fX fY fc fo fcl fcan) 0 = some (.inl (some (.int (qDec 1 v))), h1, 0)) :
    mW (mRo 8 xs) mTab 221 0 [some (.ref 18), some (.int (Int32.ofNat p)), some (.int (Int32.ofNat q)), some (.int (Int32.ofNat rv))] [] (hL fX fY fc fo fcl fcan) 0 = some (.inl (some (.int (qDec 1 v))), h1, 0) := by
  rw [e221_0, e221_1, e221_2, e221_3, e221_4, e221_5 (kR_eq x18) (by simp), show (1 : Int32) = Int32.ofNat 1 from rfl, E]
  simp only [mAft, Option.toList_some, List.cons_append, List.nil_append]
  rw [e221_8]
theorem cn_11 {a1 a2 a3 a4 a5 a6 : Int32} {p q rv v : Nat} (e1 : pNum a1 a2 a3 = Int32.ofNat p) (n1 : ¬ pNum a1 a2 a3 = -1) (e2 : pNum a4 a5 a6 = Int32.ofNat q) (n2 : ¬ pNum a4 a5 a6 = -1)
    (E : mW (mRo 8 xs) mTab 225 0 [some (.ref 18), some (.int (Int32.ofNat q)), some (.int (Int32.ofNat p)), some (.int (Int32.ofNat rv)), some (.int (Int32.ofNat 1)), none, none, none, none] [] (hL fX fY fc fo fcl fcan) 0 = some (.inl (some (.int (qDec 1 v))), h1, 0)) :
    mW (mRo 8 xs) mTab 39 0 [some (.ref 8), some (.int a1), some (.int a2), some (.int a3), some (.int a4), some (.int a5), some (.int a6), some (.int (Int32.ofNat rv)), none, none] [] (hL fX fY fc fo fcl fcan) 0 = some (.inl (some (.int (qDec 1 v))), h1, 0) := by
  rw [e39_0, e39_1, e39_2, e39_3 (by simp), c_reqPose, if_neg n1, e1]
  simp only [mAft, Option.toList_some, List.cons_append, List.nil_append]
  rw [e39_6, e39_8, e39_10, e39_12, e39_14 (by simp), c_reqPose, if_neg n2, e2]
  simp only [mAft, Option.toList_some, List.cons_append, List.nil_append]
  rw [e39_17, e39_19, e39_20, kF_eq x8 (v := .ref 18) rfl, e39_23, e39_25, e39_27, e39_29 (kR_eq x18) (by simp), c_fromEnd E]
  simp only [mAft, Option.toList_some, List.cons_append, List.nil_append]
  rw [e39_32]
theorem cn_12 {a1 a2 a3 a4 a5 a6 : Int32} {p q rv v : Nat} (e1 : pNum a1 a2 a3 = Int32.ofNat p) (n1 : ¬ pNum a1 a2 a3 = -1) (e2 : pNum a4 a5 a6 = Int32.ofNat q) (n2 : ¬ pNum a4 a5 a6 = -1)
    (E : mW (mRo 8 xs) mTab 225 0 [some (.ref 18), some (.int (Int32.ofNat p)), some (.int (Int32.ofNat q)), some (.int (Int32.ofNat rv)), some (.int (Int32.ofNat 0)), none, none, none, none] [] (hL fX fY fc fo fcl fcan) 0 = some (.inl (some (.int (qDec 1 v))), h1, 0)) :
    mW (mRo 8 xs) mTab 40 0 [some (.ref 8), some (.int a1), some (.int a2), some (.int a3), some (.int a4), some (.int a5), some (.int a6), some (.int (Int32.ofNat rv)), none, none] [] (hL fX fY fc fo fcl fcan) 0 = some (.inl (some (.int (qDec 1 v))), h1, 0) := by
  rw [e40_0, e40_1, e40_2, e40_3 (by simp), c_reqPose, if_neg n1, e1]
  simp only [mAft, Option.toList_some, List.cons_append, List.nil_append]
  rw [e40_6, e40_8, e40_10, e40_12, e40_14 (by simp), c_reqPose, if_neg n2, e2]
  simp only [mAft, Option.toList_some, List.cons_append, List.nil_append]
  rw [e40_17, e40_19, e40_20, kF_eq x8 (v := .ref 18) rfl, e40_23, e40_25, e40_27, e40_29 (kR_eq x18) (by simp), e222_0, e222_1, e222_2, e222_3, e222_4, e222_5 (kR_eq x18) (by simp), show (0 : Int32) = Int32.ofNat 0 from rfl, E]
  simp only [mAft, Option.toList_some, List.cons_append, List.nil_append]
  rw [e222_8]
  simp only [mAft, Option.toList_some, List.cons_append, List.nil_append]
  rw [e40_32]
theorem dx_11 {a1 a2 a3 a4 a5 a6 rv : Int32} (hc : ¬ ((((0 ≤ a1 ∧ a1 ≤ 15) ∧ 0 ≤ a2 ∧ a2 ≤ 15) ∧ 0 ≤ a3 ∧ a3 ≤ 7) ∧ (((0 ≤ a4 ∧ a4 ≤ 15) ∧ 0 ≤ a5 ∧ a5 ≤ 15) ∧ 0 ≤ a6 ∧ a6 ≤ 7))) (M : mCell h 42 = some (.inr (11, mFS 42))) :
    mW (mRo 8 xs) mTab 77 0 [some (.ref 42), some (.int a1), some (.int a2), some (.int a3), some (.int a4), some (.int a5), some (.int a6), some (.int rv)] [] h k = some (.inl (some (.int 0)), h.set (42 - 8) (.inr (11, (mFS 42).set 45 (.int 1))), k) := by
  rw [e77_0, e77_1, e77_2, e77_3, e77_4, e77_6, e77_8, e77_10 (by simp [Value.category]), d_are]
  simp only [mAft, Option.toList_some, List.cons_append, List.nil_append]
  rw [e77_13, e77_14, e77_15 (kR_eq M) (by simp), g_false M rfl hc]
  simp only [mAft, Option.toList_some, List.cons_append, List.nil_append]
  rw [e77_18, if_neg (not_not_intro rfl), e77_21, e77_22]
theorem dn_11 {a1 a2 a3 a4 a5 a6 : Int32} {p q rv : Nat} {b : Int32} (hrv : rv < 2) (hc : (((0 ≤ a1 ∧ a1 ≤ 15) ∧ 0 ≤ a2 ∧ a2 ≤ 15) ∧ 0 ≤ a3 ∧ a3 ≤ 7) ∧ (((0 ≤ a4 ∧ a4 ≤ 15) ∧ 0 ≤ a5 ∧ a5 ≤ 15) ∧ 0 ≤ a6 ∧ a6 ≤ 7)) (e1 : 256 * a3 + 16 * a2 + a1 = Int32.ofNat p) (e2 : 256 * a6 + 16 * a5 + a4 = Int32.ofNat q) (M : mCell h 42 = some (.inr (11, mFS 42)))
    (E : mW (mRo 8 xs) mTab 142 0 [some (.ref 42), some (.int (Int32.ofNat p)), some (.int (Int32.ofNat q)), some (.int (Int32.ofNat (3 + 3 * rv))), none] [] (h.set (42 - 8) (.inr (11, (mFS 42).set 45 (.int 0)))) k = some (.inl (some (.int b)), h2, k)) :
    mW (mRo 8 xs) mTab 77 0 [some (.ref 42), some (.int a1), some (.int a2), some (.int a3), some (.int a4), some (.int a5), some (.int a6), some (.int (Int32.ofNat rv))] [] h k = some (.inl (some (.int b)), h2, k) := by
  have M2 := cell_set (d := .inr (11, (mFS 42).set 45 (.int 0))) M
  rw [e77_0, e77_1, e77_2, e77_3, e77_4, e77_6, e77_8, e77_10 (by simp [Value.category]), d_are]
  simp only [mAft, Option.toList_some, List.cons_append, List.nil_append]
  rw [e77_13, e77_14, e77_15 (kR_eq M) (by simp), g_true M rfl hc]
  simp only [mAft, Option.toList_some, List.cons_append, List.nil_append]
  rw [e77_18, if_pos (by decide), e77_23, e77_24, e77_25, e77_26, e77_27 (by simp [Value.category]), d_poseAt, e1]
  simp only [mAft, Option.toList_some, List.cons_append, List.nil_append]
  rw [e77_30, e77_32, e77_34, e77_36 (by simp [Value.category]), d_poseAt, e2]
  simp only [mAft, Option.toList_some, List.cons_append, List.nil_append]
  rw [e77_39, e77_41]
  obtain rfl | rfl : rv = 0 ∨ rv = 1 := by omega
  · rw [if_pos (by decide), e77_49, show (3 : Int32) = Int32.ofNat (3 + 3 * 0) from rfl, e77_50 (kR_eq M2) (by simp), E]
    simp only [mAft, Option.toList_some, List.cons_append, List.nil_append]
    rw [e77_53]
  · rw [if_neg (by decide), e77_44, e77_46, show (6 : Int32) = Int32.ofNat (3 + 3 * 1) from rfl, e77_50 (kR_eq M2) (by simp), E]
    simp only [mAft, Option.toList_some, List.cons_append, List.nil_append]
    rw [e77_53]
/-- the reference's search behind a call of the class that leaves the reference's cells -/
theorem d_behind {p q rv : Nat} {v : Int64} (hc : p1Can fcan) (h16 : all16 fcl) (hrv : rv < 2) (hp : p < 2048) (hq : q < 2048) (K : mKeep Pd (hL fX fY fc fo fcl fcan) h1) :
    ∃ h2 r fs, mW (mRo 8 xs) mTab 142 0 [some (.ref 42), some (.int (Int32.ofNat p)), some (.int (Int32.ofNat q)), some (.int (Int32.ofNat (3 + 3 * rv))), none] [] ((wOut h1 v).set (42 - 8) (.inr (11, (mFS 42).set 45 (.int 0)))) 0 = some (.inl (some (.int (qDec 1 r))), h2, 0) ∧ mKeep Pm (wOut h1 v) h2 ∧ mCell h2 42 = some (.inr (11, fs)) ∧ fs[45]? = some (.int 0) ∧
      rLeast (rAdj enN canN wtF 20 rv) (seedS q 1) (goalS p) r := by
  have KO := out_K K (v := v)
  have M := m_of KO ⟨Nat.le_refl _, by decide⟩ x42
  have M2 := cell_set (d := .inr (11, (mFS 42).set 45 (.int 0))) M
  have T : ∀ a c, 42 < a → a < 62 → mCell (hL fX fY fc fo fcl fcan) a = some c → mCell ((wOut h1 v).set (42 - 8) (.inr (11, (mFS 42).set 45 (.int 0)))) a = some c := fun a c h1 h2 h3 => (cell_setne (by omega) (by decide)).trans (m_of KO ⟨by omega, h2⟩ h3)
  obtain ⟨h2, r, D1, D2, ⟨M', D3, D4, D5⟩, D6⟩ := d_search (xs := xs) (k := 0) hc h16 hrv hp hq M2 (T 50 _ (by decide) (by decide) x50) (T 51 _ (by decide) (by decide) x51) (T 52 _ (by decide) (by decide) x52) (T 53 _ (by decide) (by decide) x53) (T 54 _ (by decide) (by decide) x54)
  refine ⟨h2, r, _, D1, keep_trans (g_keep (v := 0) M) (keep_mono D2 (fun x hx => rad_Pm hx)), D3.2.1, ?_, D6⟩
  rw [rfs_get (by decide) (by decide)]
  exact fs_45 rfl
theorem fin_11 (hf : ∀ j, j < 2048 → fo j = p1Fo j) (h16 : all16 fc) (h16' : all16 fcl) (hcan : p1Can fcan) : lawEnd xs 830 (hL fX fY fc fo fcl fcan) := by
  rcases pose_cases (xs 1) (xs 2) (xs 3) with ⟨z, p, hp, e1, n1, _, _, _, f1⟩ | ⟨z, n1⟩
  · rcases pose_cases (xs 4) (xs 5) (xs 6) with ⟨y, q, hq, e2, n2, _, _, _, f2⟩ | ⟨y, n2⟩
    · have key : ∀ rv, rv < 2 → (xs 7 = 0 → Int32.ofNat rv = 0) → (xs 7 ≠ 0 → Int32.ofNat rv = 1) → lawEnd xs 830 (hL fX fY fc fo fcl fcan) := by
        intro rv hrv hz0 hz1
        obtain ⟨h1, r1, C1, C2, C3, C4, C5⟩ := c_search (xs := xs) (k := 0) (fX := fX) (fY := fY) (fcl := fcl) (fcan := fcan) (rv := rv) (fe := 1) hf h16 hrv (by decide) hq hp
        obtain ⟨h2, r2, fs, D1, D2, D3, D4, D5⟩ := d_behind (xs := xs) (rv := rv) (v := (qDec 1 r1).toInt64) hcan h16' hrv hp hq C2
        have M := m_of (out_K C2 (v := (qDec 1 r1).toInt64)) ⟨Nat.le_refl _, by decide⟩ x42
        have er : r1 = r2 := by
          by_cases o : q = p ∨ (opN q = true ∧ opN p = true)
          · exact same_end geo_N geo_B geo_K geo_L geo_S hrv hq (C5 o) D5
          · rw [C4 ⟨fun w => o (Or.inl w), fun w => o (Or.inr w)⟩, none_of hrv hq D5 ⟨fun w => o (Or.inl w.symm), fun w => o (Or.inr ⟨w.2, w.1⟩)⟩]
        subst er
        obtain ⟨l7, E⟩ := lc_11 hz0 hz1 (hn_231 (kR_eq x8) (cn_11 e1 n1 e2 n2 C1) (out_0 C2)) M (dn_11 hrv ⟨z, y⟩ f1 f2 M D1) D3 D4 (fun _ => out_O C2 D2)
        exact fin_n C2 D2 E
      by_cases w : xs 7 = 0
      · exact key 0 (by decide) (fun _ => rfl) (fun u => absurd w u)
      · exact key 1 (by decide) (fun u => absurd u w) (fun _ => rfl)
    · obtain ⟨l7, E⟩ := lc_11 (rv := if xs 7 = 0 then 0 else 1) (fun w => if_pos w) (fun w => if_neg w) (hx_231_2 (kR_eq x8) (cx_11 (Or.inr n2))) x42 (dx_11 (fun w => y w.2) x42) (cell_set x42) rfl (fun z => absurd z (by decide))
      exact end_of E x_keep.1 x_keep.2.1 (by decide)
  · obtain ⟨l7, E⟩ := lc_11 (rv := if xs 7 = 0 then 0 else 1) (fun w => if_pos w) (fun w => if_neg w) (hx_231_2 (kR_eq x8) (cx_11 (Or.inl n1))) x42 (dx_11 (fun w => z w.1) x42) (cell_set x42) rfl (fun z => absurd z (by decide))
    exact end_of E x_keep.1 x_keep.2.1 (by decide)
theorem d_anew {a1 a2 a3 a4 a5 a6 rv b : Int32} {fs : List Value} (E : mW (mRo 8 xs) mTab 77 0 [some (.ref 42), some (.int a1), some (.int a2), some (.int a3), some (.int a4), some (.int a5), some (.int a6), some (.int rv)] [] h k = some (.inl (some (.int b)), h2, k)) (M : mCell h 42 = some (.inr (11, fs))) :
    mW (mRo 8 xs) mTab 78 0 [some (.ref 42), some (.int a1), some (.int a2), some (.int a3), some (.int a4), some (.int a5), some (.int a6), some (.int rv)] [] h k = some (.inl (some (.int b)), h2, k) := by
  rw [e78_0, e78_1, e78_2, e78_3, e78_4, e78_6, e78_8, e78_10, e78_12 (kR_eq M) (by simp), E]
  simp only [mAft, Option.toList_some, List.cons_append, List.nil_append]
  rw [e78_15]
theorem fin_12 (hf : ∀ j, j < 2048 → fo j = p1Fo j) (h16 : all16 fc) (h16' : all16 fcl) (hcan : p1Can fcan) : lawEnd xs 978 (hL fX fY fc fo fcl fcan) := by
  rcases pose_cases (xs 1) (xs 2) (xs 3) with ⟨z, p, hp, e1, n1, _, _, _, f1⟩ | ⟨z, n1⟩
  · rcases pose_cases (xs 4) (xs 5) (xs 6) with ⟨y, q, hq, e2, n2, _, _, _, f2⟩ | ⟨y, n2⟩
    · have key : ∀ rv, rv < 2 → (xs 7 = 0 → Int32.ofNat rv = 0) → (xs 7 ≠ 0 → Int32.ofNat rv = 1) → lawEnd xs 978 (hL fX fY fc fo fcl fcan) := by
        intro rv hrv hz0 hz1
        obtain ⟨h1, r1, C1, C2, C3, C4, C5⟩ := c_search (xs := xs) (k := 0) (fX := fX) (fY := fY) (fcl := fcl) (fcan := fcan) (rv := rv) (fe := 0) hf h16 hrv (by decide) hp hq
        obtain ⟨h2, r2, fs, D1, D2, D3, D4, D5⟩ := d_behind (xs := xs) (rv := rv) (v := (qDec 1 r1).toInt64) hcan h16' hrv hp hq C2
        have M := m_of (out_K C2 (v := (qDec 1 r1).toInt64)) ⟨Nat.le_refl _, by decide⟩ x42
        have er : r1 = r2 := by
          by_cases o : p = q ∨ (opN p = true ∧ opN q = true)
          · exact same_start geo_N geo_B geo_K geo_L hrv hp hq (C5 o) D5
          · rw [C4 ⟨fun w => o (Or.inl w), fun w => o (Or.inr w)⟩, none_of hrv hq D5 ⟨fun w => o (Or.inl w), fun w => o (Or.inr w)⟩]
        subst er
        obtain ⟨l7, E⟩ := lc_12 hz0 hz1 (hn_232 (kR_eq x8) (cn_12 e1 n1 e2 n2 C1) (out_0 C2)) M (d_anew (dn_11 hrv ⟨z, y⟩ f1 f2 M D1) M) D3 D4 (fun _ => out_O C2 D2)
        exact fin_n C2 D2 E
      by_cases w : xs 7 = 0
      · exact key 0 (by decide) (fun _ => rfl) (fun u => absurd w u)
      · exact key 1 (by decide) (fun u => absurd u w) (fun _ => rfl)
    · obtain ⟨l7, E⟩ := lc_12 (rv := if xs 7 = 0 then 0 else 1) (fun w => if_pos w) (fun w => if_neg w) (hx_232_2 (kR_eq x8) (cx_12 (Or.inr n2))) x42 (d_anew (dx_11 (fun w => y w.2) x42) x42) (cell_set x42) rfl (fun z => absurd z (by decide))
      exact end_of E x_keep.1 x_keep.2.1 (by decide)
  · obtain ⟨l7, E⟩ := lc_12 (rv := if xs 7 = 0 then 0 else 1) (fun w => if_pos w) (fun w => if_neg w) (hx_232_2 (kR_eq x8) (cx_12 (Or.inl n1))) x42 (d_anew (dx_11 (fun w => z w.1) x42) x42) (cell_set x42) rfl (fun z => absurd z (by decide))
    exact end_of E x_keep.1 x_keep.2.1 (by decide)
end
