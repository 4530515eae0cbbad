section
variable {xs : Nat → Int32} {k : Nat} {h h1 h2 : List mCel} {fX fY fc fo fcl fcan : Nat → Int32}
def Pd (a : Nat) : Prop := a < 42
def wOut (h : List mCel) (v : Int64) : List mCel := h.set (62 - 8) (.inl (3, 1, .inr (.inl (vp_updL (fun _ => 0) 0 v))))
theorem out_0 (K : mKeep Pd (hL fX fY fc fo fcl fcan) h1) : mCell h1 62 = some (.inl (3, 1, .inr (.inl (fun _ => 0)))) := (K.2.2 62 (by unfold Pd; decide)).trans x62
theorem out_K (K : mKeep Pd (hL fX fY fc fo fcl fcan) h1) {v : Int64} : mKeep Pc (hL fX fY fc fo fcl fcan) (wOut h1 v) :=
  keep_trans (keep_mono K (fun x hx => Or.inl hx)) (keep_set (out_0 K) rfl (Or.inr (Nat.le_refl _)))
theorem out_c (K : mKeep Pd (hL fX fY fc fo fcl fcan) h1) {v : Int64} : mCell (wOut h1 v) 62 = some (.inl (3, 1, .inr (.inl (vp_updL (fun _ => 0) 0 v)))) := cell_set (out_0 K)
theorem m_of {a : Nat} {c : mCel} (K : mKeep Pc (hL fX fY fc fo fcl fcan) h1) (ha : 42 ≤ a ∧ a < 62) (hc : mCell (hL fX fY fc fo fcl fcan) a = some c) : mCell h1 a = some c := (K.2.2 a (by unfold Pc; omega)).trans hc
theorem fin_n {pc : Nat} {v : Int64} {l6 l7 : Option Value} (K : mKeep Pd (hL fX fY fc fo fcl fcan) h1) (K2 : mKeep Pm (wOut h1 v) h2) (E : mW (mRo 8 xs) mTab 240 pc [some (.ref 0), some (.ref 8), some (.ref 42), some (.ref 62), some (.ref 63), some (.int 0), none, none] [] (hL fX fY fc fo fcl fcan) 0 =
    mW (mRo 8 xs) mTab 240 1980 [some (.ref 0), some (.ref 8), some (.ref 42), some (.ref 62), some (.ref 63), some (.int 0), l6, l7] [] h2 0) : lawEnd xs pc (hL fX fY fc fo fcl fcan) := by
  have K3 := out_K K (v := v)
  exact end_of E (K2.1.trans K3.1) (K2.2.1.trans K3.2.1) (by decide)
theorem out_O (K : mKeep Pd (hL fX fY fc fo fcl fcan) h1) {v : Int64} (K2 : mKeep Pm (wOut h1 v) h2) (q : Int64 → Option mOut) : kLA h2 62 0 q = q v :=
  kLA_out ((K2.2.2 62 (fun z => absurd z.2 (by decide))).trans (out_c K))
theorem x_keep {v : Int32} : mKeep Pm (hL fX fY fc fo fcl fcan) ((hL fX fY fc fo fcl fcan).set (42 - 8) (.inr (11, (mFS 42).set 45 (.int v)))) := keep_set x42 rfl ⟨by decide, by decide⟩
/-- a call that is refused, with one exception -/
theorem fs_45 {fs : List Value} {v : Value} (hl : fs.length = 46) : (fs.set 45 v)[45]? = some v := List.getElem?_set_self (by omega)
theorem g_false {P1 : Prop} [Decidable P1] {fs : List Value} (hc : mCell h 42 = some (.inr (11, fs))) (hl : fs.length = 46) (hp : ¬ P1) : mW (mRo 8 xs) mTab 95 0 [some (.ref 42), some (.int (pB P1)), some (.int 1), some (.int 1)] [] h k = some (.inl (some (.int 0)), h.set (42 - 8) (.inr (11, fs.set 45 (.int 1))), k) := by
  have G := d_goes (L := 8) (xs := xs) (k := k) (P1 := P1) (P2 := True) (P3 := True) hc hl
  rw [pB_neg (fun z : P1 ∧ True ∧ True => hp z.1), show pB True = 1 from rfl] at G
  rw [G]; unfold qT; rw [if_neg hp]
theorem g_true {P1 : Prop} [Decidable P1] {fs : List Value} (hc : mCell h 42 = some (.inr (11, fs))) (hl : fs.length = 46) (hp : P1) : mW (mRo 8 xs) mTab 95 0 [some (.ref 42), some (.int (pB P1)), some (.int 1), some (.int 1)] [] h k = some (.inl (some (.int 1)), h.set (42 - 8) (.inr (11, fs.set 45 (.int 0))), k) := by
  have G := d_goes (L := 8) (xs := xs) (k := k) (P1 := P1) (P2 := True) (P3 := True) hc hl
  rw [pB_pos (show P1 ∧ True ∧ True from ⟨hp, trivial, trivial⟩), show pB True = 1 from rfl] at G
  rw [G]; unfold qT; rw [if_pos hp]; rfl
theorem g_keep {fs : List Value} {v : Int32} (hc : mCell h 42 = some (.inr (11, fs))) : mKeep Pm h (h.set (42 - 8) (.inr (11, fs.set 45 (.int v)))) := keep_set hc (by show (fs.set 45 _).length = fs.length; rw [List.length_set]) ⟨by decide, by decide⟩
-- cusp
theorem cx_5 {c : Int32} (hc : ¬ (0 ≤ c ∧ c ≤ 100)) : mW (mRo 8 xs) mTab 43 0 [some (.ref 8), some (.int c)] [] (hL fX fY fc fo fcl fcan) 0 = some (.inr 0, hL fX fY fc fo fcl fcan, 1) := by
  rw [e43_0, e43_1, e43_2, e43_4 (by simp), c_isOutside, pB_pos (out_in.2 hc)]
  simp only [mAft, Option.toList_some, List.cons_append, List.nil_append]
  rw [e43_7, if_neg (by decide), e43_10 (by simp)]
theorem cn_5 {c : Int32} (hc : 0 ≤ c ∧ c ≤ 100) : ∃ h1, mW (mRo 8 xs) mTab 43 0 [some (.ref 8), some (.int c)] [] (hL fX fY fc fo fcl fcan) 0 = some (.inl (some (.int 20)), h1, 0) ∧ mKeep Pd (hL fX fY fc fo fcl fcan) h1 := by
  refine ⟨_, ?_, keep_set x17 (d := .inr (4, [.ref 12, .int c, .int 0])) rfl (by unfold Pd; decide)⟩
  rw [e43_0, e43_1, e43_2, e43_4 (by simp), c_isOutside, pB_neg (fun z => out_in.1 z hc)]
  simp only [mAft, Option.toList_some, List.cons_append, List.nil_append]
  rw [e43_7, if_pos rfl, e43_20, e43_21, kF_eq x8 (v := .ref 17) rfl, e43_24, e43_25 (kR_eq x17) (by simp), e188_0, e188_1, kF_eq x17 (v := .int 20) rfl, e188_4, e188_5, e188_6, e188_7, kP_eq x17 (by decide), e188_10, e188_11]
  simp only [mAft, Option.toList_some, List.cons_append, List.nil_append]
  rw [e43_28]
  rfl
theorem dx_5 {c : Int32} (hc : ¬ (0 ≤ c ∧ c ≤ 100)) (M : mCell h 42 = some (.inr (11, mFS 42))) : mW (mRo 8 xs) mTab 84 0 [some (.ref 42), some (.int c), none] [] h k = some (.inl (some (.int 0)), h.set (42 - 8) (.inr (11, (mFS 42).set 45 (.int 1))), k) := by
  rw [e84_0, e84_1, e84_2, e84_3, e84_5 (by simp [Value.category]), d_in]
  simp only [mAft, Option.toList_some, List.cons_append, List.nil_append]
  rw [e84_8, e84_9, e84_10 (kR_eq M) (by simp), g_false M rfl hc]
  simp only [mAft, Option.toList_some, List.cons_append, List.nil_append]
  rw [e84_13, if_neg (not_not_intro rfl), e84_16, e84_17]
theorem dn_5 {c : Int32} (hc : 0 ≤ c ∧ c ≤ 100) (M : mCell h 42 = some (.inr (11, mFS 42))) : ∃ h2 fs, mW (mRo 8 xs) mTab 84 0 [some (.ref 42), some (.int c), none] [] h k = some (.inl (some (.int 20)), h2, k) ∧ mKeep Pm h h2 ∧ mCell h2 42 = some (.inr (11, fs)) ∧ fs[45]? = some (.int 0) := by
  have M2 := cell_set (d := .inr (11, (mFS 42).set 45 (.int 0))) M
  refine ⟨_, ((mFS 42).set 45 (.int 0)).set 10 (.int c), ?_, keep_trans (g_keep (v := 0) M) (keep_set (d := .inr (11, ((mFS 42).set 45 (.int 0)).set 10 (.int c))) M2 rfl ⟨by decide, by decide⟩), cell_set M2, rfl⟩
  rw [e84_0, e84_1, e84_2, e84_3, e84_5 (by simp [Value.category]), d_in]
  simp only [mAft, Option.toList_some, List.cons_append, List.nil_append]
  rw [e84_8, e84_9, e84_10 (kR_eq M) (by simp), g_true M rfl hc]
  simp only [mAft, Option.toList_some, List.cons_append, List.nil_append]
  rw [e84_13, if_pos (by decide), e84_18, e84_19, kF_eq M2 (v := .int 20) rfl, e84_22, e84_23, e84_24, e84_25, kP_eq M2 (by decide), e84_28, e84_29]
theorem fin_5 : lawEnd xs 389 (hL fX fY fc fo fcl fcan) := by
  by_cases z : 0 ≤ xs 1 ∧ xs 1 ≤ 100
  · obtain ⟨h1, C1, C2⟩ := cn_5 (xs := xs) (fX := fX) (fY := fY) (fc := fc) (fo := fo) (fcl := fcl) (fcan := fcan) z
    have M := m_of (out_K C2 (v := (20 : Int32).toInt64)) ⟨Nat.le_refl _, by decide⟩ x42
    obtain ⟨h2, fs, D1, D2, D3, D4⟩ := dn_5 (xs := xs) (k := 0) z M
    obtain ⟨l7, E⟩ := lc_5 (hn_235 (kR_eq x8) C1 (out_0 C2)) M D1 D3 D4 (fun _ => out_O C2 D2)
    exact fin_n C2 D2 E
  · obtain ⟨l7, E⟩ := lc_5 (hx_235_0 (kR_eq x8) (cx_5 z)) x42 (dx_5 z x42) (cell_set x42) rfl (fun z => absurd z (by decide))
    exact end_of E x_keep.1 x_keep.2.1 (by decide)
-- margin
theorem cx_6 {c : Int32} (hc : ¬ (0 ≤ c ∧ c ≤ 5)) : mW (mRo 8 xs) mTab 51 0 [some (.ref 8), some (.int c)] [] (hL fX fY fc fo fcl fcan) 0 = some (.inr 0, hL fX fY fc fo fcl fcan, 1) := by
  rw [e51_0, e51_1, e51_2, e51_3 (by simp), c_isOutside, pB_pos (out_in.2 hc)]
  simp only [mAft, Option.toList_some, List.cons_append, List.nil_append]
  rw [e51_6, if_neg (by decide), e51_9 (by simp)]
theorem cn_6 {c : Int32} (hc : 0 ≤ c ∧ c ≤ 5) : ∃ h1, mW (mRo 8 xs) mTab 51 0 [some (.ref 8), some (.int c)] [] (hL fX fY fc fo fcl fcan) 0 = some (.inl (some (.int 0)), h1, 0) ∧ mKeep Pd (hL fX fY fc fo fcl fcan) h1 := by
  refine ⟨_, ?_, keep_set x17 (d := .inr (4, [.ref 12, .int 20, .int c])) rfl (by unfold Pd; decide)⟩
  rw [e51_0, e51_1, e51_2, e51_3 (by simp), c_isOutside, pB_neg (fun z => out_in.1 z hc)]
  simp only [mAft, Option.toList_some, List.cons_append, List.nil_append]
  rw [e51_6, if_pos rfl, e51_19, e51_20, kF_eq x8 (v := .ref 17) rfl, e51_23, e51_24 (kR_eq x17) (by simp), e189_0, e189_1, kF_eq x17 (v := .int 0) rfl, e189_4, e189_5, e189_6, e189_7, kP_eq x17 (by decide), e189_10, e189_11]
  simp only [mAft, Option.toList_some, List.cons_append, List.nil_append]
  rw [e51_27]
  rfl
theorem dx_6 {c : Int32} (hc : ¬ (0 ≤ c ∧ c ≤ 5)) (M : mCell h 42 = some (.inr (11, mFS 42))) : mW (mRo 8 xs) mTab 117 0 [some (.ref 42), some (.int c), none] [] h k = some (.inl (some (.int 0)), h.set (42 - 8) (.inr (11, (mFS 42).set 45 (.int 1))), k) := by
  rw [e117_0, e117_1, e117_2, e117_3, e117_4 (by simp [Value.category]), d_in]
  simp only [mAft, Option.toList_some, List.cons_append, List.nil_append]
  rw [e117_7, e117_8, e117_9 (kR_eq M) (by simp), g_false M rfl hc]
  simp only [mAft, Option.toList_some, List.cons_append, List.nil_append]
  rw [e117_12, if_neg (not_not_intro rfl), e117_15, e117_16]
theorem dn_6 {c : Int32} (hc : 0 ≤ c ∧ c ≤ 5) (M : mCell h 42 = some (.inr (11, mFS 42))) : ∃ h2 fs, mW (mRo 8 xs) mTab 117 0 [some (.ref 42), some (.int c), none] [] h k = some (.inl (some (.int 0)), h2, k) ∧ mKeep Pm h h2 ∧ mCell h2 42 = some (.inr (11, fs)) ∧ fs[45]? = some (.int 0) := by
  have M2 := cell_set (d := .inr (11, (mFS 42).set 45 (.int 0))) M
  refine ⟨_, ((mFS 42).set 45 (.int 0)).set 11 (.int c), ?_, keep_trans (g_keep (v := 0) M) (keep_set (d := .inr (11, ((mFS 42).set 45 (.int 0)).set 11 (.int c))) M2 rfl ⟨by decide, by decide⟩), cell_set M2, rfl⟩
  rw [e117_0, e117_1, e117_2, e117_3, e117_4 (by simp [Value.category]), d_in]
  simp only [mAft, Option.toList_some, List.cons_append, List.nil_append]
  rw [e117_7, e117_8, e117_9 (kR_eq M) (by simp), g_true M rfl hc]
  simp only [mAft, Option.toList_some, List.cons_append, List.nil_append]
  rw [e117_12, if_pos (by decide), e117_17, e117_18, kF_eq M2 (v := .int 0) rfl, e117_21, e117_22, e117_23, e117_24, kP_eq M2 (by decide), e117_27, e117_28]
theorem fin_6 : lawEnd xs 445 (hL fX fY fc fo fcl fcan) := by
  by_cases z : 0 ≤ xs 1 ∧ xs 1 ≤ 5
  · obtain ⟨h1, C1, C2⟩ := cn_6 (xs := xs) (fX := fX) (fY := fY) (fc := fc) (fo := fo) (fcl := fcl) (fcan := fcan) z
    have M := m_of (out_K C2 (v := (0 : Int32).toInt64)) ⟨Nat.le_refl _, by decide⟩ x42
    obtain ⟨h2, fs, D1, D2, D3, D4⟩ := dn_6 (xs := xs) (k := 0) z M
    obtain ⟨l7, E⟩ := lc_6 (hn_241 (kR_eq x8) C1 (out_0 C2)) M D1 D3 D4 (fun _ => out_O C2 D2)
    exact fin_n C2 D2 E
  · obtain ⟨l7, E⟩ := lc_6 (hx_241_0 (kR_eq x8) (cx_6 z)) x42 (dx_6 z x42) (cell_set x42) rfl (fun z => absurd z (by decide))
    exact end_of E x_keep.1 x_keep.2.1 (by decide)
end
