section
variable {xs : Nat → Int32} {k : Nat} {h h1 h2 : List mCel} {fX fY fc fo fcl fcan : Nat → Int32}
theorem cx_9 {a1 a2 a3 a4 a5 a6 : Int32} (hc : pNum a1 a2 a3 = -1 ∨ pNum a4 a5 a6 = -1) : mW (mRo 8 xs) mTab 69 0 [some (.ref 8), some (.int a1), some (.int a2), some (.int a3), some (.int a4), some (.int a5), some (.int a6), none, none] [] (hL fX fY fc fo fcl fcan) 0 = some (.inr 2, hL fX fY fc fo fcl fcan, 1) := by
  rw [e69_0, e69_1, e69_2, e69_3 (by simp), c_reqPose]
  by_cases a : pNum a1 a2 a3 = -1
  · rw [if_pos a]; rfl
  · rw [if_neg a]
    simp only [mAft, Option.toList_some, List.cons_append, List.nil_append]
    rw [e69_6, e69_8, e69_10, e69_12, e69_14 (by simp), c_reqPose, if_pos (hc.resolve_left a)]
    rfl
def wordN (p q : Nat) : wS := wF (q / 256) (Int32.ofNat (q % 16) - Int32.ofNat (p % 16)) (Int32.ofNat (q / 16 % 16) - Int32.ofNat (p / 16 % 16)) (p / 256) 6 0 (536870912, 0, 0, 0, 0)
theorem cn_9 {a1 a2 a3 a4 a5 a6 : Int32} {p q : Nat} (ok : ∀ g kk, g < 8 → (kk = 1 ∨ kk = 2) → arcOk fX fY g kk) (hp : p < 2048) (hq : q < 2048) (e1 : pNum a1 a2 a3 = Int32.ofNat p) (n1 : ¬ pNum a1 a2 a3 = -1) (e2 : pNum a4 a5 a6 = Int32.ofNat q) (n2 : ¬ pNum a4 a5 a6 = -1) :
    ∃ h1, mW (mRo 8 xs) mTab 69 0 [some (.ref 8), some (.int a1), some (.int a2), some (.int a3), some (.int a4), some (.int a5), some (.int a6), none, none] [] (hL fX fY fc fo fcl fcan) 0 = some (.inl (some (.int (bestV (wordN p q)))), h1, 0) ∧ mKeep Pd (hL fX fY fc fo fcl fcan) h1 := by
  have A : aH 9 10 11 fX fY (hL fX fY fc fo fcl fcan) := ⟨x9, x10, x11, fun g kk n hg hk hn => ok g kk hg hk n hn⟩
  have W : mCell (hL fX fY fc fo fcl fcan) 27 = some (wC 9 (536870912, 0, 0, 0, 0)) := by rw [x27]; unfold wC; rw [enc_zero]; rfl
  obtain ⟨h1, F1, F2, F3⟩ := c_find (L := 8) (xs := xs) (k := 0) hp hq A W
  have F3' : mCell h1 27 = some (wC 9 (wordN p q)) := F3
  have X8 : mCell h1 8 = some (.inr (10, [.ref 12, .ref 17, .ref 18, .ref 27, .ref 28, .ref 33, .ref 35, .int 0, .ref 36, .int 0, .ref 39])) := (F2.2.2 8 (by decide)).trans x8
  refine ⟨h1, ?_, keep_mono F2 (fun x hx => by rw [hx]; unfold Pd; decide)⟩
  rw [e69_0, e69_1, e69_2, e69_3 (by simp), c_reqPose, if_neg n1, e1]
  simp only [mAft, Option.toList_some, List.cons_append, List.nil_append]
  rw [e69_6, e69_8, e69_10, e69_12, e69_14 (by simp), c_reqPose, if_neg n2, e2]
  simp only [mAft, Option.toList_some, List.cons_append, List.nil_append]
  rw [e69_17, e69_19, e69_20, kF_eq x8 (v := .ref 27) rfl, e69_23, e69_25, e69_27 (kR_eq x27) (by simp), F1]
  simp only [mAft, Option.toList_none, List.nil_append]
  have F4 := F3'
  unfold wC at F4
  rw [e69_30, e69_31, kF_eq X8 (v := .ref 27) rfl, e69_34 (kR_eq F4) (by simp), e25_0, e25_1, kF_eq F4 (v := .int (qDec 1 (wordN p q).2.1)) rfl, e25_4, e25_5]
  have gd : wGood (wordN p q) := by
    have : ∀ d i s, i + d ≤ 6 → wGood s → wGood (wF (q / 256) (Int32.ofNat (q % 16) - Int32.ofNat (p % 16)) (Int32.ofNat (q / 16 % 16) - Int32.ofNat (p / 16 % 16)) (p / 256) d i s) := by
      intro d
      induction d with
      | zero => intro i s _ hs; exact hs
      | succ d ih => intro i s hi hs; exact ih (i + 1) _ (by omega) (good_aF (by omega) 8 0 s hs)
    exact this 6 0 _ (by omega) ⟨fun _ => rfl, Nat.le_refl _, by decide⟩
  have ke := enc_eq (v := (wordN p q).2.1) (by have := gd.2.2; omega)
  unfold bestV
  by_cases z : (wordN p q).2.1 = 0
  · rw [if_neg (not_not_intro (by rw [ke]; exact z)), if_pos z, e25_8, e25_9, e25_16]
    simp only [mAft, Option.toList_some, List.cons_append, List.nil_append]
    rw [e69_37]
  · rw [if_pos (by rw [ke]; exact z), if_neg z, e25_12, e25_13, kF_eq F4 (v := .int (Int32.ofNat (wordN p q).1)) rfl, e25_16]
    simp only [mAft, Option.toList_some, List.cons_append, List.nil_append]
    rw [e69_37]
theorem dx_9 {a1 a2 a3 a4 a5 a6 : Int32} (hc : ¬ ((((0 ≤ a1 ∧ a1 ≤ 15) ∧ 0 ≤ a2 ∧ a2 ≤ 15) ∧ 0 ≤ a3 ∧ a3 ≤ 7) ∧ (((0 ≤ a4 ∧ a4 ≤ 15) ∧ 0 ≤ a5 ∧ a5 ≤ 15) ∧ 0 ≤ a6 ∧ a6 ≤ 7))) (M : mCell h 42 = some (.inr (11, mFS 42))) :
    mW (mRo 8 xs) mTab 143 0 [some (.ref 42), some (.int a1), some (.int a2), some (.int a3), some (.int a4), some (.int a5), some (.int a6), none] [] h k = some (.inl (some (.int 0)), h.set (42 - 8) (.inr (11, (mFS 42).set 45 (.int 1))), k) := by
  rw [e143_0, e143_1, e143_2, e143_3, e143_4, e143_6, e143_8, e143_10 (by simp [Value.category]), d_are]
  simp only [mAft, Option.toList_some, List.cons_append, List.nil_append]
  rw [e143_13, e143_14, e143_15 (kR_eq M) (by simp), g_false M rfl hc]
  simp only [mAft, Option.toList_some, List.cons_append, List.nil_append]
  rw [e143_18, if_neg (not_not_intro rfl), e143_21, e143_22]
/-- what the reference tells later of the word -/
theorem told_end {v : Int32} {fs : List Value} {l1 l2 l3 l4 l5 l6 : Option Value} (hl : fs.length = 46) (h45 : fs[45]? = some (.int 0)) {w1 w2 w3 w4 : Int32} (h24 : fs[24]? = some (.int w1)) (h25 : fs[25]? = some (.int w2)) (h26 : fs[26]? = some (.int w3)) (h27 : fs[27]? = some (.int w4)) (M : mCell h 42 = some (.inr (11, fs))) :
    ∃ h2 fs', mW (mRo 8 xs) mTab 143 44 [some (.ref 42), l1, l2, l3, l4, l5, l6, some (.int v)] [] h k = some (.inl (some (.int v)), h2, k) ∧ mKeep Pm h h2 ∧ mCell h2 42 = some (.inr (11, fs')) ∧ fs'[45]? = some (.int 0) := by
  have st : ∀ (i : Nat) (u : Int32) (h : List mCel) (fs : List Value), i ≠ 45 → mCell h 42 = some (.inr (11, fs)) → fs[45]? = some (.int 0) → fs.length = 46 → mKeep Pm h (h.set (42 - 8) (.inr (11, fs.set i (.int u)))) ∧ mCell (h.set (42 - 8) (.inr (11, fs.set i (.int u)))) 42 = some (.inr (11, fs.set i (.int u))) ∧ (fs.set i (.int u))[45]? = some (.int 0) ∧ (fs.set i (.int u)).length = 46 := by
    intro i u h fs hi hm h45 hl
    exact ⟨keep_set hm (by show (fs.set i _).length = fs.length; rw [List.length_set]) ⟨by decide, by decide⟩, cell_set hm, by rw [List.getElem?_set_ne hi]; exact h45, by rw [List.length_set]; exact hl⟩
  have S1 : ∃ h2 u, mW (mRo 8 xs) mTab 143 44 [some (.ref 42), l1, l2, l3, l4, l5, l6, some (.int v)] [] h k = mW (mRo 8 xs) mTab 143 62 [some (.ref 42), l1, l2, l3, l4, l5, l6, some (.int v)] [] h2 k ∧ h2 = h.set (42 - 8) (.inr (11, fs.set 28 (.int u))) := by
    rw [e143_44, e143_45, e143_47, e143_48]
    by_cases z : v = -1
    · rw [if_neg (not_not_intro z), e143_51, e143_52, e143_59, kP_eq M (by omega)]
      exact ⟨_, _, rfl, rfl⟩
    · rw [if_pos z, e143_55, e143_56, kF_eq M h24, e143_59, kP_eq M (by omega)]
      exact ⟨_, _, rfl, rfl⟩
  obtain ⟨g1, u1, A1, rfl⟩ := S1
  obtain ⟨B1, B2, B3, B4⟩ := st 28 u1 h fs (by decide) M h45 hl
  have S2 : ∃ h2 u, mW (mRo 8 xs) mTab 143 62 [some (.ref 42), l1, l2, l3, l4, l5, l6, some (.int v)] [] (h.set (42 - 8) (.inr (11, fs.set 28 (.int u1)))) k = mW (mRo 8 xs) mTab 143 80 [some (.ref 42), l1, l2, l3, l4, l5, l6, some (.int v)] [] h2 k ∧ h2 = (h.set (42 - 8) (.inr (11, fs.set 28 (.int u1)))).set (42 - 8) (.inr (11, (fs.set 28 (.int u1)).set 29 (.int u))) := by
    rw [e143_62, e143_63, e143_65, e143_66]
    by_cases z : v = -1
    · rw [if_neg (not_not_intro z), e143_69, e143_70, e143_77, kP_eq B2 (by omega)]
      exact ⟨_, _, rfl, rfl⟩
    · rw [if_pos z, e143_73, e143_74, kF_eq B2 ((List.getElem?_set_ne (by decide)).trans h25), e143_77, kP_eq B2 (by omega)]
      exact ⟨_, _, rfl, rfl⟩
  obtain ⟨g2, u2, A2, rfl⟩ := S2
  obtain ⟨C1, C2, C3, C4⟩ := st 29 u2 _ _ (by decide) B2 B3 B4
  have S3 : ∃ h2 u, mW (mRo 8 xs) mTab 143 80 [some (.ref 42), l1, l2, l3, l4, l5, l6, some (.int v)] [] ((h.set (42 - 8) (.inr (11, fs.set 28 (.int u1)))).set (42 - 8) (.inr (11, (fs.set 28 (.int u1)).set 29 (.int u2)))) k = mW (mRo 8 xs) mTab 143 98 [some (.ref 42), l1, l2, l3, l4, l5, l6, some (.int v)] [] h2 k ∧ h2 = ((h.set (42 - 8) (.inr (11, fs.set 28 (.int u1)))).set (42 - 8) (.inr (11, (fs.set 28 (.int u1)).set 29 (.int u2)))).set (42 - 8) (.inr (11, ((fs.set 28 (.int u1)).set 29 (.int u2)).set 30 (.int u))) := by
    rw [e143_80, e143_81, e143_83, e143_84]
    by_cases z : v = -1
    · rw [if_neg (not_not_intro z), e143_87, e143_88, e143_95, kP_eq C2 (by omega)]
      exact ⟨_, _, rfl, rfl⟩
    · rw [if_pos z, e143_91, e143_92, kF_eq C2 ((List.getElem?_set_ne (by decide)).trans ((List.getElem?_set_ne (by decide)).trans h26)), e143_95, kP_eq C2 (by omega)]
      exact ⟨_, _, rfl, rfl⟩
  obtain ⟨g3, u3, A3, rfl⟩ := S3
  obtain ⟨D1, D2, D3, D4⟩ := st 30 u3 _ _ (by decide) C2 C3 C4
  have fin : ∀ u : Int32, mW (mRo 8 xs) mTab 143 113 [some (.ref 42), l1, l2, l3, l4, l5, l6, some (.int v)] [.int u, .ref 42] (((h.set (42 - 8) (.inr (11, fs.set 28 (.int u1)))).set (42 - 8) (.inr (11, (fs.set 28 (.int u1)).set 29 (.int u2)))).set (42 - 8) (.inr (11, ((fs.set 28 (.int u1)).set 29 (.int u2)).set 30 (.int u3)))) k =
      some (.inl (some (.int v)), (((h.set (42 - 8) (.inr (11, fs.set 28 (.int u1)))).set (42 - 8) (.inr (11, (fs.set 28 (.int u1)).set 29 (.int u2)))).set (42 - 8) (.inr (11, ((fs.set 28 (.int u1)).set 29 (.int u2)).set 30 (.int u3)))).set (42 - 8) (.inr (11, (((fs.set 28 (.int u1)).set 29 (.int u2)).set 30 (.int u3)).set 31 (.int u))), k) := by
    intro u
    rw [e143_113, kP_eq D2 (by omega), e143_116, e143_118]
  have last : ∀ u : Int32, mKeep Pm h ((((h.set (42 - 8) (.inr (11, fs.set 28 (.int u1)))).set (42 - 8) (.inr (11, (fs.set 28 (.int u1)).set 29 (.int u2)))).set (42 - 8) (.inr (11, ((fs.set 28 (.int u1)).set 29 (.int u2)).set 30 (.int u3)))).set (42 - 8) (.inr (11, (((fs.set 28 (.int u1)).set 29 (.int u2)).set 30 (.int u3)).set 31 (.int u)))) := fun u => keep_trans (keep_trans (keep_trans B1 C1) D1) (st 31 u _ _ (by decide) D2 D3 D4).1
  by_cases z : v = -1
  · refine ⟨_, _, ?_, last (-1), (st 31 (-1) _ _ (by decide) D2 D3 D4).2.1, (st 31 (-1) _ _ (by decide) D2 D3 D4).2.2.1⟩
    rw [A1, A2, A3, e143_98, e143_99, e143_101, e143_102, if_neg (not_not_intro z), e143_105, e143_106]
    exact fin (-1)
  · refine ⟨_, _, ?_, last w4, (st 31 w4 _ _ (by decide) D2 D3 D4).2.1, (st 31 w4 _ _ (by decide) D2 D3 D4).2.2.1⟩
    rw [A1, A2, A3, e143_98, e143_99, e143_101, e143_102, if_pos z, e143_109, e143_110, kF_eq D2 ((List.getElem?_set_ne (by decide)).trans ((List.getElem?_set_ne (by decide)).trans ((List.getElem?_set_ne (by decide)).trans h27)))]
    exact fin w4
theorem dn_9 {a1 a2 a3 a4 a5 a6 : Int32} {p q : Nat} (hp : p < 2048) (hq : q < 2048) (hc : (((0 ≤ a1 ∧ a1 ≤ 15) ∧ 0 ≤ a2 ∧ a2 ≤ 15) ∧ 0 ≤ a3 ∧ a3 ≤ 7) ∧ (((0 ≤ a4 ∧ a4 ≤ 15) ∧ 0 ≤ a5 ∧ a5 ≤ 15) ∧ 0 ≤ a6 ∧ a6 ≤ 7)) (e1 : 256 * a3 + 16 * a2 + a1 = Int32.ofNat p) (e2 : 256 * a6 + 16 * a5 + a4 = Int32.ofNat q) (M : mCell h 42 = some (.inr (11, mFS 42))) :
    ∃ h2 fs, mW (mRo 8 xs) mTab 143 0 [some (.ref 42), some (.int a1), some (.int a2), some (.int a3), some (.int a4), some (.int a5), some (.int a6), none] [] h k = some (.inl (some (.int (bestV (wordN p q)))), h2, k) ∧ mKeep Pm h h2 ∧ mCell h2 42 = some (.inr (11, fs)) ∧ fs[45]? = some (.int 0) := by
  have M2 : wMH 42 ((mFS 42).set 45 (.int 0)) (536870912, 0, 0, 0, 0) (h.set (42 - 8) (.inr (11, (mFS 42).set 45 (.int 0)))) := ⟨cell_set M, rfl⟩
  obtain ⟨g1, F1, F2, F3⟩ := d_findsWord (L := 8) (xs := xs) (k := k) hp hq M2
  have G := F3.1
  have ln : (wFs ((mFS 42).set 45 (.int 0)) (wordN p q)).length = 46 := by rw [wfs_len]; rfl
  obtain ⟨g2, fs', T1, T2, T3, T4⟩ := told_end (xs := xs) (k := k) (v := bestV (wordN p q)) (l1 := some (.int a1)) (l2 := some (.int a2)) (l3 := some (.int a3)) (l4 := some (.int a4)) (l5 := some (.int a5)) (l6 := some (.int a6)) ln rfl (w1 := Int32.ofNat ((wordN p q).2.1 - 1)) (w2 := Int32.ofNat (wordN p q).2.2.1) (w3 := Int32.ofNat (wordN p q).2.2.2.1) (w4 := Int32.ofNat (wordN p q).2.2.2.2) rfl rfl rfl rfl G
  refine ⟨g2, fs', ?_, keep_trans (keep_trans (g_keep (v := 0) M) (keep_mono F2 (fun x hx => by rw [hx]; exact ⟨by decide, by decide⟩))) T2, T3, T4⟩
  rw [e143_0, e143_1, e143_2, e143_3, e143_4, e143_6, e143_8, e143_10 (by simp [Value.category]), d_are]
  simp only [mAft, Option.toList_some, List.cons_append, List.nil_append]
  rw [e143_13, e143_14, e143_15 (kR_eq M) (by simp), g_true M rfl hc]
  simp only [mAft, Option.toList_some, List.cons_append, List.nil_append]
  rw [e143_18, if_pos (by decide), e143_23, e143_24, e143_25, e143_26, e143_27 (by simp [Value.category]), d_poseAt, e1]
  simp only [mAft, Option.toList_some, List.cons_append, List.nil_append]
  rw [e143_30, e143_32, e143_34, e143_36 (by simp [Value.category]), d_poseAt, e2]
  simp only [mAft, Option.toList_some, List.cons_append, List.nil_append]
  rw [e143_39 (kR_eq M2.1) (by simp), F1]
  simp only [mAft, Option.toList_some, List.cons_append, List.nil_append]
  rw [e143_42]
  exact T1
theorem fin_9 (ok : ∀ g kk, g < 8 → (kk = 1 ∨ kk = 2) → arcOk fX fY g kk) : lawEnd xs 656 (hL fX fY fc fo fcl fcan) := by
  rcases pose_cases (xs 1) (xs 2) (xs 3) with ⟨z, p, hp, e1, n1, _, _, _, f1⟩ | ⟨z, n1⟩
  · rcases pose_cases (xs 4) (xs 5) (xs 6) with ⟨y, q, hq, e2, n2, _, _, _, f2⟩ | ⟨y, n2⟩
    · obtain ⟨h1, C1, C2⟩ := cn_9 (xs := xs) (fc := fc) (fo := fo) (fcl := fcl) (fcan := fcan) ok hp hq e1 n1 e2 n2
      have M := m_of (out_K C2 (v := (bestV (wordN p q)).toInt64)) ⟨Nat.le_refl _, by decide⟩ x42
      obtain ⟨h2, fs, D1, D2, D3, D4⟩ := dn_9 (xs := xs) (k := 0) hp hq ⟨z, y⟩ f1 f2 M
      obtain ⟨l7, E⟩ := lc_9 (hn_254 (kR_eq x8) C1 (out_0 C2)) M D1 D3 D4 (fun _ => out_O C2 D2)
      exact fin_n C2 D2 E
    · obtain ⟨l7, E⟩ := lc_9 (hx_254_2 (kR_eq x8) (cx_9 (Or.inr n2))) x42 (dx_9 (fun w => y w.2) x42) (cell_set x42) rfl (fun z => absurd z (by decide))
      exact end_of E x_keep.1 x_keep.2.1 (by decide)
  · obtain ⟨l7, E⟩ := lc_9 (hx_254_2 (kR_eq x8) (cx_9 (Or.inl n1))) x42 (dx_9 (fun w => z w.1) x42) (cell_set x42) rfl (fun z => absurd z (by decide))
    exact end_of E x_keep.1 x_keep.2.1 (by decide)
end
