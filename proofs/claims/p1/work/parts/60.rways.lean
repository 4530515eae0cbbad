section
variable {L : Nat} {xs : Nat → Int32} {k : Nat} {ad : Nat → Nat} {fs0 : List Value} {M : Nat → Nat → Nat} {h : List mCel} {ca cl cu : Nat} {fcan fc : Nat → Int32} {mg : Int32}
theorem rfill_loop {l1 l2 l3 : Option Value} (d : Nat) : ∀ (i : Nat) (M : Nat → Nat → Nat) (h : List mCel), i + d = 4096 → rH ad fs0 M h →
    ∃ h' M', mW (mRo L xs) mTab 142 3 [some (.ref (ad 3)), l1, l2, l3, some (.int (Int32.ofNat i))] [] h k = mW (mRo L xs) mTab 142 26 [some (.ref (ad 3)), l1, l2, l3, some (.int (Int32.ofNat 4096))] [] h' k ∧ mKeep (rAd ad) h h' ∧ rH ad fs0 M' h' ∧ (∀ s, M' 0 s = if i ≤ s ∧ s < 4096 then 1000000 else M 0 s) ∧ ∀ r s, r ≠ 0 → M' r s = M r s := by
  induction d with
  | zero =>
    intro i M h hi Q
    obtain rfl : i = 4096 := by omega
    refine ⟨h, M, ?_, keep_refl, Q, fun s => by rw [if_neg (by omega)], fun _ _ _ => rfl⟩
    rw [e142_3, e142_5, e142_8, if_pos (by decide)]
  | succ d IH =>
    intro i M h hi Q
    have n1 : ¬ ((4096 : Int32) ≤ Int32.ofNat i) := by
      rw [show (4096 : Int32) = Int32.ofNat 4096 from rfl, oi_le (by decide) (by omega)]; omega
    have Q1 := r_put Q (r := 0) (j := i) (v := 1000000) (t := 0) (w := 1000000) (by decide) (by omega) rfl rfl
    have K1 := r_putK Q (r := 0) (t := 0) (f := upd (fun j => Int32.ofNat (M 0 j)) (Int32.ofNat i).toNatClampNeg 1000000) (by decide)
    obtain ⟨h', M', A1, A2, A3, A4, A5⟩ := IH (i + 1) _ _ (by omega) Q1
    refine ⟨h', M', ?_, keep_trans K1 A2, A3, ?_, fun r s hr => by rw [A5 r s hr, nu_row hr]⟩
    · rw [e142_3, e142_5, e142_8, if_neg n1, e142_11, e142_12, r_F19 Q, e142_15, e142_17, e142_19, r_S Q (by decide) (by omega), e142_20, e142_23, oi_succ, A1]
    · intro s; rw [A4]; unfold nu
      by_cases y : s = i
      · subst y; rw [if_neg (by omega), if_pos ⟨rfl, rfl⟩, if_pos (by omega)]
      · by_cases z : i + 1 ≤ s ∧ s < 4096
        · rw [if_pos z, if_pos (by omega)]
        · rw [if_neg z, if_neg (fun q => y q.2), if_neg (by omega)]
theorem ways_loop {en can : Nat → Nat → Nat} {wt : Nat → Nat → Nat → Nat} {rv : Nat} {sd : Nat → Bool} {l1 l2 : Option Value} (HN : geoN en) (HC : geoC fcan can) (HV : geoV fc mg en wt) (HB : geoB en) (hcu : cu ≤ 100) (hrv : rv < 2) (ha : ∀ s, s < 4096 → ∀ e, e ∈ rAdj en can wt cu rv s → e.1 < 4096) (d : Nat) :
    ∀ (M : Nat → Nat → Nat) (h : List mCel) (l4 : Option Value), rMu M ≤ d → rH ad fs0 M h → RC (rAdj en can wt cu rv) sd (fun _ => False) M → vH ad fs0 ca cl cu mg fcan fc h →
    ∃ h' M' l4', mW (mRo L xs) mTab 142 42 [some (.ref (ad 3)), l1, l2, some (.int (Int32.ofNat (3 + 3 * rv))), l4] [] h k = mW (mRo L xs) mTab 142 102 [some (.ref (ad 3)), l1, l2, some (.int (Int32.ofNat (3 + 3 * rv))), l4'] [] h' k ∧ mKeep (rAd ad) h h' ∧ rH ad fs0 M' h' ∧ RC (rAdj en can wt cu rv) sd (fun _ => False) M' ∧ M' 3 1 = 0 := by
  induction d with
  | zero =>
    intro M h l4 hm Q R V
    have z : M 3 1 = 0 := by unfold rMu at hm; omega
    refine ⟨h, M, l4, ?_, keep_refl, Q, R, z⟩
    rw [e142_42, e142_43, r_F21 Q, z, e142_46, if_pos (by decide)]
  | succ d IH =>
    intro M h l4 hm Q R V
    by_cases z : M 3 1 = 0
    · refine ⟨h, M, l4, ?_, keep_refl, Q, R, z⟩
      rw [e142_42, e142_43, r_F21 Q, z, e142_46, if_pos (by decide)]
    · have w8 := ri_wait R.1
      have q8 := R.1.2.2.2.1
      have nz : ¬ (Int32.ofNat (M 3 1) ≤ 0) := by
        rw [show (0 : Int32) = Int32.ofNat 0 from rfl, oi_le (by omega) (by decide)]; omega
      obtain ⟨I', hs, h1, a, b, c⟩ := ri_pop R.1 (by omega)
      have Q1 := r_num Q (i := 0) (v := (M 3 0 + 1) % 4096) (w := Int32.ofNat ((M 3 0 + 1) % 4096)) (by decide) rfl
      have K1 := r_numK Q (fs := (rFs fs0 M).set (20 + 0) (.int (Int32.ofNat ((M 3 0 + 1) % 4096)))) (by rw [List.length_set, r_len Q])
      have g1 : nu M 3 0 ((M 3 0 + 1) % 4096) 3 1 = M 3 1 := nu_ne (by decide)
      have Q2 := r_num Q1 (i := 1) (v := M 3 1 - 1) (w := Int32.ofNat (M 3 1 - 1)) (by decide) rfl
      have K2 := r_numK Q1 (fs := (rFs fs0 (nu M 3 0 ((M 3 0 + 1) % 4096))).set (20 + 1) (.int (Int32.ofNat (M 3 1 - 1)))) (by rw [List.length_set, r_len Q1])
      have Q3 := r_put Q2 (r := 2) (j := M 1 (M 3 0)) (v := 0) (t := 1) (w := 0) (by decide) hs rfl rfl
      have K3 := r_putK Q2 (r := 2) (t := 1) (f := upd (fun j => Int32.ofNat (nu (nu M 3 0 ((M 3 0 + 1) % 4096)) 3 1 (M 3 1 - 1) 2 j)) (Int32.ofNat (M 1 (M 3 0))).toNatClampNeg 0) (by decide)
      have rem : Int32.ofNat (M 3 0) + 1 - (Int32.ofNat (M 3 0) + 1) / 4096 * 4096 = Int32.ofNat ((M 3 0 + 1) % 4096) := by
        rw [oi_succ]; exact oi_rem (by omega) (by decide)
      have sub : Int32.ofNat (M 3 1) - 1 = Int32.ofNat (M 3 1 - 1) := oi_sub1 (by omega)
      have V3 := v_keep (v_keep (v_keep V K1) K2) K3
      obtain ⟨h4, G1, G2, G3⟩ := d_goesBack (L := L) (xs := xs) (k := k) HN HC HV HB hcu hs hrv (show rH ad fs0 (rPop M) _ from Q3) I' V3
      obtain ⟨R', hmu⟩ := rc_step ha R (by omega)
      rw [a] at G3
      obtain ⟨h5, M5, l5, F1, F2, F3, F4, F5⟩ := IH _ h4 (some (.int (Int32.ofNat (M 1 (M 3 0))))) (by omega) G3 R' (v_keep V3 G2)
      refine ⟨h5, M5, l5, ?_, keep_trans (keep_trans (keep_trans (keep_trans K1 K2) K3) G2) F2, F3, F4, F5⟩
      rw [e142_42, e142_43, r_F21 Q, e142_46, if_neg nz, e142_49, e142_50, r_F22 Q, e142_53, e142_54, r_F20 Q, e142_57, r_A Q (by decide) q8, e142_58]
      rw [e142_60, e142_61, e142_62, r_F20 Q, e142_65, e142_66, e142_67, e142_70 (by decide), rem, e142_71, r_P Q (by decide)]
      rw [e142_74, e142_75r, e142_76, r_F21 Q1, g1, e142_79, e142_80, sub, e142_81, r_P Q1 (by decide)]
      rw [e142_84, e142_85, r_F23 Q2, e142_88, e142_90, e142_91 (Or.inl rfl), r_SB Q2 hs, e142_92, e142_93, e142_95, e142_96 (r_R Q3) (by simp), G1]
      simp only [mAft, Option.toList_none, List.nil_append]
      rw [e142_99]
      exact F1
end
