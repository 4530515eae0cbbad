section
variable {L : Nat} {xs : Nat → Int32} {k : Nat} {ad : Nat → Nat} {N : Nat → Nat → Nat} {h : List mCel}
/-- numbers that fit -/
def qOk (N : Nat → Nat → Nat) : Prop := ∀ j, j < 4096 → N 0 j < 2 ^ 31 ∧ N 1 j ≤ 4096 ∧ N 2 j ≤ 4096 ∧ (j < 256 → N 3 j ≤ 4096)
theorem ok_un {s : Nat} (hs : s < 4096) (o : qOk N) : qOk (nUnlink N s) := by
  intro j hj
  have a := o j hj
  have b := o s hs
  rw [un_0, un_1, un_2, un_3]
  refine ⟨a.1, ?_, ?_, fun z => ?_⟩
  · split <;> omega
  · split <;> omega
  · have := a.2.2.2 z; split <;> omega
theorem ok_cost {s c : Nat} (hc : c < 2 ^ 31) (o : qOk N) : qOk (nu N 0 s c) := by
  intro j hj
  have a := o j hj
  rw [nu_row (show 1 ≠ 0 by decide), nu_row (show 2 ≠ 0 by decide), nu_row (show 3 ≠ 0 by decide)]
  refine ⟨?_, a.2⟩
  unfold nu; split
  · exact hc
  · exact a.1
theorem ok_num {i v : Nat} (o : qOk N) : qOk (nu N 4 i v) := by
  intro j hj
  rw [nu_row (show 0 ≠ 4 by decide), nu_row (show 1 ≠ 4 by decide), nu_row (show 2 ≠ 4 by decide), nu_row (show 3 ≠ 4 by decide)]
  exact o j hj
theorem ok_ln {s : Nat} (hs : s < 4096) (o : qOk N) : qOk (nLink N s) := by
  intro j hj
  have a := o j hj
  have b := (o (N 0 s % 256) (by omega)).2.2.2 (Nat.mod_lt _ (by decide))
  rw [ln_0, ln_1, ln_2, ln_3]
  refine ⟨a.1, ?_, ?_, fun z => ?_⟩
  · split <;> omega
  · repeat' split
    all_goals omega
  · have := a.2.2.2 z; split <;> omega
theorem ok_lower {s c : Nat} (hs : s < 4096) (hc : c < 2 ^ 31) (o : qOk N) : qOk (nLower N s c) := by
  unfold nLower
  split
  · exact o
  · refine ok_ln hs (ok_cost hc ?_)
    split
    · exact ok_un hs o
    · exact o
theorem ln_a (Q : qH ad N h) {s : Nat} (hs : s < 4096) (o : qOk N) :
    ∃ h', mW (mRo L xs) mTab 120 0 [some (.ref (ad 4)), some (.int (Int32.ofNat s)), none, none] [] h k = mW (mRo L xs) mTab 120 42 [some (.ref (ad 4)), some (.int (Int32.ofNat s)), some (.int (Int32.ofNat (N 0 s % 256))), some (.int (qDec 1 (N 3 (N 0 s % 256))))] [] h' k ∧ mKeep (qAd ad) h h' ∧ qH ad (nLn1 N s) h' := by
  have hr : N 0 s % 256 < qLen 3 := Nat.mod_lt _ (by decide)
  have b := (o (N 0 s % 256) (by omega)).2.2.2 (Nat.mod_lt _ (by decide))
  have E : mW (mRo L xs) mTab 120 0 [some (.ref (ad 4)), some (.int (Int32.ofNat s)), none, none] [] h k = (if pB (0 < N 3 (N 0 s % 256)) = 0 then mW (mRo L xs) mTab 120 42 [some (.ref (ad 4)), some (.int (Int32.ofNat s)), some (.int (Int32.ofNat (N 0 s % 256))), some (.int (qDec 1 (N 3 (N 0 s % 256))))] [] h k
      else mW (mRo L xs) mTab 120 35 [some (.ref (ad 4)), some (.int (Int32.ofNat s)), some (.int (Int32.ofNat (N 0 s % 256))), some (.int (qDec 1 (N 3 (N 0 s % 256))))] [] h k) := by
    rw [e120_0, e120_1, e120_2 (q_R Q) (by simp), c_isStateN Q hs]
    simp only [mAft, Option.toList_some, List.cons_append, List.nil_append]
    rw [e120_5, if_pos (by decide), e120_9, e120_10, q_F0 Q, e120_13, e120_14, q_A Q (by decide) hs, dec_0, e120_15, e120_18, oi_and255 (o s hs).1, e120_19, e120_20, e120_21, q_F3 Q, e120_24, e120_25, q_A Q (by decide) hr, e120_26, dec_13]
    rw [e120_27, e120_28, e120_29 (q_R Q) (by simp), c_isState Q b]
    simp only [mAft, Option.toList_some, List.cons_append, List.nil_append]
    rw [e120_32]
  rw [E]
  unfold nLn1
  by_cases c : 0 < N 3 (N 0 s % 256)
  · rw [pB_pos c, if_neg (by decide), if_pos c, e120_35, e120_36, q_F2 Q, e120_39, e120_40]
    have hj : N 3 (N 0 s % 256) - 1 < qLen 2 := by show N 3 (N 0 s % 256) - 1 < 4096; omega
    refine ⟨_, ?_, q_putK Q (r := 2) (by decide), q_put Q (r := 2) (j := N 3 (N 0 s % 256) - 1) (v := s + 1) (w := Int32.ofNat s) (by decide) hj (enc_succ s).symm⟩
    rw [e120_41]
    conv => lhs; arg 3; rw [dec_put c]
    rw [q_S Q (by decide) hj, dec_put c]
  · rw [pB_neg c, if_pos rfl, if_neg c]
    exact ⟨h, rfl, keep_refl, Q⟩
theorem c_link (Q : qH ad N h) {s : Nat} (hs : s < 4096) (o : qOk N) :
    ∃ h', mW (mRo L xs) mTab 120 0 [some (.ref (ad 4)), some (.int (Int32.ofNat s)), none, none] [] h k = some (.inl none, h', k) ∧ mKeep (qAd ad) h h' ∧ qH ad (nLink N s) h' := by
  obtain ⟨ha, A1, A2, A3⟩ := ln_a (L := L) (xs := xs) (k := k) Q hs o
  have hr : N 0 s % 256 < qLen 3 := Nat.mod_lt _ (by decide)
  have K1 := q_putK A3 (r := 1) (f := upd (fun j => qDec 1 (nLn1 N s 1 j)) (Int32.ofNat s).toNatClampNeg (qDec 1 (N 3 (N 0 s % 256)))) (by decide)
  have B1 := q_put A3 (r := 1) (j := s) (v := N 3 (N 0 s % 256)) (w := qDec 1 (N 3 (N 0 s % 256))) (by decide) hs rfl
  have K2 := q_putK B1 (r := 2) (f := upd (fun j => qDec 2 (nu (nLn1 N s) 1 s (N 3 (N 0 s % 256)) 2 j)) (Int32.ofNat s).toNatClampNeg (-1)) (by decide)
  have B2 := q_put B1 (r := 2) (j := s) (v := 0) (w := -1) (by decide) hs enc_zero.symm
  have K3 := q_putK B2 (r := 3) (f := upd (fun j => qDec 3 (nu (nu (nLn1 N s) 1 s (N 3 (N 0 s % 256))) 2 s 0 3 j)) (Int32.ofNat (N 0 s % 256)).toNatClampNeg (Int32.ofNat s)) (by decide)
  have B3 := q_put B2 (r := 3) (j := N 0 s % 256) (v := s + 1) (w := Int32.ofNat s) (by decide) hr (enc_succ s).symm
  have z4 : nu (nu (nu (nLn1 N s) 1 s (N 3 (N 0 s % 256))) 2 s 0) 3 (N 0 s % 256) (s + 1) 4 0 = N 4 0 := by
    rw [nu_row (by decide), nu_row (by decide), nu_row (by decide)]
    unfold nLn1; split
    · rw [nu_row (by decide)]
    · rfl
  refine ⟨_, ?_, keep_trans (keep_trans (keep_trans (keep_trans A2 K1) K2) K3) (q_numK B3 ?_), q_num (i := 0) (v := N 4 0 + 1) (w := Int32.ofNat (N 4 0) + 1) B3 (by decide) (oi_succ _)⟩
  · rw [A1, e120_42, e120_43, q_F1 A3, e120_46, e120_47, e120_48, q_S A3 (by decide) hs]
    rw [e120_49, e120_50, q_F2 B1, e120_53, e120_54, e120_55, q_S B1 (by decide) hs]
    rw [e120_56, e120_57, q_F3 B2, e120_60, e120_61, e120_62, q_S B2 (by decide) hr]
    rw [e120_63, e120_64r, e120_65, q_F4 B3, e120_68, e120_69, e120_70, q_P B3 (by decide), e120_73, z4]
  · rw [List.length_set]; rfl
theorem c_lower (Q : qH ad N h) {s c : Nat} (hs : s < 4096) (o : qOk N) (hc : c < 2 ^ 31) (hw : c < N 0 s → N 0 s < 536870912 → 0 < N 4 0) :
    ∃ h', mW (mRo L xs) mTab 121 0 [some (.ref (ad 4)), some (.int (Int32.ofNat s)), some (.int (Int32.ofNat c))] [] h k = some (.inl none, h', k) ∧ mKeep (qAd ad) h h' ∧ qH ad (nLower N s c) h' := by
  have E : mW (mRo L xs) mTab 121 0 [some (.ref (ad 4)), some (.int (Int32.ofNat s)), some (.int (Int32.ofNat c))] [] h k = (if c < N 0 s then mW (mRo L xs) mTab 121 19 [some (.ref (ad 4)), some (.int (Int32.ofNat s)), some (.int (Int32.ofNat c))] [] h k else some (.inl none, h, k)) := by
    rw [e121_0, e121_1, e121_2 (q_R Q) (by simp), c_isStateN Q hs]
    simp only [mAft, Option.toList_some, List.cons_append, List.nil_append]
    rw [e121_5, if_neg (by decide), e121_8, e121_9, e121_10, q_F0 Q, e121_13, e121_14, q_A Q (by decide) hs, dec_0, e121_15, e121_18]
    simp only [oi_lt hc (o s hs).1]
  rw [E]
  unfold nLower
  by_cases e : N 0 s ≤ c
  · rw [if_neg (by omega), if_pos e]
    exact ⟨h, rfl, keep_refl, Q⟩
  · rw [if_pos (by omega), if_neg e]
    have F : ∃ h', mW (mRo L xs) mTab 121 19 [some (.ref (ad 4)), some (.int (Int32.ofNat s)), some (.int (Int32.ofNat c))] [] h k = mW (mRo L xs) mTab 121 35 [some (.ref (ad 4)), some (.int (Int32.ofNat s)), some (.int (Int32.ofNat c))] [] h' k ∧ mKeep (qAd ad) h h' ∧ qH ad (if N 0 s < 536870912 then nUnlink N s else N) h' ∧ qOk (if N 0 s < 536870912 then nUnlink N s else N) := by
      rw [e121_19, e121_20, q_F0 Q, e121_23, e121_24, q_A Q (by decide) hs, dec_0, e121_25, e121_27, show (536870912 : Int32) = Int32.ofNat 536870912 from rfl]
      simp only [oi_le (show 536870912 < 2 ^ 31 by decide) (o s hs).1]
      by_cases f : N 0 s < 536870912
      · obtain ⟨h', U1, U2, U3⟩ := c_unlink (L := L) (xs := xs) (k := k) Q hs (o s hs).1 (o s hs).2.1 (o s hs).2.2.1 (hw (by omega) f)
        simp only [if_pos f]
        refine ⟨h', ?_, U2, U3, ok_un hs o⟩
        rw [if_neg (by omega), e121_30, e121_31, e121_32 (q_R Q) (by simp), U1]
        simp only [mAft, Option.toList_none, List.nil_append]
      · simp only [if_neg f]
        exact ⟨h, by rw [if_pos (by omega)], keep_refl, Q, o⟩
    obtain ⟨h1, F1, F2, F3, F4⟩ := F
    have B := q_put F3 (r := 0) (j := s) (v := c) (w := Int32.ofNat c) (by decide) hs rfl
    have BK := q_putK F3 (r := 0) (f := upd (fun j => qDec 0 ((if N 0 s < 536870912 then nUnlink N s else N) 0 j)) (Int32.ofNat s).toNatClampNeg (Int32.ofNat c)) (by decide)
    obtain ⟨h2, G1, G2, G3⟩ := c_link (L := L) (xs := xs) (k := k) B hs (ok_cost hc F4)
    refine ⟨h2, ?_, keep_trans (keep_trans F2 BK) G2, G3⟩
    rw [F1, e121_35, e121_36, q_F0 F3, e121_39, e121_40, e121_41, q_S F3 (by decide) hs, e121_42, e121_43, e121_44 (q_R B) (by simp), G1]
    simp only [mAft, Option.toList_none, List.nil_append]
    rw [e121_47]
end
