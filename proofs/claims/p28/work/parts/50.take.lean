section
variable {L : Nat} {xs : Nat → Int32} {k : Nat} {ad : Nat → Nat} {N : Nat → Nat → Nat} {h : List mCel}
theorem qi_pos {J : Nat → Bool} {rk : Nat → Nat} {cl s : Nat} (I : QI N J rk cl) (hs : J s = true) : 0 < N 4 0 := by
  have h8 := (I.1 s hs).1
  rw [I.2.2.2.2]
  cases hc : cnt J 4096
  · have := cnt_zero 4096 hc s h8; rw [hs] at this; cases this
  · omega
theorem take_loop {J : Nat → Bool} {rk : Nat → Nat} {cl : Nat} (hf : ∀ (t : Nat), J t = true → t < 4096) (d : Nat) : ∀ (i : Nat) (N : Nat → Nat → Nat) (h : List mCel) (l2 : Option Value), i + d = 256 → qH ad N h → qOk N → QI N J rk cl → (∀ t, J t = true → N 0 t < 536870912) → N 4 0 ≤ 4096 →
    ∃ h', mW (mRo L xs) mTab 122 2 [some (.ref (ad 4)), some (.int (Int32.ofNat i)), l2] [] h k = some (.inl (some (.int (qDec 1 (nTake d N).1))), h', k) ∧ mKeep (qAd ad) h h' ∧ qH ad (nTake d N).2 h' ∧ qOk (nTake d N).2 := by
  induction d with
  | zero =>
    intro i N h l2 hi Q o I hc h4
    obtain rfl : i = 256 := by omega
    rw [e122_2, e122_3, e122_6, if_pos (by decide), e122_58, e122_59]
    exact ⟨h, by rw [show (nTake 0 N).1 = 0 from rfl, enc_zero], keep_refl, Q, o⟩
  | succ d IH =>
    intro i N h l2 hi Q o I hc h4
    have hlt : ¬ ((256 : Int32) ≤ Int32.ofNat i) := by
      rw [show (256 : Int32) = Int32.ofNat 256 from rfl, oi_le (by decide) (by omega)]; omega
    have hle : (Int32.ofNat (N 4 0) ≤ 0) = (N 4 0 = 0) := by
      rw [show (0 : Int32) = Int32.ofNat 0 from rfl, oi_le (by omega) (by decide)]; apply propext; omega
    rw [e122_2, e122_3, e122_6, if_neg hlt, e122_9, e122_10, q_F4 Q, e122_13]
    simp only [hle]
    unfold nTake
    by_cases z : N 4 0 = 0
    · rw [if_pos z, if_pos z, e122_58, e122_59]
      exact ⟨h, by rw [enc_zero], keep_refl, Q, o⟩
    · rw [if_neg z, if_neg z]
      obtain ⟨t, ht8, ht⟩ := cnt_pos (J := J) 4096 (by rw [← I.2.2.2.2]; omega)
      have hlev : N 4 1 < 536870912 := Nat.lt_of_le_of_lt (I.1 t ht).2.1 (hc t ht)
      have hr : N 4 1 % 256 < qLen 3 := Nat.mod_lt _ (by decide)
      rw [e122_16, e122_17, q_F3 Q, e122_20, e122_21, q_F5 Q, e122_24, e122_27, oi_and255 (by omega), e122_28, q_A Q (by decide) hr, e122_29, dec_13, e122_30, e122_31, e122_32]
      by_cases e : 0 < N 3 (N 4 1 % 256)
      · rw [if_pos e]
        have hv := (o (N 4 1 % 256) (by omega)).2.2.2 (Nat.mod_lt _ (by decide))
        have js : J (N 3 (N 4 1 % 256) - 1) = true := by
          rcases I.2.2.2.1 (N 4 1 % 256) (Nat.mod_lt _ (by decide)) with a | a
          · omega
          · exact a.2.1
        have hs := hf _ js
        have ne : ¬ (qDec 1 (N 3 (N 4 1 % 256)) = -1) := by
          rw [dec_put e]; intro y
          have := oi_nneg (i := N 3 (N 4 1 % 256) - 1) (by omega)
          rw [y] at this; exact this (by decide)
        obtain ⟨h', U1, U2, U3⟩ := c_unlink (L := L) (xs := xs) (k := k) Q hs (o _ hs).1 (o _ hs).2.1 (o _ hs).2.2.1 (by omega)
        refine ⟨h', ?_, U2, U3, ok_un hs o⟩
        rw [if_neg ne, e122_35, e122_36, e122_37 (q_R Q) (by simp), dec_put e, U1]
        simp only [mAft, Option.toList_none, List.nil_append]
        rw [e122_40, e122_41]
      · rw [if_neg e]
        have y : N 3 (N 4 1 % 256) = 0 := by omega
        have hn := QI_level I e
        have B := q_num Q (i := 1) (v := N 4 1 + 1) (w := Int32.ofNat (N 4 1) + 1) (by decide) (oi_succ _)
        have R : ∀ j, nu N 4 1 (N 4 1 + 1) 0 j = N 0 j := fun j => nu_row (by decide)
        obtain ⟨h', K1, K2, K3, K4⟩ := IH (i + 1) (nu N 4 1 (N 4 1 + 1)) _ (some (.int (qDec 1 0))) (by omega) B (ok_num o) hn (fun t ht => by rw [R]; exact hc t ht) (by rw [nu_ne (by decide)]; exact h4)
        refine ⟨h', ?_, keep_trans (q_numK Q ?_) K2, K3, K4⟩
        · rw [y, if_pos enc_zero, e122_42, e122_43r, e122_44, q_F5 Q, e122_47, e122_48, e122_49, q_P Q (by decide), e122_52, e122_55, oi_succ i]
          exact K1
        · rw [List.length_set]; rfl
theorem c_take {J : Nat → Bool} {rk : Nat → Nat} {cl : Nat} (Q : qH ad N h) (o : qOk N) (I : QI N J rk cl) (hc : ∀ t, J t = true → N 0 t < 536870912) :
    ∃ h', mW (mRo L xs) mTab 122 0 [some (.ref (ad 4)), none, none] [] h k = some (.inl (some (.int (qDec 1 (nTake 256 N).1))), h', k) ∧ mKeep (qAd ad) h h' ∧ qH ad (nTake 256 N).2 h' ∧ qOk (nTake 256 N).2 := by
  obtain ⟨h', K⟩ := take_loop (L := L) (xs := xs) (k := k) (fun t ht => (I.1 t ht).1) 256 0 N h none rfl Q o I hc (by rw [I.2.2.2.2]; exact cnt_le 4096)
  refine ⟨h', ?_, K.2⟩
  rw [e122_0, e122_1]
  exact K.1
def nFill (N : Nat → Nat → Nat) (r v : Nat) : Nat → Nat → Nat := fun r' j => if r' = r ∧ j < qLen r then v else N r' j
theorem q_fill (Q : qH ad N h) {r v : Nat} {w : Int32} (hr : r < 4) (hw : w = qDec r v) :
    qH ad (nFill N r v) (h.set (ad r - 8) (.inl (0, qLen r, .inl (fillF (fun j => qDec r (N r j)) 0 (qLen r) w)))) := by
  have h8 := (cell_8 (Q.1 r hr)).1
  refine ⟨fun r' hr' => ?_, ?_, Q.2.2⟩
  · by_cases e : r' = r
    · subst e
      rw [cell_set (Q.1 r' hr)]
      simp only [qRowC, hw]
      congr 5
      funext i; unfold fillF nFill
      by_cases z : i < qLen r'
      · rw [if_pos ⟨by omega, z⟩, if_pos ⟨rfl, z⟩]
      · rw [if_neg (fun y => z y.2), if_neg (fun y => z y.2)]
    · rw [cell_setne (Q.2.2 r r' (by omega) (by omega) (Ne.symm e)) h8, Q.1 r' hr']
      simp only [qRowC, nFill, e, false_and, if_false]
  · rw [cell_setne (Q.2.2 r 4 (by omega) (by omega) (by omega)) h8, Q.2.1]
    simp only [qObjC, nFill, show ¬ 4 = r by omega, false_and, if_false]
def nClear (N : Nat → Nat → Nat) : Nat → Nat → Nat := nu (nu (nFill (nFill N 0 536870912) 3 0) 4 0 0) 4 1 0
theorem c_qClear (Q : qH ad N h) : ∃ h', mW (mRo L xs) mTab 116 0 [some (.ref (ad 4))] [] h k = some (.inl none, h', k) ∧ mKeep (qAd ad) h h' ∧ qH ad (nClear N) h' := by
  have hl : qLen 0 < 2 ^ 31 := by decide
  have hl3 : qLen 3 < 2 ^ 31 := by decide
  have A1 := q_fill Q (r := 0) (v := 536870912) (w := 536870912) (by decide) rfl
  have K1 := q_putK Q (r := 0) (f := fillF (fun j => qDec 0 (N 0 j)) 0 (qLen 0) 536870912) (by decide)
  have A2 := q_fill A1 (r := 3) (v := 0) (w := -1) (by decide) enc_zero.symm
  have K2 := q_putK A1 (r := 3) (f := fillF (fun j => qDec 3 (nFill N 0 536870912 3 j)) 0 (qLen 3) (-1)) (by decide)
  have A3 := q_num A2 (i := 0) (v := 0) (w := 0) (by decide) rfl
  have A4 := q_num A3 (i := 1) (v := 0) (w := 0) (by decide) rfl
  refine ⟨_, ?_, keep_trans (keep_trans (keep_trans K1 K2) (q_numK A2 ?_)) (q_numK A3 ?_), A4⟩
  · rw [e116_0, e116_1, q_F0 Q, e116_4, e116_6 (by simp), c_fill hl (Q.1 0 (by decide))]
    simp only [mAft, Option.toList_none, List.nil_append]
    rw [e116_9, e116_10, q_F3 A1, e116_13, e116_14 (by simp), c_fill hl3 (A1.1 3 (by decide))]
    simp only [mAft, Option.toList_none, List.nil_append]
    rw [e116_17, e116_18, e116_19, q_P A2 (by decide), e116_22, e116_23, e116_24, q_P A3 (by decide), e116_27]
  · rw [List.length_set]; rfl
  · rw [List.length_set]; rfl
end
