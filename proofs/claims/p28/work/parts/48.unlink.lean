section
variable {L : Nat} {xs : Nat → Int32} {k : Nat} {ad : Nat → Nat} {N : Nat → Nat → Nat} {h : List mCel}
theorem oi_and255 {c : Nat} (hc : c < 2 ^ 31) : Int32.ofNat c &&& 255 = Int32.ofNat (c % 256) := by
  apply Int32.toBitVec_inj.1
  rw [Int32.toBitVec_and, show (Int32.ofNat c).toBitVec = BitVec.ofNat 32 c from rfl, show (Int32.ofNat (c % 256)).toBitVec = BitVec.ofNat 32 (c % 256) from rfl]
  apply BitVec.eq_of_toNat_eq
  rw [BitVec.toNat_and, BitVec.toNat_ofNat, BitVec.toNat_ofNat]
  rw [show (Int32.toBitVec 255).toNat = 2 ^ 8 - 1 from rfl, Nat.and_two_pow_sub_one_eq_mod]
  omega
theorem oi_sub1 {c : Nat} (hc : 0 < c) : Int32.ofNat c - 1 = Int32.ofNat (c - 1) := by
  obtain ⟨d, rfl⟩ : ∃ d, c = d + 1 := ⟨c - 1, by omega⟩
  rw [Int32.sub_eq_add_neg, show (-1 : Int32) = (-1) from rfl, Nat.add_sub_cancel]
  exact oi_pred d
theorem dec_put {v : Nat} (hv : 0 < v) : qDec 1 v = Int32.ofNat (v - 1) := by
  obtain ⟨d, rfl⟩ : ∃ d, v = d + 1 := ⟨v - 1, by omega⟩
  rw [enc_succ, Nat.add_sub_cancel]
theorem un_a (Q : qH ad N h) {s : Nat} (hs : s < 4096) (h1 : N 1 s ≤ 4096) (h2 : N 2 s ≤ 4096) :
    ∃ h', mW (mRo L xs) mTab 123 0 [some (.ref (ad 4)), some (.int (Int32.ofNat s)), none, none] [] h k = mW (mRo L xs) mTab 123 38 [some (.ref (ad 4)), some (.int (Int32.ofNat s)), some (.int (qDec 1 (N 1 s))), some (.int (qDec 1 (N 2 s)))] [] h' k ∧ mKeep (qAd ad) h h' ∧ qH ad (nUn1 N s) h' := by
  have E : mW (mRo L xs) mTab 123 0 [some (.ref (ad 4)), some (.int (Int32.ofNat s)), none, none] [] h k = (if pB (0 < N 1 s) = 0 then mW (mRo L xs) mTab 123 38 [some (.ref (ad 4)), some (.int (Int32.ofNat s)), some (.int (qDec 1 (N 1 s))), some (.int (qDec 1 (N 2 s)))] [] h k
      else mW (mRo L xs) mTab 123 31 [some (.ref (ad 4)), some (.int (Int32.ofNat s)), some (.int (qDec 1 (N 1 s))), some (.int (qDec 1 (N 2 s)))] [] h k) := by
    rw [e123_0, e123_1, e123_2 (q_R Q) (by simp), c_isStateN Q hs]
    simp only [mAft, Option.toList_some, List.cons_append, List.nil_append]
    rw [e123_5, if_pos (by decide), e123_9, e123_10, q_F1 Q, e123_13, e123_14, q_A Q (by decide) hs, e123_15, e123_16, e123_17, q_F2 Q, e123_20, e123_21, q_A Q (by decide) hs, e123_22, dec_12]
    rw [e123_23, e123_24, e123_25 (q_R Q) (by simp), c_isState Q h1]
    simp only [mAft, Option.toList_some, List.cons_append, List.nil_append]
    rw [e123_28]
  rw [E]
  unfold nUn1
  by_cases c : 0 < N 1 s
  · rw [pB_pos c, if_neg (by decide), if_pos c, e123_31, e123_32, q_F2 Q, e123_35, e123_36]
    have hj : N 1 s - 1 < qLen 2 := by show N 1 s - 1 < 4096; omega
    refine ⟨_, ?_, q_putK Q (r := 2) (by decide), q_put Q (r := 2) (j := N 1 s - 1) (v := N 2 s) (w := qDec 1 (N 2 s)) (by decide) hj rfl⟩
    rw [e123_37]
    conv => lhs; arg 3; rw [dec_put c]
    rw [q_S Q (by decide) hj, dec_put c]
  · rw [pB_neg c, if_pos rfl, if_neg c]
    exact ⟨h, rfl, keep_refl, Q⟩
theorem un_b (Q : qH ad N h) {s n p : Nat} (hs : s < 4096) (hp : p ≤ 4096) (h0 : N 0 s < 2 ^ 31) :
    ∃ h', mW (mRo L xs) mTab 123 38 [some (.ref (ad 4)), some (.int (Int32.ofNat s)), some (.int (qDec 1 n)), some (.int (qDec 1 p))] [] h k = mW (mRo L xs) mTab 123 72 [some (.ref (ad 4)), some (.int (Int32.ofNat s)), some (.int (qDec 1 n)), some (.int (qDec 1 p))] [] h' k ∧ mKeep (qAd ad) h h' ∧ qH ad (if 0 < p then nu N 1 (p - 1) n else nu N 3 (N 0 s % 256) n) h' := by
  have E : mW (mRo L xs) mTab 123 38 [some (.ref (ad 4)), some (.int (Int32.ofNat s)), some (.int (qDec 1 n)), some (.int (qDec 1 p))] [] h k = (if pB (0 < p) = 0 then mW (mRo L xs) mTab 123 56 [some (.ref (ad 4)), some (.int (Int32.ofNat s)), some (.int (qDec 1 n)), some (.int (qDec 1 p))] [] h k
      else mW (mRo L xs) mTab 123 46 [some (.ref (ad 4)), some (.int (Int32.ofNat s)), some (.int (qDec 1 n)), some (.int (qDec 1 p))] [] h k) := by
    rw [e123_38, e123_39, e123_40 (q_R Q) (by simp), c_isState Q hp]
    simp only [mAft, Option.toList_some, List.cons_append, List.nil_append]
    rw [e123_43]
  rw [E]
  by_cases c : 0 < p
  · have hj : p - 1 < qLen 1 := by show p - 1 < 4096; omega
    rw [pB_pos c, if_neg (by decide), if_pos c, e123_46, e123_47, q_F1 Q, e123_50, e123_51, e123_52]
    refine ⟨_, ?_, q_putK Q (r := 1) (by decide), q_put Q (r := 1) (j := p - 1) (v := n) (w := qDec 1 n) (by decide) hj rfl⟩
    conv => lhs; arg 3; rw [dec_put c]
    rw [q_S Q (by decide) hj, dec_put c, e123_53]
  · have hj : N 0 s % 256 < qLen 3 := Nat.mod_lt _ (by decide)
    rw [pB_neg c, if_pos rfl, if_neg c, e123_56, e123_57, q_F3 Q, e123_60, e123_61, q_F0 Q, e123_64, e123_65, q_A Q (by decide) hs, dec_0, e123_66, e123_69, oi_and255 h0, e123_70, e123_71, q_S Q (by decide) hj]
    exact ⟨_, rfl, q_putK Q (r := 3) (by decide), q_put Q (r := 3) (j := N 0 s % 256) (v := n) (w := qDec 1 n) (by decide) hj rfl⟩
theorem c_unlink (Q : qH ad N h) {s : Nat} (hs : s < 4096) (h0 : N 0 s < 2 ^ 31) (h1 : N 1 s ≤ 4096) (h2 : N 2 s ≤ 4096) (h4 : 0 < N 4 0) :
    ∃ h', mW (mRo L xs) mTab 123 0 [some (.ref (ad 4)), some (.int (Int32.ofNat s)), none, none] [] h k = some (.inl none, h', k) ∧ mKeep (qAd ad) h h' ∧ qH ad (nUnlink N s) h' := by
  obtain ⟨ha, A1, A2, A3⟩ := un_a (L := L) (xs := xs) (k := k) Q hs h1 h2
  have z0 : nUn1 N s 0 s = N 0 s := by unfold nUn1; split <;> simp [nu]
  obtain ⟨hb, B1, B2, B3⟩ := un_b (L := L) (xs := xs) (k := k) (n := N 1 s) (p := N 2 s) A3 hs h2 (by rw [z0]; exact h0)
  rw [z0] at B3
  have B3' : qH ad (nUn2 N s) hb := B3
  have z4 : nUn2 N s 4 0 = N 4 0 := by unfold nUn2 nUn1; repeat' split
                                       all_goals simp [nu]
  refine ⟨_, ?_, keep_trans (keep_trans A2 B2) (q_numK B3' ?_), q_num (i := 0) (v := N 4 0 - 1) (w := Int32.ofNat (N 4 0) - 1) B3' (by decide) (oi_sub1 h4)⟩
  · rw [A1, B1, e123_72, e123_73r, e123_74, q_F4 B3', e123_77, e123_78, e123_79, q_P B3' (by decide), e123_82, z4]
  · rw [List.length_set]; rfl
end
