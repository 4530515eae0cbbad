section
variable {L : Nat} {xs : Nat → Int32} {k : Nat} {h : List mCel} {rt pa ma e q : Nat} {T : List (Nat × Nat)}
theorem rt_count (R : RT rt pa ma e q T h) : mW (mRo L xs) mTab 128 0 [some (.ref rt)] [] h k = some (.inl (some (.int (Int32.ofNat T.length))), h, k) := by
  obtain ⟨_, fp, fm, t, _, _⟩ := R
  rw [e128_0, e128_1, kF_eq t.1 (v := .int (Int32.ofNat T.length)) rfl, e128_4]
theorem rt_restart (R : RT rt pa ma e q T h) {p : Nat} : ∃ h', mW (mRo L xs) mTab 138 0 [some (.ref rt), some (.int (Int32.ofNat p))] [] h k = some (.inl none, h', k) ∧ RT rt pa ma e p [] h' ∧ mKeep (fun a => a = rt ∨ a = pa ∨ a = ma) h h' := by
  have cl := rt_cells R
  obtain ⟨⟨r0, r1⟩, fp, fm, ⟨t1, t2, t3, t4⟩, r2, r3⟩ := R
  have hp2 := pow_le r0
  have hpos : 0 < 2 ^ e := Nat.pow_pos (by decide)
  let hA : List mCel := h.set (rt - 8) (.inr (6, [.ref pa, .ref ma, .int 0]))
  have A1 : mCell hA rt = some (.inr (6, [.ref pa, .ref ma, .int 0])) := cell_set t1
  have A2 : mCell hA pa = some (.inl (0, 64 * 2 ^ e, .inl fp)) := (cell_setne cl.2.2.2.1 cl.1.1).trans t2
  have A3 : mCell hA ma = some (.inl (0, 64 * 2 ^ e, .inl fm)) := (cell_setne cl.2.2.2.2.1 cl.1.1).trans t3
  let P : mCel := .inl (0, 64 * 2 ^ e, .inl (upd fp 0 (Int32.ofNat p)))
  have a1 : ¬ Int32.ofNat (64 * 2 ^ e) ≤ 0 := by
    rw [show (0 : Int32) = Int32.ofNat 0 from rfl, oi_le (by omega) (by decide)]; omega
  have j1 : 0 ≤ (0 : Int32).toInt ∧ (0 : Int32).toInt < (64 * 2 ^ e : Nat) := by
    rw [show (0 : Int32) = Int32.ofNat 0 from rfl, oi_int (by decide)]; omega
  refine ⟨hA.set (pa - 8) P, ?_, ⟨⟨r0, by simp; omega⟩, upd fp 0 (Int32.ofNat p), fm, ⟨(cell_setne (Ne.symm cl.2.2.2.1) cl.2.1.1).trans A1, cell_set A2, (cell_setne t4 cl.2.1.1).trans A3, t4⟩, by unfold upd; rw [if_pos rfl], fun i x hx => by simp at hx⟩, ?_⟩
  · rw [e138_0, e138_1, e138_2, kP_eq t1 (by simp)]
    show mW (mRo L xs) mTab 138 5 _ [] hA k = _
    rw [e138_5, e138_6, kF_eq A1 (v := .ref pa) rfl, e138_9, kAL_int A2, e138_10, if_neg a1, e138_13, e138_14, kF_eq A1 (v := .ref pa) rfl, e138_17, e138_18, e138_19, kIS_int A2 j1, e138_20]
    rfl
  · exact keep_trans (keep_set (d := .inr (6, [.ref pa, .ref ma, .int 0])) t1 rfl (Or.inl rfl)) (keep_set (d := P) A2 rfl (Or.inr (Or.inl rfl)))
theorem rt_cut (R : RT rt pa ma e q T h) {i : Nat} (hi : i ≤ T.length) : ∃ h', mW (mRo L xs) mTab 130 0 [some (.ref rt), some (.int (Int32.ofNat i))] [] h k = some (.inl none, h', k) ∧ RT rt pa ma e q (T.take i) h' ∧ mKeep (fun a => a = rt ∨ a = pa ∨ a = ma) h h' := by
  have cl := rt_cells R
  have R0 := R
  obtain ⟨⟨r0, r1⟩, fp, fm, ⟨t1, t2, t3, t4⟩, r2, r3⟩ := R
  have hp2 := pow_le r0
  have a0 : ¬ Int32.ofNat i < 0 := oi_nneg (by omega)
  rcases Nat.lt_or_ge i T.length with hl | hl
  · have a1 : ¬ Int32.ofNat T.length ≤ Int32.ofNat i := by rw [oi_le (by omega) (by omega)]; omega
    refine ⟨h.set (rt - 8) (.inr (6, [.ref pa, .ref ma, .int (Int32.ofNat i)])), ?_, ⟨⟨r0, by rw [List.length_take]; omega⟩, fp, fm, ⟨?_, (cell_setne cl.2.2.2.1 cl.1.1).trans t2, (cell_setne cl.2.2.2.2.1 cl.1.1).trans t3, t4⟩, r2, fun j x hx => ?_⟩, keep_set t1 rfl (Or.inl rfl)⟩
    · rw [e130_0, e130_1, if_neg a0, e130_4, e130_5, e130_6, kF_eq t1 (v := .int (Int32.ofNat T.length)) rfl, e130_9, if_neg a1, e130_12, e130_13, e130_14, kP_eq t1 (by simp), e130_17]
      rfl
    · rw [cell_set t1, List.length_take, Nat.min_eq_left (by omega)]
    · rw [List.getElem?_take] at hx
      split at hx
      · exact r3 j x hx
      · cases hx
  · have a1 : Int32.ofNat T.length ≤ Int32.ofNat i := by rw [oi_le (by omega) (by omega)]; exact hl
    refine ⟨h, ?_, by rw [List.take_of_length_le hl]; exact R0, keep_refl⟩
    rw [e130_0, e130_1, if_neg a0, e130_4, e130_5, e130_6, kF_eq t1 (v := .int (Int32.ofNat T.length)) rfl, e130_9, if_pos a1, e130_17]
/-- the moves of another route from a place on -/
theorem rt_addFrom {rt2 pa2 ma2 e2 q2 : Nat} {T2 : List (Nat × Nat)} (d : Nat) : ∀ (i : Nat) (T : List (Nat × Nat)) (pa ma e : Nat) (h : List mCel) (l2 : Option Value), i + d = T2.length → RT rt2 pa2 ma2 e2 q2 T2 h → RT rt pa ma e q T h →
    rt ≠ rt2 ∧ rt ≠ pa2 ∧ rt ≠ ma2 ∧ pa ≠ rt2 ∧ pa ≠ pa2 ∧ pa ≠ ma2 ∧ ma ≠ rt2 ∧ ma ≠ pa2 ∧ ma ≠ ma2 → T.length + d < 131072 →
    ∃ h' pa' ma' e', mW (mRo L xs) mTab 125 8 [some (.ref rt), some (.ref rt2), l2, some (.int (Int32.ofNat T2.length)), some (.int (Int32.ofNat i))] [] h k = some (.inl none, h', k) ∧
      RT rt pa' ma' e' q (T ++ T2.drop i) h' ∧ e ≤ e' ∧ h'.length = h.length + 2 * (e' - e) ∧ hz h' + 256 * 2 ^ e = hz h + 256 * 2 ^ e' ∧ mExt (fun a => a = rt ∨ a = pa ∨ a = ma) h h' ∧
      (pa' = pa ∨ 8 + h.length ≤ pa') ∧ (ma' = ma ∨ 8 + h.length ≤ ma') := by
  induction d with
  | zero =>
    intro i T pa ma e h l2 hi R2 R hd hT
    have hlen : T2.length < 131072 := by
      have := R2.1
      have := pow_le R2.1.1
      omega
    obtain rfl : i = T2.length := by omega
    refine ⟨h, pa, ma, e, ?_, by rw [List.drop_length, List.append_nil]; exact R, Nat.le_refl _, by omega, rfl, ext_refl, Or.inl rfl, Or.inl rfl⟩
    rw [e125_8, e125_10, e125_11, if_pos (Int32.le_refl _), e125_38]
  | succ d IH =>
    intro i T pa ma e h l2 hi R2 R hd hT
    have hlen : T2.length < 131072 := by
      have := R2.1
      have := pow_le R2.1.1
      omega
    have n1 : ¬ (Int32.ofNat T2.length ≤ Int32.ofNat i) := by rw [oi_le (by omega) (by omega)]; omega
    have hil : i < T2.length := by omega
    have cl2 := rt_cells R2
    obtain ⟨h1, pa1, ma1, e1, A1, A2, A3, A4, A5, A6, A7, A8⟩ := rt_add (L := L) (xs := xs) (k := k) R (m := T2[i].1) (p := T2[i].2) (by omega)
    have R3 : RT rt2 pa2 ma2 e2 q2 T2 h1 := rt_keep R2 A6 (fun z => by rcases z with z | z | z <;> omega) (fun z => by rcases z with z | z | z <;> omega) (fun z => by rcases z with z | z | z <;> omega)
    obtain ⟨h2, pa3, ma3, e3, B1, B2, B3, B4, B5, B6, B7, B8⟩ := IH (i + 1) (T ++ [(T2[i].1, T2[i].2)]) pa1 ma1 e1 h1 l2 (by omega) R3 A2 (by omega) (by rw [List.length_append, List.length_singleton]; omega)
    have hx : T2.drop i = T2[i] :: T2.drop (i + 1) := List.drop_eq_getElem_cons hil
    refine ⟨h2, pa3, ma3, e3, ?_, ?_, by omega, by omega, by omega, ⟨Nat.le_trans A6.1 B6.1, fun x hx hp => (B6.2 x (by have := A6.1; omega) (fun z => by
      rcases z with z | z | z
      · exact hp (Or.inl z)
      · rcases A7 with w | w
        · exact hp (Or.inr (Or.inl (z.trans w)))
        · omega
      · rcases A8 with w | w
        · exact hp (Or.inr (Or.inr (z.trans w)))
        · omega)).trans (A6.2 x hx hp)⟩, ?_, ?_⟩
    · rw [e125_8, e125_10, e125_11, if_neg n1, e125_14, e125_15, e125_16, e125_18 (kR_eq R2.2.choose_spec.choose_spec.1.1) (by simp [Value.category]), rt_moveAt R2 (List.getElem?_eq_getElem hil)]
      simp only [mAft, Option.toList_some, List.cons_append, List.nil_append]
      rw [e125_21, e125_22, e125_24, e125_25, oi_succ, e125_26 (kR_eq R2.2.choose_spec.choose_spec.1.1) (by simp [Value.category]), rt_poseAt R2 (by omega)]
      have hf : Sho.fin q2 (T2.take (i + 1)) = T2[i].2 := by
        rw [List.take_succ_eq_append_getElem hil, Sho.fin_app]; rfl
      rw [hf]
      simp only [mAft, Option.toList_some, List.cons_append, List.nil_append]
      rw [e125_29 (kR_eq R.2.choose_spec.choose_spec.1.1) (by simp), A1]
      simp only [mAft, Option.toList_none, List.nil_append]
      rw [e125_32, oi_succ, e125_35]
      exact B1
    · rw [List.append_assoc] at B2
      rw [hx]
      exact B2
    · have := A6.1; rcases B7 with w | w
      · rw [w]; exact A7
      · exact Or.inr (by omega)
    · have := A6.1; rcases B8 with w | w
      · rw [w]; exact A8
      · exact Or.inr (by omega)
end
