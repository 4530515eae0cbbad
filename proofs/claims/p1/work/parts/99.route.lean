section
variable {L : Nat} {xs : Nat → Int32} {k : Nat}
/-- a route in the heap, short enough that it never grows -/
def tH (rt pa ma c : Nat) (fp fm : Nat → Int32) (h : List mCel) : Prop := mCell h rt = some (.inr (6, [.ref pa, .ref ma, .int (Int32.ofNat c)])) ∧ mCell h pa = some (.inl (0, 64, .inl fp)) ∧ mCell h ma = some (.inl (0, 64, .inl fm)) ∧ pa ≠ ma
def tA (rt pa ma a : Nat) : Prop := a = rt ∨ a = pa ∨ a = ma
variable {rt pa ma c : Nat} {fp fm : Nat → Int32} {h : List mCel}
theorem t_poseAt (T : tH rt pa ma c fp fm h) (hc : c < 64) {i : Nat} (hi : i ≤ c) : mW (mRo L xs) mTab 212 0 [some (.ref rt), some (.int (Int32.ofNat i))] [] h k = some (.inl (some (.int (fp i))), h, k) := by
  have hin : 0 ≤ (Int32.ofNat i).toInt ∧ (Int32.ofNat i).toInt < (64 : Nat) := by rw [oi_int (by omega)]; omega
  have a1 : ¬ (Int32.ofNat c < Int32.ofNat i) := by rw [oi_lt (by omega) (by omega)]; omega
  have a2 : ¬ (Int32.ofNat 64 ≤ Int32.ofNat i) := by rw [oi_le (by decide) (by omega)]; omega
  rw [e212_0, e212_1, if_neg (oi_nneg (by omega)), e212_4, e212_5, e212_6, kF_eq T.1 (v := .int (Int32.ofNat c)) rfl, e212_9, if_neg a1, e212_12, e212_13, e212_14, kF_eq T.1 (v := .ref pa) rfl, e212_17, kAL_int T.2.1, e212_18, if_neg a2, e212_21, e212_22, kF_eq T.1 (v := .ref pa) rfl, e212_25, e212_26, kIA_int T.2.1 hin, oi_nat (by omega), e212_27, e212_31]
theorem t_moveAt (T : tH rt pa ma c fp fm h) (hc : c < 64) {i : Nat} (hi : i < c) : mW (mRo L xs) mTab 211 0 [some (.ref rt), some (.int (Int32.ofNat i))] [] h k = some (.inl (some (.int (fm i))), h, k) := by
  have hin : 0 ≤ (Int32.ofNat i).toInt ∧ (Int32.ofNat i).toInt < (64 : Nat) := by rw [oi_int (by omega)]; omega
  have a1 : ¬ (Int32.ofNat c ≤ Int32.ofNat i) := by rw [oi_le (by omega) (by omega)]; omega
  have a2 : ¬ (Int32.ofNat 64 ≤ Int32.ofNat i) := by rw [oi_le (by decide) (by omega)]; omega
  rw [e211_0, e211_1, if_neg (oi_nneg (by omega)), e211_4, e211_5, e211_6, kF_eq T.1 (v := .int (Int32.ofNat c)) rfl, e211_9, if_neg a1, e211_12, e211_13, e211_14, kF_eq T.1 (v := .ref ma) rfl, e211_17, kAL_int T.2.2.1, e211_18, if_neg a2, e211_21, e211_22, kF_eq T.1 (v := .ref ma) rfl, e211_25, e211_26, kIA_int T.2.2.1 hin, oi_nat (by omega), e211_27, e211_31]
theorem t_lastPose (T : tH rt pa ma c fp fm h) (hc : c < 64) : mW (mRo L xs) mTab 210 0 [some (.ref rt)] [] h k = some (.inl (some (.int (fp c))), h, k) := by
  rw [e210_0, e210_1, e210_2, kF_eq T.1 (v := .int (Int32.ofNat c)) rfl, e210_5 (kR_eq T.1) (by simp), t_poseAt T hc (Nat.le_refl _)]
  simp only [mAft, Option.toList_some, List.cons_append, List.nil_append]
  rw [e210_8]
theorem t_lastMove (T : tH rt pa ma c fp fm h) (hc : c < 64) : ∃ v, mW (mRo L xs) mTab 209 0 [some (.ref rt)] [] h k = some (.inl (some (.int v)), h, k) := by
  cases c with
  | zero =>
    refine ⟨-1, ?_⟩
    rw [e209_0, e209_1, e209_2, kF_eq T.1 (v := .int (Int32.ofNat 0)) rfl, e209_5, e209_6, e209_7 (kR_eq T.1) (by simp), show Int32.ofNat 0 - 1 = -1 from rfl, e211_0, e211_1, if_pos (by decide), e211_30, e211_31]
    simp only [mAft, Option.toList_some, List.cons_append, List.nil_append]
    rw [e209_10]
  | succ c =>
    refine ⟨fm c, ?_⟩
    rw [e209_0, e209_1, e209_2, kF_eq T.1 (v := .int (Int32.ofNat (c + 1))) rfl, e209_5, e209_6, oi_sub1 (by omega), Nat.add_sub_cancel, e209_7 (kR_eq T.1) (by simp), t_moveAt T hc (by omega)]
    simp only [mAft, Option.toList_some, List.cons_append, List.nil_append]
    rw [e209_10]
theorem c_isCusp {a b : Int32} : ∃ v : Int32, (v = 0 ∨ v = 1) ∧ mW (mRo L xs) mTab 150 0 [some (.int a), some (.int b)] [] h k = some (.inl (some (.int v)), h, k) := by
  rw [e150_0, e150_1, e150_2]
  by_cases p1 : a = -1
  · rw [if_pos p1, e150_25, e150_26 (Or.inl rfl)]; exact ⟨0, Or.inl rfl, rfl⟩
  · rw [if_neg p1, e150_5, e150_6, e150_7]
    by_cases p2 : b = -1
    · rw [if_pos p2, e150_25, e150_26 (Or.inl rfl)]; exact ⟨0, Or.inl rfl, rfl⟩
    · rw [if_neg p2, e150_10, e150_11 (by simp), c_isBack]
      simp only [mAft, Option.toList_some, List.cons_append, List.nil_append]
      rw [e150_14, e150_15 (by simp [Value.category]), c_isBack]
      simp only [mAft, Option.toList_some, List.cons_append, List.nil_append]
      rw [e150_18]
      by_cases p3 : (if a < 3 then (0 : Int32) else 1) = if b < 3 then 0 else 1
      · rw [if_pos p3, e150_25, e150_26 (Or.inl rfl)]; exact ⟨0, Or.inl rfl, rfl⟩
      · rw [if_neg p3, e150_21, e150_22, e150_26 (Or.inr rfl)]; exact ⟨1, Or.inr rfl, rfl⟩
theorem c_turnaround {P F cu : Nat} {mg a b : Int32} (hP : mCell h P = some (.inr (4, [.ref F, .int (Int32.ofNat cu), .int mg]))) : ∃ tu, tu ≤ cu ∧ mW (mRo L xs) mTab 190 0 [some (.ref P), some (.int a), some (.int b)] [] h k = some (.inl (some (.int (Int32.ofNat tu))), h, k) := by
  obtain ⟨v, v01, V⟩ := c_isCusp (L := L) (xs := xs) (k := k) (h := h) (a := a) (b := b)
  rw [e190_0, e190_1, e190_2 (by simp), V]
  simp only [mAft, Option.toList_some, List.cons_append, List.nil_append]
  rw [e190_5]
  rcases v01 with rfl | rfl
  · rw [if_pos rfl, e190_15, e190_16]; exact ⟨0, Nat.zero_le _, rfl⟩
  · rw [if_neg (by decide), e190_8, e190_9, kF_eq hP (v := .int (Int32.ofNat cu)) rfl, e190_12, e190_16]; exact ⟨cu, Nat.le_refl _, rfl⟩
/-- a move added to a route that has room -/
theorem t_add (T : tH rt pa ma c fp fm h) (hc : c + 1 < 64) {m e : Int32} : ∃ h', mW (mRo L xs) mTab 199 0 [some (.ref rt), some (.int m), some (.int e)] [] h k = some (.inl none, h', k) ∧ mKeep (tA rt pa ma) h h' ∧ tH rt pa ma (c + 1) (upd fp (c + 1) e) (upd fm c m) h' := by
  obtain ⟨t1, t2, t3, t4⟩ := id T
  have n1 : rt ≠ pa := (cell_ne t1 t2 (fun z => by cases z))
  have n2 : rt ≠ ma := (cell_ne t1 t3 (fun z => by cases z))
  have o1 : Int32.ofNat c + 1 = Int32.ofNat (c + 1) := oi_succ c
  have lt1 : Int32.ofNat (c + 1) < Int32.ofNat 64 := by rw [oi_lt (by omega) (by decide)]; omega
  have ge1 : ¬ (Int32.ofNat 64 ≤ Int32.ofNat c) := by rw [oi_le (by decide) (by omega)]; omega
  have ge2 : ¬ (Int32.ofNat 64 ≤ Int32.ofNat (c + 1)) := by rw [oi_le (by decide) (by omega)]; omega
  have G : mW (mRo L xs) mTab 206 0 [some (.ref rt)] [] h k = some (.inl none, h, k) := by
    rw [e206_0, e206_1, kF_eq t1 (v := .int (Int32.ofNat c)) rfl, e206_4, e206_5, o1, e206_6, e206_7, kF_eq t1 (v := .ref pa) rfl, e206_10, kAL_int t2, e206_11, if_pos lt1]
    rw [e206_42, e206_43, kF_eq t1 (v := .int (Int32.ofNat c)) rfl, e206_46, e206_47, o1, e206_48, e206_49, kF_eq t1 (v := .ref ma) rfl, e206_52, kAL_int t3, e206_53, if_pos lt1, e206_84]
  have hin1 : 0 ≤ (Int32.ofNat (c + 1)).toInt ∧ (Int32.ofNat (c + 1)).toInt < (64 : Nat) := by rw [oi_int (by omega)]; omega
  have hin2 : 0 ≤ (Int32.ofNat c).toInt ∧ (Int32.ofNat c).toInt < (64 : Nat) := by rw [oi_int (by omega)]; omega
  have S : ∀ (a : Nat) (f : Nat → Int32) (j : Int32) (h : List mCel) (q : Nat → (Nat → Int32) → Option mOut), mCell h a = some (.inl (0, 64, .inl f)) → (0 ≤ j.toInt ∧ j.toInt < (64 : Nat)) → kIS h a j q = q 64 f := by
    intro a f j h q hc hj; unfold kIS; rw [hc]; simp only [if_pos hj]
  have p8 := (cell_8 t2).1
  have m8 := (cell_8 t3).1
  have K1 : mKeep (tA rt pa ma) h (h.set (pa - 8) (.inl (0, 64, .inl (upd fp (c + 1) e)))) := keep_set t2 rfl (Or.inr (Or.inl rfl))
  have a1 := (cell_setne (d := .inl (0, 64, .inl (upd fp (c + 1) e))) (Ne.symm n1) p8).trans t1
  have a2 := cell_set (d := .inl (0, 64, .inl (upd fp (c + 1) e))) t2
  have a3 := (cell_setne (d := .inl (0, 64, .inl (upd fp (c + 1) e))) t4 p8).trans t3
  have K2 : mKeep (tA rt pa ma) _ _ := keep_set (d := .inl (0, 64, .inl (upd fm c m))) a3 rfl (Or.inr (Or.inr rfl))
  have b1 := (cell_setne (d := .inl (0, 64, .inl (upd fm c m))) (Ne.symm n2) m8).trans a1
  have b2 := (cell_setne (d := .inl (0, 64, .inl (upd fm c m))) (Ne.symm t4) m8).trans a2
  have b3 := cell_set (d := .inl (0, 64, .inl (upd fm c m))) a3
  have K3 : mKeep (tA rt pa ma) _ _ := keep_set (d := .inr (6, [.ref pa, .ref ma, .int (Int32.ofNat (c + 1))])) b1 rfl (Or.inl rfl)
  have r8 := (cell_8 b1).1
  refine ⟨_, ?_, keep_trans (keep_trans K1 K2) K3, cell_set b1, (cell_setne n1 r8).trans b2, (cell_setne n2 r8).trans b3, t4⟩
  rw [e199_0, e199_1 (kR_eq t1) (by simp), G]
  simp only [mAft, Option.toList_none, List.nil_append]
  rw [e199_4, e199_5, kF_eq t1 (v := .int (Int32.ofNat c)) rfl, e199_8, if_neg (oi_nneg (by omega)), e199_11, e199_12, kF_eq t1 (v := .int (Int32.ofNat c)) rfl, e199_15, e199_16, kF_eq t1 (v := .ref ma) rfl, e199_19, kAL_int t3, e199_20, if_neg ge1]
  rw [e199_23, e199_24, kF_eq t1 (v := .int (Int32.ofNat c)) rfl, e199_27, e199_28, o1, e199_29, e199_30, kF_eq t1 (v := .ref pa) rfl, e199_33, kAL_int t2, e199_34, if_neg ge2]
  rw [e199_37, e199_38, kF_eq t1 (v := .ref pa) rfl, e199_41, e199_42, kF_eq t1 (v := .int (Int32.ofNat c)) rfl, e199_45, e199_46, o1, e199_47, e199_48, S _ _ _ _ _ t2 hin1, oi_nat (by omega)]
  rw [e199_49, e199_50, kF_eq a1 (v := .ref ma) rfl, e199_53, e199_54, kF_eq a1 (v := .int (Int32.ofNat c)) rfl, e199_57, e199_58, S _ _ _ _ _ a3 hin2, oi_nat (by omega)]
  rw [e199_59, e199_60r, e199_61, kF_eq b1 (v := .int (Int32.ofNat c)) rfl, e199_64, e199_65, o1, e199_66, kP_eq b1 (by simp), e199_69]
  rfl
theorem t_restart (T : tH rt pa ma c fp fm h) {p : Int32} : ∃ h', mW (mRo L xs) mTab 213 0 [some (.ref rt), some (.int p)] [] h k = some (.inl none, h', k) ∧ mKeep (tA rt pa ma) h h' ∧ tH rt pa ma 0 (upd fp 0 p) fm h' := by
  obtain ⟨t1, t2, t3, t4⟩ := id T
  have n1 : rt ≠ pa := (cell_ne t1 t2 (fun z => by cases z))
  have n2 : rt ≠ ma := (cell_ne t1 t3 (fun z => by cases z))
  have r8 := (cell_8 t1).1
  have p8 := (cell_8 t2).1
  have K1 : mKeep (tA rt pa ma) _ _ := keep_set (d := .inr (6, [.ref pa, .ref ma, .int (Int32.ofNat 0)])) t1 rfl (Or.inl rfl)
  have a1 := cell_set (d := .inr (6, [.ref pa, .ref ma, .int (Int32.ofNat 0)])) t1
  have a2 := (cell_setne (d := .inr (6, [.ref pa, .ref ma, .int (Int32.ofNat 0)])) n1 r8).trans t2
  have a3 := (cell_setne (d := .inr (6, [.ref pa, .ref ma, .int (Int32.ofNat 0)])) n2 r8).trans t3
  have K2 : mKeep (tA rt pa ma) _ _ := keep_set (d := .inl (0, 64, .inl (upd fp 0 p))) a2 rfl (Or.inr (Or.inl rfl))
  have S : ∀ q : Nat → (Nat → Int32) → Option mOut, kIS (h.set (rt - 8) (.inr (6, [.ref pa, .ref ma, .int (Int32.ofNat 0)]))) pa 0 q = q 64 fp := by
    intro q; unfold kIS; rw [a2]; rfl
  refine ⟨_, ?_, keep_trans K1 K2, (cell_setne (Ne.symm n1) p8).trans a1, cell_set a2, (cell_setne t4 p8).trans a3, t4⟩
  rw [e213_0, e213_1, e213_2, kP_eq t1 (by simp), show ([Value.ref pa, Value.ref ma, Value.int (Int32.ofNat c)].set 2 (Value.int 0)) = [Value.ref pa, Value.ref ma, Value.int (Int32.ofNat 0)] from rfl, e213_5, e213_6, kF_eq a1 (v := .ref pa) rfl, e213_9, kAL_int a2, e213_10, if_neg (by decide), e213_13, e213_14, kF_eq a1 (v := .ref pa) rfl, e213_17, e213_18, e213_19, S, e213_20]
  rfl
end
