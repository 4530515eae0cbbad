section
variable {L : Nat} {xs : Nat → Int32} {k : Nat}
def all16 (g : Nat → Int32) : Prop := ∀ j, j < 256 → g j = 16
theorem near_16 {g : Nat → Int32} {c : Nat} {bx by' : Int32} (hg : all16 g) (hc : c < 256) : pNear g c bx by' = g := by
  unfold pNear
  split
  · rfl
  · have a := and255 (pNum (pX (Int32.ofNat c) + bx) (pY (Int32.ofNat c) + by') 0)
    have e : pAt g (pNum (pX (Int32.ofNat c) + bx) (pY (Int32.ofNat c) + by') 0) = 16 := by
      unfold pAt
      apply hg
      generalize (pNum (pX (Int32.ofNat c) + bx) (pY (Int32.ofNat c) + by') 0 &&& 255) = u at *
      have : (u.toNatClampNeg : Int) = u.toInt := by rw [Int32.toNatClampNeg]; omega
      omega
    rw [e, hg c hc, if_neg (by decide)]
    funext j
    unfold upd
    by_cases z : j = c
    · rw [if_pos z, z, hg c hc]
    · rw [if_neg z]
theorem up_16 {g : Nat → Int32} (hg : all16 g) : ∀ (d i : Nat), i + d ≤ 256 → pPassUp g i d = g
  | 0, _, _ => rfl
  | d + 1, i, h => by
    have e : pAhead g i = g := by
      unfold pAhead
      rw [near_16 hg (by omega), near_16 hg (by omega), near_16 hg (by omega), near_16 hg (by omega)]
    unfold pPassUp
    rw [e]
    exact up_16 hg d (i + 1) (by omega)
theorem iter_16 {g : Nat → Int32} (hg : all16 g) : ∀ (d : Nat), d ≤ 256 → pIter pBehind d g = g
  | 0, _ => rfl
  | d + 1, h => by
    rw [pIter_succ, pBehind_eq, near_16 hg (by omega), near_16 hg (by omega), near_16 hg (by omega), near_16 hg (by omega)]
    exact iter_16 hg d (by omega)
theorem clears_16 {g : Nat → Int32} : all16 (pClears (fun _ => 0) g) := by
  have h0 : all16 (fillG g 0 256 (pBase (fun _ => 0))) := by
    intro j hj
    unfold fillG
    rw [if_pos ⟨Nat.zero_le _, hj⟩]
    unfold pBase pAt
    show (if (0 : Int32) < 0 then (0 : Int32) else 16) = 16
    rfl
  unfold pClears
  rw [up_16 h0 256 0 (by omega), iter_16 h0 256 (by omega)]
  exact h0
theorem c_judge {a cv op : Nat} {fs : List Value} {f g : Nat → Int32} {fr be : Int32} {h : List mCel} (h2 : fs[2]? = some (.ref cv)) (h4 : fs[4]? = some (.ref op)) (h5 : fs[5]? = some (.int fr)) (h6 : fs[6]? = some (.int be))
    (hfr : 0 ≤ fr.toInt ∧ fr.toInt ≤ 1000) (hbe : 0 ≤ be.toInt ∧ be.toInt ≤ 1000) (hc : mCell h a = some (.inr (1, fs))) (hcv : mCell h cv = some (.inl (0, 256, .inl f))) (hop : mCell h op = some (.inl (1, 2048, .inl g))) :
    mW (mRo L xs) mTab 17 0 [some (.ref a), none] [] h k = some (.inl none, h.set (op - 8) (.inl (1, 2048, .inl (fillG g 0 2048 (fun j => pJudge f fr be (Int32.ofNat j))))), k) := by
  rw [e17_0, e17_1, show (0 : Int32) = Int32.ofNat 0 from rfl]
  exact judge_loop h2 h4 h5 h6 hfr hbe 2048 0 g h (by omega) hc hcv hop
theorem c_Field {h : List mCel} : ∃ fc fo, mW (mRo L xs) mTab 12 0 [some (.ref (8 + h.length))] [] (h ++ [.inr (1, mFls TX1 7)]) 0 =
    some (.inl none, h ++ [.inr (1, [.ref (8 + h.length + 1), .int 0, .ref (8 + h.length + 2), .ref (8 + h.length + 3), .ref (8 + h.length + 4), .int 1, .int 1]), .inl (5, mZero (mTy 5) 8), zI 256, .inl (0, 256, .inl fc), .inl (1, 2048, .inl fo)], 0) ∧
    all16 fc ∧ ∀ j, j < 2048 → fo j = p1Fo j := by
  refine ⟨pClears (fun _ => 0) (fun _ => 0), fillG (fun _ => 0) 0 2048 (fun j => pJudge (fun _ => 0) 1 1 (Int32.ofNat j)), ?_, clears_16, ?_⟩
  · rw [fl_1, e12_0, e12_1 (by simp), e12_4, e12_5, e12_7 (by decide), ap_app, ap_len, e12_10, kP_eq (ap_0) (by simp), ap_set0]
    rw [e12_13, e12_14, e12_17 (by decide), z_int, ap_app, ap_len, e12_19, kP_eq (ap_0) (by simp), ap_set0]
    rw [e12_22, e12_23, e12_26 (by decide), z_int, ap_app, ap_len, e12_28, kP_eq (ap_0) (by simp), ap_set0]
    rw [e12_31, e12_32, e12_35 (by decide), ap_app, ap_len, e12_37, kP_eq (ap_0) (by simp), ap_set0]
    rw [e12_40, e12_41, e12_42, kP_eq (ap_0) (by simp), ap_set0, e12_45, e12_46, e12_47, kP_eq (ap_0) (by simp), ap_set0]
    simp only [List.cons_append, List.nil_append, List.set_cons_succ, List.set_cons_zero, List.length_cons, List.length_nil]
    generalize hH : h ++ [Sum.inr (1, [Value.ref (8 + h.length + (0 + 1)), Value.int 0, Value.ref (8 + h.length + (0 + 1 + 1)), Value.ref (8 + h.length + (0 + 1 + 1 + 1)), Value.ref (8 + h.length + (0 + 1 + 1 + 1 + 1)), Value.int 1, Value.int 1]), Sum.inl (5, mZero (mTy 5) (Int32.toNatClampNeg 8)), zI (Int32.toNatClampNeg 256), zI (Int32.toNatClampNeg 256), Sum.inl (1, mZero (mTy 1) (Int32.toNatClampNeg 2048))] = H
    have c0 : mCell H (8 + h.length) = some (.inr (1, [.ref (8 + h.length + 1), .int 0, .ref (8 + h.length + 2), .ref (8 + h.length + 3), .ref (8 + h.length + 4), .int 1, .int 1])) := by rw [← hH]; exact ap_0
    have c2 : mCell H (8 + h.length + 2) = some (.inl (0, 256, .inl (fun _ => 0))) := by rw [← hH]; exact ap_cell 2
    have c3 : mCell H (8 + h.length + 3) = some (.inl (0, 256, .inl (fun _ => 0))) := by rw [← hH]; exact ap_cell 3
    have c4 : mCell H (8 + h.length + 4) = some (.inl (1, 2048, .inl (fun _ => 0))) := by rw [← hH]; exact ap_cell 4
    have d0 := (cell_setne (d := .inl (0, 256, .inl (pClears (fun _ => 0) (fun _ => 0)))) (show 8 + h.length + 3 ≠ 8 + h.length by omega) (by omega)).trans c0
    have d2 := (cell_setne (d := .inl (0, 256, .inl (pClears (fun _ => 0) (fun _ => 0)))) (show 8 + h.length + 3 ≠ 8 + h.length + 2 by omega) (by omega)).trans c2
    have d4 := (cell_setne (d := .inl (0, 256, .inl (pClears (fun _ => 0) (fun _ => 0)))) (show 8 + h.length + 3 ≠ 8 + h.length + 4 by omega) (by omega)).trans c4
    rw [e12_50, e12_51 (kR_eq c0) (by simp), e23_0, e23_1 (kR_eq c0) (by simp), c_measure c0 rfl rfl (by omega) c2 c3]
    simp only [mAft, Option.toList_none, List.nil_append]
    rw [e23_4, e23_5 (kR_eq d0) (by simp), c_judge (fr := 1) (be := 1) rfl rfl rfl rfl (by decide) (by decide) d0 d2 d4]
    simp only [mAft, Option.toList_none, List.nil_append]
    rw [e23_8]
    simp only [mAft, Option.toList_none, List.nil_append]
    rw [e12_54, ← hH, ap_set 3, ap_set 4]
    rfl
  · intro j hj
    unfold fillG
    rw [if_pos ⟨Nat.zero_le _, hj⟩]
    rfl
end
