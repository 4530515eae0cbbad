section
variable {L : Nat} {xs : Nat → Int32}
theorem fl_0 : mFls TX0 2 = [.null, .null] := by decide +kernel
theorem fl_1 : mFls TX1 7 = [.null, .int 0, .null, .null, .null, .int 0, .int 0] := by decide +kernel
theorem fl_3 : mFls TX3 5 = [.int 0, .int 0, .int 0, .int 0, .null] := by decide +kernel
theorem fl_4 : mFls TX4 3 = [.null, .null, .int 0] := by decide +kernel
theorem fl_5 : mFls TX5 3 = [.null, .int 0, .int 0] := by decide +kernel
theorem fl_6 : mFls TX6 6 = [.null, .null, .null, .null, .int 0, .int 0] := by decide +kernel
theorem fl_7 : mFls TX7 3 = [.null, .null, .int 0] := by decide +kernel
theorem fl_8 : mFls TX8 4 = [.null, .null, .null, .null] := by decide +kernel
theorem fl_9 : mFls TX9 4 = [.null, .null, .null, .null] := by decide +kernel
theorem fl_10 : mFls TX10 6 = [.null, .int 0, .int 0, .int 0, .int 0, .int 0] := by decide +kernel
/-- a heap's end: what was made last -/
theorem ap_cell {h l : List mCel} (i : Nat) : mCell (h ++ l) (8 + h.length + i) = l[i]? := by
  unfold mCell
  rw [if_neg (by omega), show 8 + h.length + i - 8 = h.length + i by omega, List.getElem?_append_right (by omega), show h.length + i - h.length = i by omega]
theorem ap_set {h l : List mCel} (i : Nat) {c : mCel} : (h ++ l).set (8 + h.length + i - 8) c = h ++ l.set i c := by
  rw [show 8 + h.length + i - 8 = h.length + i by omega, List.set_append_right _ _ (by omega), show h.length + i - h.length = i by omega]
theorem ap_len {h l : List mCel} : 8 + (h ++ l).length = 8 + h.length + l.length := by rw [List.length_append]; omega
theorem ap_app {h l : List mCel} {c : mCel} : (h ++ l) ++ [c] = h ++ (l ++ [c]) := List.append_assoc ..
theorem ap_0 {h l : List mCel} : mCell (h ++ l) (8 + h.length) = l[0]? := ap_cell 0
theorem ap_set0 {h l : List mCel} {c : mCel} : (h ++ l).set (8 + h.length - 8) c = h ++ l.set 0 c := ap_set 0
theorem ap_old {h l : List mCel} {a : Nat} (ha : a < 8 + h.length) : mCell (h ++ l) a = mCell h a := by
  unfold mCell
  by_cases z : a < 8
  · rw [if_pos z, if_pos z]
  · rw [if_neg z, if_neg z, List.getElem?_append_left (by omega)]
def zI (n : Nat) : mCel := .inl (0, n, .inl fun _ => 0)
theorem z_int (v : Int32) : ((.inl (0, mZero (mTy 0) v.toNatClampNeg) : mCel)) = zI v.toNatClampNeg := rfl
theorem c_Route {h : List mCel} : mW (mRo L xs) mTab 207 0 [some (.ref (8 + h.length))] [] (h ++ [.inr (6, mFls TX7 3)]) 0 =
    some (.inl none, h ++ [.inr (6, [.ref (8 + h.length + 1), .ref (8 + h.length + 2), .int 0]), zI 64, zI 64], 0) := by
  rw [fl_7, e207_0, e207_1 (by simp), e207_4, e207_5, e207_7 (by decide), z_int, ap_app, ap_len, e207_9, kP_eq (ap_0) (by simp), ap_set0]
  rw [e207_12, e207_13, e207_15 (by decide), z_int, ap_app, ap_len, e207_17, kP_eq (ap_0) (by simp), ap_set0, e207_20]
  rfl
theorem c_Prices {h : List mCel} {f : Nat} : mW (mRo L xs) mTab 186 0 [some (.ref (8 + h.length)), some (.ref f)] [] (h ++ [.inr (4, mFls TX5 3)]) 0 =
    some (.inl none, h ++ [.inr (4, [.ref f, .int 20, .int 0])], 0) := by
  rw [fl_5, e186_0, e186_1 (by simp), e186_4, e186_5, e186_7, kP_eq (ap_0) (by simp), ap_set0, e186_10, e186_11, e186_12, kP_eq (ap_0) (by simp), ap_set0, e186_15]
  rfl
theorem c_Queue {h : List mCel} : mW (mRo L xs) mTab 193 0 [some (.ref (8 + h.length))] [] (h ++ [.inr (5, mFls TX6 6)]) 0 =
    some (.inl none, h ++ [.inr (5, [.ref (8 + h.length + 1), .ref (8 + h.length + 2), .ref (8 + h.length + 3), .ref (8 + h.length + 4), .int 0, .int 0]), zI 4096, zI 4096, zI 4096, zI 256], 0) := by
  rw [fl_6, e193_0, e193_1 (by simp), e193_4, e193_5, e193_8 (by decide), z_int, ap_app, ap_len, e193_10, kP_eq (ap_0) (by simp), ap_set0]
  rw [e193_13, e193_14, e193_17 (by decide), z_int, ap_app, ap_len, e193_19, kP_eq (ap_0) (by simp), ap_set0]
  rw [e193_22, e193_23, e193_26 (by decide), z_int, ap_app, ap_len, e193_28, kP_eq (ap_0) (by simp), ap_set0]
  rw [e193_31, e193_32, e193_35 (by decide), z_int, ap_app, ap_len, e193_37, kP_eq (ap_0) (by simp), ap_set0, e193_40]
  rfl
theorem c_Word {h : List mCel} {ar : Nat} : mW (mRo L xs) mTab 28 0 [some (.ref (8 + h.length)), some (.ref ar)] [] (h ++ [.inr (9, mFls TX10 6)]) 0 =
    some (.inl none, h ++ [.inr (9, [.ref ar, .int (-1), .int 0, .int 0, .int 0, .int 536870912])], 0) := by
  rw [fl_10, e28_0, e28_1 (by simp), e28_4, e28_5, e28_6, kP_eq (ap_0) (by simp), ap_set0, e28_9, e28_10, e28_12, kP_eq (ap_0) (by simp), ap_set0, e28_15, e28_16, e28_17, kP_eq (ap_0) (by simp), ap_set0, e28_20]
  rfl
theorem c_Pace {h : List mCel} : mW (mRo L xs) mTab 166 0 [some (.ref (8 + h.length))] [] (h ++ [.inr (2, mFls TX3 5)]) 0 =
    some (.inl none, h ++ [.inr (2, [.int 100, .int 25, .int 2, .int 3, .ref (8 + h.length + 1)]), .inl (2, mZero (mTy 2) 64)], 0) := by
  rw [fl_3, e166_0, e166_1 (by simp), e166_4, e166_5, e166_7, kP_eq (ap_0) (by simp), ap_set0, e166_10, e166_11, e166_13, kP_eq (ap_0) (by simp), ap_set0, e166_16, e166_17, e166_18, kP_eq (ap_0) (by simp), ap_set0, e166_21, e166_22, e166_23, kP_eq (ap_0) (by simp), ap_set0]
  rw [e166_26, e166_27, e166_29 (by decide), ap_app, ap_len, e166_31, kP_eq (ap_0) (by simp), ap_set0, e166_34]
  rfl
theorem c_Polygon {h : List mCel} : mW (mRo L xs) mTab 179 0 [some (.ref (8 + h.length))] [] (h ++ [.inr (3, mFls TX4 3)]) 0 =
    some (.inl none, h ++ [.inr (3, [.ref (8 + h.length + 1), .ref (8 + h.length + 2), .int 0]), zI 6, zI 6], 0) := by
  rw [fl_4, e179_0, e179_1 (by simp), e179_4, e179_5, e179_7 (by decide), z_int, ap_app, ap_len, e179_9, kP_eq (ap_0) (by simp), ap_set0]
  rw [e179_12, e179_13, e179_15 (by decide), z_int, ap_app, ap_len, e179_17, kP_eq (ap_0) (by simp), ap_set0, e179_20]
  rfl
end
