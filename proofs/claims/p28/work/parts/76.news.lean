section
variable {L : Nat} {xs : Nat → Int32}
theorem fl_0 : mFls TX0 2 = [.null, .null] := by decide +kernel
theorem fl_1 : mFls TX1 7 = [.null, .int 0, .null, .null, .null, .int 0, .int 0] := by decide +kernel
theorem fl_3 : mFls TX3 5 = [.int 0, .int 0, .int 0, .int 0, .null] := by decide +kernel
theorem fl_4 : mFls TX4 3 = [.null, .null, .int 0] := by decide +kernel
theorem fl_5 : mFls TX5 3 = [.null, .int 0, .int 0] := by decide +kernel
theorem fl_6 : mFls TX6 6 = [.null, .null, .null, .null, .int 0, .int 0] := by decide +kernel
theorem fl_7 : mFls TX7 3 = [.null, .null, .int 0] := by decide +kernel
theorem fl_8 : mFls TX8 4 = [.null, .null, .null, .null] := by decide +kernel
theorem fl_9 : mFls TX9 4 = [.null, .null, .null, .null] := by decide +kernel
theorem fl_10 : mFls TX10 6 = [.null, .int 0, .int 0, .int 0, .int 0, .int 0] := by decide +kernel
/-- a heap's end: what was made last -/
theorem ap_cell {h l : List mCel} (i : Nat) : mCell (h ++ l) (8 + h.length + i) = l[i]? := by
  unfold mCell
  rw [if_neg (by omega), show 8 + h.length + i - 8 = h.length + i by omega, List.getElem?_append_right (by omega), show h.length + i - h.length = i by omega]
theorem ap_set {h l : List mCel} (i : Nat) {c : mCel} : (h ++ l).set (8 + h.length + i - 8) c = h ++ l.set i c := by
  rw [show 8 + h.length + i - 8 = h.length + i by omega, List.set_append_right _ _ (by omega), show h.length + i - h.length = i by omega]
theorem ap_len {h l : List mCel} : 8 + (h ++ l).length = 8 + h.length + l.length := by rw [List.length_append]; omega
theorem ap_app {h l : List mCel} {c : mCel} : (h ++ l) ++ [c] = h ++ (l ++ [c]) := List.append_assoc ..
theorem ap_0 {h l : List mCel} : mCell (h ++ l) (8 + h.length) = l[0]? := ap_cell 0
theorem ap_set0 {h l : List mCel} {c : mCel} : (h ++ l).set (8 + h.length - 8) c = h ++ l.set 0 c := ap_set 0
theorem ap_old {h l : List mCel} {a : Nat} (ha : a < 8 + h.length) : mCell (h ++ l) a = mCell h a := by
  unfold mCell
  by_cases z : a < 8
  · rw [if_pos z, if_pos z]
  · rw [if_neg z, if_neg z, List.getElem?_append_left (by omega)]
def zI (n : Nat) : mCel := .inl (0, n, .inl fun _ => 0)
theorem z_int (v : Int32) : ((.inl (0, mZero (mTy 0) v.toNatClampNeg) : mCel)) = zI v.toNatClampNeg := rfl
theorem c_Route {h : List mCel} : mW (mRo L xs) mTab 132 0 [some (.ref (8 + h.length))] [] (h ++ [.inr (6, mFls TX7 3)]) 0 =
    some (.inl none, h ++ [.inr (6, [.ref (8 + h.length + 1), .ref (8 + h.length + 2), .int 0]), zI 64, zI 64], 0) := by
  rw [fl_7, e132_0, e132_1 (by simp), e132_4, e132_5, e132_7 (by decide), z_int, ap_app, ap_len, e132_9, kP_eq (ap_0) (by simp), ap_set0]
  rw [e132_12, e132_13, e132_15 (by decide), z_int, ap_app, ap_len, e132_17, kP_eq (ap_0) (by simp), ap_set0, e132_20]
  rfl
theorem c_Prices {h : List mCel} {f : Nat} : mW (mRo L xs) mTab 111 0 [some (.ref (8 + h.length)), some (.ref f)] [] (h ++ [.inr (4, mFls TX5 3)]) 0 =
    some (.inl none, h ++ [.inr (4, [.ref f, .int 20, .int 0])], 0) := by
  rw [fl_5, e111_0, e111_1 (by simp), e111_4, e111_5, e111_7, kP_eq (ap_0) (by simp), ap_set0, e111_10, e111_11, e111_12, kP_eq (ap_0) (by simp), ap_set0, e111_15]
  rfl
theorem c_Queue {h : List mCel} : mW (mRo L xs) mTab 118 0 [some (.ref (8 + h.length))] [] (h ++ [.inr (5, mFls TX6 6)]) 0 =
    some (.inl none, h ++ [.inr (5, [.ref (8 + h.length + 1), .ref (8 + h.length + 2), .ref (8 + h.length + 3), .ref (8 + h.length + 4), .int 0, .int 0]), zI 4096, zI 4096, zI 4096, zI 256], 0) := by
  rw [fl_6, e118_0, e118_1 (by simp), e118_4, e118_5, e118_8 (by decide), z_int, ap_app, ap_len, e118_10, kP_eq (ap_0) (by simp), ap_set0]
  rw [e118_13, e118_14, e118_17 (by decide), z_int, ap_app, ap_len, e118_19, kP_eq (ap_0) (by simp), ap_set0]
  rw [e118_22, e118_23, e118_26 (by decide), z_int, ap_app, ap_len, e118_28, kP_eq (ap_0) (by simp), ap_set0]
  rw [e118_31, e118_32, e118_35 (by decide), z_int, ap_app, ap_len, e118_37, kP_eq (ap_0) (by simp), ap_set0, e118_40]
  rfl
theorem c_Word {h : List mCel} {ar : Nat} : mW (mRo L xs) mTab 28 0 [some (.ref (8 + h.length)), some (.ref ar)] [] (h ++ [.inr (9, mFls TX10 6)]) 0 =
    some (.inl none, h ++ [.inr (9, [.ref ar, .int (-1), .int 0, .int 0, .int 0, .int 536870912])], 0) := by
  rw [fl_10, e28_0, e28_1 (by simp), e28_4, e28_5, e28_6, kP_eq (ap_0) (by simp), ap_set0, e28_9, e28_10, e28_12, kP_eq (ap_0) (by simp), ap_set0, e28_15, e28_16, e28_17, kP_eq (ap_0) (by simp), ap_set0, e28_20]
  rfl
theorem c_Pace {h : List mCel} : mW (mRo L xs) mTab 91 0 [some (.ref (8 + h.length))] [] (h ++ [.inr (2, mFls TX3 5)]) 0 =
    some (.inl none, h ++ [.inr (2, [.int 100, .int 25, .int 2, .int 3, .ref (8 + h.length + 1)]), .inl (2, mZero (mTy 2) 64)], 0) := by
  rw [fl_3, e91_0, e91_1 (by simp), e91_4, e91_5, e91_7, kP_eq (ap_0) (by simp), ap_set0, e91_10, e91_11, e91_13, kP_eq (ap_0) (by simp), ap_set0, e91_16, e91_17, e91_18, kP_eq (ap_0) (by simp), ap_set0, e91_21, e91_22, e91_23, kP_eq (ap_0) (by simp), ap_set0]
  rw [e91_26, e91_27, e91_29 (by decide), ap_app, ap_len, e91_31, kP_eq (ap_0) (by simp), ap_set0, e91_34]
  rfl
theorem c_Polygon {h : List mCel} : mW (mRo L xs) mTab 104 0 [some (.ref (8 + h.length))] [] (h ++ [.inr (3, mFls TX4 3)]) 0 =
    some (.inl none, h ++ [.inr (3, [.ref (8 + h.length + 1), .ref (8 + h.length + 2), .int 0]), zI 6, zI 6], 0) := by
  rw [fl_4, e104_0, e104_1 (by simp), e104_4, e104_5, e104_7 (by decide), z_int, ap_app, ap_len, e104_9, kP_eq (ap_0) (by simp), ap_set0]
  rw [e104_12, e104_13, e104_15 (by decide), z_int, ap_app, ap_len, e104_17, kP_eq (ap_0) (by simp), ap_set0, e104_20]
  rfl
end
