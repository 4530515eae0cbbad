section
variable {L : Nat} {xs : Nat → Int32} {k : Nat} {h : List mCel} {rt pa ma e q : Nat} {T : List (Nat × Nat)}
theorem kR_new {h : List mCel} {c : Nat} {fs : List Value} : kR (mCell (h ++ [.inr (c, fs)]) (8 + h.length)) c = true := by
  rw [ap_0]
  exact kR_eq rfl
theorem c_RouteK {h : List mCel} : mW (mRo L xs) mTab 132 0 [some (.ref (8 + h.length))] [] (h ++ [.inr (6, mFls TX7 3)]) k =
    some (.inl none, h ++ [.inr (6, [.ref (8 + h.length + 1), .ref (8 + h.length + 2), .int 0]), zI 64, zI 64], k) := by
  rw [fl_7, e132_0, e132_1 (by simp), e132_4, e132_5, e132_7 (by decide), z_int, ap_app, ap_len, e132_9, kP_eq (ap_0) (by simp), ap_set0]
  rw [e132_12, e132_13, e132_15 (by decide), z_int, ap_app, ap_len, e132_17, kP_eq (ap_0) (by simp), ap_set0, e132_20]
  rfl
/-- a new route -/
theorem rt_new {h : List mCel} : RT (8 + h.length) (8 + h.length + 1) (8 + h.length + 2) 0 0 [] (h ++ [.inr (6, [.ref (8 + h.length + 1), .ref (8 + h.length + 2), .int 0]), zI 64, zI 64]) :=
  ⟨⟨Nat.zero_le _, by decide⟩, fun _ => 0, fun _ => 0, ⟨ap_0, ap_cell 1, ap_cell 2, by omega⟩, rfl, fun i x hx => by simp at hx⟩
theorem rt_copied (R : RT rt pa ma e q T h) : ∃ h' pa' ma' e', mW (mRo L xs) mTab 127 0 [some (.ref rt), none] [] h k = some (.inl (some (.ref (8 + h.length))), h', k) ∧ RT (8 + h.length) pa' ma' e' q T h' ∧
    h'.length = h.length + 3 + 2 * e' ∧ hz h' + 256 = hz h + 131 + 256 * 2 ^ e' ∧ mExt (fun _ => False) h h' ∧ (8 + h.length ≤ pa' ∧ 8 + h.length ≤ ma') := by
  have cl := rt_cells R
  have hlen : T.length < 131072 := by
    have := R.1
    have := pow_le R.1.1
    omega
  have K0 : mExt (fun _ => False) h (h ++ [.inr (6, [.ref (8 + h.length + 1), .ref (8 + h.length + 2), .int 0]), zI 64, zI 64]) := ⟨by simp, fun a ha _ => ap_old ha⟩
  have R1 := rt_keep R K0 (fun z => z) (fun z => z) (fun z => z)
  have P0 := rt_poseAt (L := L) (xs := xs) (k := k) R1 (i := 0) (Nat.zero_le _)
  rw [List.take_zero, show Sho.fin q [] = q from rfl, show Int32.ofNat 0 = (0 : Int32) from rfl] at P0
  obtain ⟨h1, A1, A2, A3⟩ := rt_restart (L := L) (xs := xs) (k := k) (rt_new (h := h)) (p := q)
  have R2 := rt_keep R1 (ext_of A3) (fun z => by rcases z with z | z | z <;> omega) (fun z => by rcases z with z | z | z <;> omega) (fun z => by rcases z with z | z | z <;> omega)
  have C1 := rt_count (L := L) (xs := xs) (k := k) R2
  obtain ⟨h2, pa2, ma2, e2, B1, B2, B3, B4, B5, B6, B7, B8⟩ := rt_addFrom (L := L) (xs := xs) (k := k) T.length 0 [] _ _ 0 h1 (some (.int 0)) (by omega) R2 A2 (by omega) (by simp; omega)
  rw [List.drop_zero, List.nil_append] at B2
  have rk1 := kR_eq R1.2.choose_spec.choose_spec.1.1
  have rk2 := kR_eq R2.2.choose_spec.choose_spec.1.1
  have rk3 := kR_eq A2.2.choose_spec.choose_spec.1.1
  have rk0 := kR_eq (rt_new (h := h)).2.choose_spec.choose_spec.1.1
  have l1 : h1.length = h.length + 3 := by rw [A3.1]; simp
  refine ⟨h2, pa2, ma2, e2, ?_, B2, by omega, ?_, ⟨by omega, fun a ha _ => ?_⟩, ?_⟩
  · rw [e127_0, e127_3r, e127_4 kR_new (by simp [Value.category]), c_RouteK]
    simp only [mAft, Option.toList_none, List.nil_append]
    rw [e127_7, e127_8, e127_9, e127_10, e127_11 rk1 (by simp [Value.category])]
    rw [P0]
    simp only [mAft, Option.toList_some, List.cons_append, List.nil_append]
    rw [e127_14 rk0 (by simp [Value.category]), A1]
    simp only [mAft, Option.toList_none, List.nil_append]
    rw [e127_17, e127_18, e127_19, e127_20 rk3 (by simp [Value.category])]
    rw [e125_0, e125_1 rk2 (by simp [Value.category]), C1]
    simp only [mAft, Option.toList_some, List.cons_append, List.nil_append]
    rw [e125_4, e125_5, e125_6]
    rw [show mW (mRo L xs) mTab 125 8 [some (.ref (8 + h.length)), some (.ref rt), some (.int 0), some (.int (Int32.ofNat T.length)), some (.int 0)] [] h1 k = _ from B1]
    simp only [mAft, Option.toList_none, List.nil_append]
    rw [e127_23, e127_24]
  · have z3 : hz (h ++ [.inr (6, [.ref (8 + h.length + 1), .ref (8 + h.length + 2), .int 0]), zI 64, zI 64]) = hz h + 131 := by
      rw [show h ++ [.inr (6, [.ref (8 + h.length + 1), .ref (8 + h.length + 2), .int 0]), zI 64, zI 64] = ((h ++ [.inr (6, [.ref (8 + h.length + 1), .ref (8 + h.length + 2), .int 0])]) ++ [zI 64]) ++ [zI 64] by simp, hz_app, hz_app, hz_app]
      show hz h + 3 + 64 + 64 = hz h + 131
      omega
    have := A3.2.1
    omega
  · have h3 := B6.2 a (by omega) (fun z => by rcases z with z | z | z <;> omega)
    have h4 := A3.2.2 a (fun z => by rcases z with z | z | z <;> omega)
    exact h3.trans (h4.trans (ap_old ha))
  · refine ⟨?_, ?_⟩
    · rcases B7 with w | w <;> omega
    · rcases B8 with w | w <;> omega
end
