section
variable {L : Nat} {xs : Nat → Int32} {k : Nat} {h : List mCel} {rt pa ma e q : Nat} {T : List (Nat × Nat)}
variable {P F cl cu : Nat} {mg : Int32} {fF : List Value} {fc : Nat → Int32} {wt : Nat → Nat → Nat → Nat}
/-- what lies between two poses of a route, with the cusps at both -/
theorem rt_between (H : pcH P F cl cu mg fF fc h) (HW : geoW fc mg wt) (hcu : cu ≤ 100) (hq : q < 2048) (R : RT rt pa ma e q T h) (hTv : ∀ x ∈ T, x.1 < 6 ∧ x.2 < 2048) {E A B : List (Nat × Nat)} (hT : T = E ++ (A ++ B)) :
    mW (mRo L xs) mTab 108 0 [some (.ref P), some (.ref rt), some (.int (Int32.ofNat E.length)), some (.int (Int32.ofNat (E.length + A.length))), none, none, none] [] h k =
      some (.inl (some (.int (Int32.ofNat (tcN cu (Sho.lst none (E ++ A)) (Sho.hd B) + mvW wt (tcN cu) (Sho.lst none E) (Sho.fin q E) A)))), h, k) := by
  have rk := kR_eq R.2.choose_spec.choose_spec.1.1
  have hT2 : T = (E ++ A) ++ B := by rw [hT, List.append_assoc]
  have hEA : ∀ y ∈ E ++ A, y.1 < 6 ∧ y.2 < 2048 := fun y hy => hTv y (by rw [hT2]; exact List.mem_append_left _ hy)
  have hB : ∀ y ∈ B, y.1 < 6 ∧ y.2 < 2048 := fun y hy => hTv y (by rw [hT2]; exact List.mem_append_right _ hy)
  have p1 := rt_prev (L := L) (xs := xs) (k := k) R hT2
  have p2 := rt_next (L := L) (xs := xs) (k := k) R hT2
  rw [List.length_append] at p1 p2
  rw [e108_0, e108_1, e108_2, e108_3, e108_4, e108_5 rk (by simp [Value.category]), p1]
  simp only [mAft, Option.toList_some, List.cons_append, List.nil_append]
  rw [e108_8, e108_9, e108_10 rk (by simp [Value.category]), p2]
  simp only [mAft, Option.toList_some, List.cons_append, List.nil_append]
  rw [e108_13 (kR_eq H.1) (by simp [Value.category]), c_tcN (lst_lt hEA) (hd_lt hB) H]
  simp only [mAft, Option.toList_some, List.cons_append, List.nil_append]
  rw [e108_16, e108_18, e108_19]
  exact between_loop H HW hcu hq R hTv A E B _ none hT rfl
theorem rt_cost (H : pcH P F cl cu mg fF fc h) (HW : geoW fc mg wt) (hcu : cu ≤ 100) (hq : q < 2048) (R : RT rt pa ma e q T h) (hTv : ∀ x ∈ T, x.1 < 6 ∧ x.2 < 2048) :
    mW (mRo L xs) mTab 109 0 [some (.ref P), some (.ref rt)] [] h k = some (.inl (some (.int (Int32.ofNat (mvW wt (tcN cu) none q T)))), h, k) := by
  have rk := kR_eq R.2.choose_spec.choose_spec.1.1
  have b := rt_between (L := L) (xs := xs) (k := k) H HW hcu hq R hTv (E := []) (A := T) (B := []) (by simp)
  rw [show ([] : List (Nat × Nat)).length + T.length = T.length by simp] at b
  rw [e109_0, e109_1, e109_2, e109_3, e109_4 rk (by simp [Value.category]), rt_count R]
  simp only [mAft, Option.toList_some, List.cons_append, List.nil_append]
  rw [e109_7 (kR_eq H.1) (by simp [Value.category]), show (0 : Int32) = Int32.ofNat ([] : List (Nat × Nat)).length from rfl, b]
  simp only [mAft, Option.toList_some, List.cons_append, List.nil_append]
  rw [e109_10]
  have e0 : tcN cu (Sho.lst none T) (Sho.hd []) = 0 := by
    unfold tcN Sho.hd
    split
    · next h1 => cases h1
    · rfl
  rw [e0, Nat.zero_add]
  rfl
end
