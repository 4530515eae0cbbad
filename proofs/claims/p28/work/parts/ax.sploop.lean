section
variable {L : Nat} {xs : Nat → Int32} {k : Nat} {h : List mCel}
theorem rst_at {E B : List (Nat × Nat)} {a b : Nat × Nat} : rst (E ++ [a]) (b :: B) ↔ ¬ decide (a.1 < 3) = decide (b.1 < 3) := by
  unfold rst
  have e1 : Sho.lst none (E ++ [a]) = some a.1 := by rw [lst_app]; rfl
  rw [e1, show Sho.hd (b :: B) = some b.1 from rfl]
  unfold tcN
  dsimp only
  by_cases z : decide (a.1 < 3) = decide (b.1 < 3)
  · rw [if_pos z]
    refine ⟨fun y => ?_, fun y => absurd z y⟩
    rcases y with y | y | y
    · simp at y
    · cases y
    · exact absurd rfl y
  · rw [if_neg z]
    exact ⟨fun _ => z, fun _ => Or.inr (Or.inr (by decide))⟩
theorem le_2 {m : Nat} (hm : m < 6) : (Int32.ofNat m ≤ 2) ↔ m < 3 := by
  rw [show (2 : Int32) = Int32.ofNat 2 from rfl, oi_le (by omega) (by decide)]
  omega
theorem cut_2 {T : List (Nat × Nat)} {j : Nat} (h1 : 1 ≤ j) (h2 : j < T.length) : ∃ E a b B, T = E ++ a :: b :: B ∧ j = E.length + 1 := by
  have e := List.take_append_drop (j - 1) T
  have l := List.length_drop (i := j - 1) (l := T)
  cases hd : T.drop (j - 1) with
  | nil => rw [hd, List.length_nil] at l; omega
  | cons a X =>
    cases X with
    | nil => rw [hd, List.length_singleton] at l; omega
    | cons b B =>
      refine ⟨T.take (j - 1), a, b, B, by rw [← hd, e], ?_⟩
      rw [List.length_take]
      omega

variable {oc np fr be cu mg st ar fa sl isr rq : Nat} {rT : List (Nat × Nat)} {gone : Nat → Bool} {pl : List (Nat × List (Nat × Nat))} {s : wS} {cov fcl fop fg fz fe : Nat → Int32}

theorem pl_sp {i q : Nat} {T : List (Nat × Nat)} (hi : pl[i]? = some (q, T)) (hTv : ∀ x ∈ T, x.1 < 6 ∧ x.2 < 2048) (hTl : T.length ≤ 113068) {l2 l3 l5 l6 l8 l9 : Option Value} : ∀ (d j : Nat) (h : List mCel) (l11 l12 : Option Value), j + d = 6 → 1 ≤ j → SH oc np fr be cu mg st ar fa sl isr rq rT gone pl s cov fcl fop fg fz fe h →
    ∃ h', mW (mRo L xs) mTab 169 319 [some (.ref 8), some (.int (Int32.ofNat i)), l2, l3, some (.int (Int32.ofNat T.length)), l5, l6, some (.int 1), l8, l9, some (.int (Int32.ofNat j)), l11, l12] [] h k = some (.inl (some (.int 1)), h', k) ∧ SH oc np fr be cu mg st ar fa sl isr rq rT gone pl s cov fcl fop fg fz fe h' := by
  intro d
  induction d with
  | zero =>
    intro j h l11 l12 hd h1 H
    have h6 : ¬ j < 6 := by omega
    by_cases z : T.length ≤ j
    · refine ⟨h, ?_, H⟩
      rw [e169_319, e169_321, e169_323, if_pos (by rw [oi_le (by omega) (by omega)]; omega), e169_440, e169_442 (Or.inr rfl)]
    · refine ⟨h, ?_, H⟩
      rw [e169_319, e169_321, e169_323, if_neg (by rw [oi_le (by omega) (by omega)]; omega), e169_326, e169_328, e169_330, if_pos (show (6 : Int32) ≤ _ from (by rw [show (6 : Int32) = Int32.ofNat 6 from rfl, oi_le (by decide) (by omega)]; omega)), e169_440, e169_442 (Or.inr rfl)]
  | succ d IH =>
    intro j h l11 l12 hd h1 H
    by_cases z : T.length ≤ j
    · refine ⟨h, ?_, H⟩
      rw [e169_319, e169_321, e169_323, if_pos (by rw [oi_le (by omega) (by omega)]; omega), e169_440, e169_442 (Or.inr rfl)]
    · obtain ⟨E, a, b, B, hT, hjE⟩ := cut_2 h1 (show j < T.length by omega)
      subst hjE
      have hT2 : T = (E ++ [a]) ++ b :: B := by rw [hT]; simp
      have l2' : (E ++ [a]).length = E.length + 1 := by rw [List.length_append, List.length_singleton]
      have a6 := (hTv a (by rw [hT]; simp)).1
      have b6 := (hTv b (by rw [hT]; simp)).1
      have hj : E.length + 1 ≤ T.length := by omega
      have pm : Int32.ofNat (E.length + 1) - 1 = Int32.ofNat E.length := by
        rw [oi_add]; exact Int32.add_sub_cancel _ _
      have tk : T.take (E.length + 1) = E ++ [a] := by rw [hT2, ← l2', List.take_left]
      have dr : T.drop (E.length + 1) = b :: B := by rw [hT2, ← l2', List.drop_left]
      have mb := sh_moveOf (L := L) (xs := xs) (k := k) H hi hT2
      rw [l2'] at mb
      have ma := sh_moveOf (L := L) (xs := xs) (k := k) H hi hT
      obtain ⟨h1, f, sp, A2, A3, A4⟩ := sh_speed (L := L) (xs := xs) (k := k) H hi hj
      have tail : ∀ (l11 : Option Value) (h1 : List mCel) (f : Nat → UInt32), SH oc np fr be cu mg st ar fa sl isr rq rT gone pl s cov fcl fop fg fz fe h1 → SqV st ar fa sl q T f → Fok (f (E.length + 1)) → ∃ h', mW (mRo L xs) mTab 169 413 [some (.ref 8), some (.int (Int32.ofNat i)), l2, l3, some (.int (Int32.ofNat T.length)), l5, l6, some (.int 1), l8, l9, some (.int (Int32.ofNat (E.length + 1))), l11, some (.float (f (E.length + 1)))] [] h1 k = some (.inl (some (.int 1)), h', k) ∧ SH oc np fr be cu mg st ar fa sl isr rq rT gone pl s cov fcl fop fg fz fe h' := by
        intro l11 h1 f H1 V1 F1
        obtain ⟨h2, g, v, p1, p2, p3, p4, p5⟩ := sh_peak (L := L) (xs := xs) (k := k) H1 hi
        have eg := sqV_one V1 p3 _ hj
        have le := p5 _ hj
        rw [← eg] at le
        obtain ⟨n1, n2⟩ := sp_lt F1 p4 le
        obtain ⟨h3, q1, q2⟩ := IH (E.length + 1 + 1) h2 l11 (some (.float (f (E.length + 1)))) (by omega) (by omega) p2
        refine ⟨h3, ?_, q2⟩
        rw [e169_413, e169_415, e169_416, e169_417, e169_418 (by simp [Value.category]), p1]
        simp only [mAft, Option.toList_some, List.cons_append, List.nil_append]
        rw [e169_421, e169_422, kFN_ok n1, e169_423, e169_424, if_neg (by rw [n2]; decide), e169_427, e169_428, e169_432, e169_434, oi_succ, e169_437]
        exact q1
      by_cases ya : a.1 < 3
      · by_cases yb : b.1 < 3
        · have rs : ¬ rst (T.take (E.length + 1)) (T.drop (E.length + 1)) := by rw [tk, dr]; exact fun z => rst_at.mp z (by rw [decide_eq_true (p := a.1 < 3) ya, decide_eq_true (p := b.1 < 3) yb])
          have ha : Int32.ofNat a.1 ≤ 2 := (le_2 a6).mpr ya
          have hb : Int32.ofNat b.1 ≤ 2 := (le_2 b6).mpr yb
          obtain ⟨h2, t1, t2⟩ := tail _ h1 f A2 A4 (A3 _ hj).1
          refine ⟨h2, ?_, t2⟩
          rw [e169_319, e169_321, e169_323, if_neg (by rw [oi_le (by omega) (by omega)]; omega), e169_326, e169_328, e169_330, if_neg (show ¬ (6 : Int32) ≤ _ from (by rw [show (6 : Int32) = Int32.ofNat 6 from rfl, oi_le (by decide) (by omega)]; omega)), e169_333, e169_335, if_neg (by decide), e169_338, e169_339, e169_340, e169_342 (by simp [Value.category]), mb]
          simp only [mAft, Option.toList_some, List.cons_append, List.nil_append]
          rw [e169_345, e169_346, if_pos hb, e169_353, e169_354, e169_355, e169_356, e169_358, e169_359, pm, e169_360 (by simp [Value.category]), ma]
          simp only [mAft, Option.toList_some, List.cons_append, List.nil_append]
          rw [e169_363, e169_364, if_pos ha, e169_371, e169_372, if_pos (by decide), e169_379, e169_380, e169_382, e169_383, e169_384, e169_386 (by simp [Value.category]), sp]
          simp only [mAft, Option.toList_some, List.cons_append, List.nil_append]
          rw [e169_389]
          rw [e169_391, e169_393, if_pos (by decide), e169_406, e169_408, e169_409, e169_410, if_neg (by rw [fz_gt (A3 _ hj).1 ((A3 _ hj).2.2 rs)]; decide)]
          exact t1
        · have rs : rst (T.take (E.length + 1)) (T.drop (E.length + 1)) := by rw [tk, dr]; exact rst_at.mpr (by rw [decide_eq_true (p := a.1 < 3) ya, decide_eq_false (p := b.1 < 3) yb]; decide)
          have ha : Int32.ofNat a.1 ≤ 2 := (le_2 a6).mpr ya
          have hb : ¬ Int32.ofNat b.1 ≤ 2 := fun z => yb ((le_2 b6).mp z)
          obtain ⟨h2, t1, t2⟩ := tail _ h1 f A2 A4 (A3 _ hj).1
          refine ⟨h2, ?_, t2⟩
          rw [e169_319, e169_321, e169_323, if_neg (by rw [oi_le (by omega) (by omega)]; omega), e169_326, e169_328, e169_330, if_neg (show ¬ (6 : Int32) ≤ _ from (by rw [show (6 : Int32) = Int32.ofNat 6 from rfl, oi_le (by decide) (by omega)]; omega)), e169_333, e169_335, if_neg (by decide), e169_338, e169_339, e169_340, e169_342 (by simp [Value.category]), mb]
          simp only [mAft, Option.toList_some, List.cons_append, List.nil_append]
          rw [e169_345, e169_346, if_neg hb, e169_349, e169_350, e169_354, e169_355, e169_356, e169_358, e169_359, pm, e169_360 (by simp [Value.category]), ma]
          simp only [mAft, Option.toList_some, List.cons_append, List.nil_append]
          rw [e169_363, e169_364, if_pos ha, e169_371, e169_372, if_neg (by decide), e169_375, e169_376, e169_380, e169_382, e169_383, e169_384, e169_386 (by simp [Value.category]), sp]
          simp only [mAft, Option.toList_some, List.cons_append, List.nil_append]
          rw [e169_389]
          rw [e169_391, e169_393, if_neg (by decide), e169_396, e169_398, e169_399, e169_400, if_neg (by rw [fz_eq (A3 _ hj).1 ((A3 _ hj).2.1 rs)]; decide), e169_403]
          exact t1
      · by_cases yb : b.1 < 3
        · have rs : rst (T.take (E.length + 1)) (T.drop (E.length + 1)) := by rw [tk, dr]; exact rst_at.mpr (by rw [decide_eq_false (p := a.1 < 3) ya, decide_eq_true (p := b.1 < 3) yb]; decide)
          have ha : ¬ Int32.ofNat a.1 ≤ 2 := fun z => ya ((le_2 a6).mp z)
          have hb : Int32.ofNat b.1 ≤ 2 := (le_2 b6).mpr yb
          obtain ⟨h2, t1, t2⟩ := tail _ h1 f A2 A4 (A3 _ hj).1
          refine ⟨h2, ?_, t2⟩
          rw [e169_319, e169_321, e169_323, if_neg (by rw [oi_le (by omega) (by omega)]; omega), e169_326, e169_328, e169_330, if_neg (show ¬ (6 : Int32) ≤ _ from (by rw [show (6 : Int32) = Int32.ofNat 6 from rfl, oi_le (by decide) (by omega)]; omega)), e169_333, e169_335, if_neg (by decide), e169_338, e169_339, e169_340, e169_342 (by simp [Value.category]), mb]
          simp only [mAft, Option.toList_some, List.cons_append, List.nil_append]
          rw [e169_345, e169_346, if_pos hb, e169_353, e169_354, e169_355, e169_356, e169_358, e169_359, pm, e169_360 (by simp [Value.category]), ma]
          simp only [mAft, Option.toList_some, List.cons_append, List.nil_append]
          rw [e169_363, e169_364, if_neg ha, e169_367, e169_368, e169_372, if_neg (by decide), e169_375, e169_376, e169_380, e169_382, e169_383, e169_384, e169_386 (by simp [Value.category]), sp]
          simp only [mAft, Option.toList_some, List.cons_append, List.nil_append]
          rw [e169_389]
          rw [e169_391, e169_393, if_neg (by decide), e169_396, e169_398, e169_399, e169_400, if_neg (by rw [fz_eq (A3 _ hj).1 ((A3 _ hj).2.1 rs)]; decide), e169_403]
          exact t1
        · have rs : ¬ rst (T.take (E.length + 1)) (T.drop (E.length + 1)) := by rw [tk, dr]; exact fun z => rst_at.mp z (by rw [decide_eq_false (p := a.1 < 3) ya, decide_eq_false (p := b.1 < 3) yb])
          have ha : ¬ Int32.ofNat a.1 ≤ 2 := fun z => ya ((le_2 a6).mp z)
          have hb : ¬ Int32.ofNat b.1 ≤ 2 := fun z => yb ((le_2 b6).mp z)
          obtain ⟨h2, t1, t2⟩ := tail _ h1 f A2 A4 (A3 _ hj).1
          refine ⟨h2, ?_, t2⟩
          rw [e169_319, e169_321, e169_323, if_neg (by rw [oi_le (by omega) (by omega)]; omega), e169_326, e169_328, e169_330, if_neg (show ¬ (6 : Int32) ≤ _ from (by rw [show (6 : Int32) = Int32.ofNat 6 from rfl, oi_le (by decide) (by omega)]; omega)), e169_333, e169_335, if_neg (by decide), e169_338, e169_339, e169_340, e169_342 (by simp [Value.category]), mb]
          simp only [mAft, Option.toList_some, List.cons_append, List.nil_append]
          rw [e169_345, e169_346, if_neg hb, e169_349, e169_350, e169_354, e169_355, e169_356, e169_358, e169_359, pm, e169_360 (by simp [Value.category]), ma]
          simp only [mAft, Option.toList_some, List.cons_append, List.nil_append]
          rw [e169_363, e169_364, if_neg ha, e169_367, e169_368, e169_372, if_pos (by decide), e169_379, e169_380, e169_382, e169_383, e169_384, e169_386 (by simp [Value.category]), sp]
          simp only [mAft, Option.toList_some, List.cons_append, List.nil_append]
          rw [e169_389]
          rw [e169_391, e169_393, if_pos (by decide), e169_406, e169_408, e169_409, e169_410, if_neg (by rw [fz_gt (A3 _ hj).1 ((A3 _ hj).2.2 rs)]; decide)]
          exact t1
end
