section
variable {L : Nat} {xs : Nat → Int32} {k : Nat} {h : List mCel} {rt pa ma e0 q : Nat} {T : List (Nat × Nat)}
variable {pc sq n st ar fa sl : Nat} {f : Nat → UInt32}
def fCel (n : Nat) (f : Nat → UInt32) : mCel := .inl (2, n, .inr (.inr (.inl f)))
theorem kAL_f {ro : Nat → Nat × (Nat → Int32)} {h : List mCel} {a n : Nat} {f : Nat → UInt32} {k : Int32 → Option mOut} (hc : mCell h a = some (fCel n f)) : kAL ro h a k = k (Int32.ofNat n) := by
  unfold kAL; rw [if_neg (by have := (cell_8 hc).1; omega), hc]; rfl
theorem kFA_f {h : List mCel} {a n : Nat} {f : Nat → UInt32} {j : Int32} {k : UInt32 → Option mOut} (hc : mCell h a = some (fCel n f)) (hj : 0 ≤ j.toInt ∧ j.toInt < n) : kFA h a j k = k (f j.toNatClampNeg) := by
  unfold kFA; rw [hc]; exact if_pos hj
theorem kFS_f {h : List mCel} {a n : Nat} {f : Nat → UInt32} {j : Int32} {k : Nat → (Nat → UInt32) → Option mOut} (hc : mCell h a = some (fCel n f)) (hj : 0 ≤ j.toInt ∧ j.toInt < n) : kFS h a j k = k n f := by
  unfold kFS; rw [hc]; exact if_pos hj
theorem vf_at (f : Nat → UInt32) (i : Nat) (v : UInt32) : vf_upd f i v i = v := by unfold vf_upd; rw [if_pos rfl]
theorem vf_ne (f : Nat → UInt32) {i j : Nat} (v : UInt32) (hj : j ≠ i) : vf_upd f i v j = f j := by unfold vf_upd; rw [if_neg hj]
/-- the object that reckons speeds, and its squares -/
def paH (pc sq n st ar fa sl : Nat) (f : Nat → UInt32) (h : List mCel) : Prop := mCell h pc = some (.inr (2, [.int (Int32.ofNat st), .int (Int32.ofNat ar), .int (Int32.ofNat fa), .int (Int32.ofNat sl), .ref sq])) ∧ mCell h sq = some (fCel n f)
theorem c_squareAt (H : paH pc sq n st ar fa sl f h) {i : Nat} (hn : n ≤ 1000000) (hi : i < n) : mW (mRo L xs) mTab 99 0 [some (.ref pc), some (.int (Int32.ofNat i))] [] h k = some (.inl (some (.float (f i))), h, k) := by
  have hin : 0 ≤ (Int32.ofNat i).toInt ∧ (Int32.ofNat i).toInt < n := by rw [oi_int (by omega)]; omega
  rw [e99_0, e99_1, if_neg (oi_nneg (by omega)), e99_4, e99_5, e99_6, kF_eq H.1 (v := .ref sq) rfl, e99_9, kAL_f H.2, e99_10, if_neg (by rw [oi_le (by omega) (by omega)]; omega), e99_13, e99_14, kF_eq H.1 (v := .ref sq) rfl, e99_17, e99_18, kFA_f H.2 hin, oi_nat (by omega), e99_19, e99_23]
theorem c_putSq (H : paH pc sq n st ar fa sl f h) {i : Nat} {v : UInt32} (hn : n ≤ 1000000) (hi : i < n) : mW (mRo L xs) mTab 96 0 [some (.ref pc), some (.int (Int32.ofNat i)), some (.float v)] [] h k = some (.inl none, h.set (sq - 8) (fCel n (vf_upd f i v)), k) ∧
    paH pc sq n st ar fa sl (vf_upd f i v) (h.set (sq - 8) (fCel n (vf_upd f i v))) ∧ mKeep (fun a => a = sq) h (h.set (sq - 8) (fCel n (vf_upd f i v))) := by
  have hin : 0 ≤ (Int32.ofNat i).toInt ∧ (Int32.ofNat i).toInt < n := by rw [oi_int (by omega)]; omega
  have ne : sq ≠ pc := cell_ne H.2 H.1 (fun z => by cases z)
  refine ⟨?_, ⟨(cell_setne ne (cell_8 H.2).1).trans H.1, cell_set H.2⟩, keep_set H.2 rfl rfl⟩
  rw [e96_0, e96_1, if_neg (oi_nneg (by omega)), e96_4, e96_5, e96_6, kF_eq H.1 (v := .ref sq) rfl, e96_9, kAL_f H.2, e96_10, if_neg (by rw [oi_le (by omega) (by omega)]; omega), e96_13, e96_14, kF_eq H.1 (v := .ref sq) rfl, e96_17, e96_18, e96_19, kFS_f H.2 hin, oi_nat (by omega), e96_20]
  rfl
/-- no speed is there: at both ends, and at cusps -/
def rst (E B : List (Nat × Nat)) : Prop := E = [] ∨ B = [] ∨ tcN 1 (Sho.lst none E) (Sho.hd B) ≠ 0
theorem c_isRest (R : RT rt pa ma e0 q T h) (hTv : ∀ x ∈ T, x.1 < 6 ∧ x.2 < 2048) {E B : List (Nat × Nat)} (hT : T = E ++ B) : mW (mRo L xs) mTab 92 0 [some (.ref rt), some (.int (Int32.ofNat E.length))] [] h k = some (.inl (some (.int (@ite _ (rst E B) (Classical.propDecidable _) 1 0))), h, k) := by
  have hl := rt_l17 R
  have hTl : T.length = E.length + B.length := by rw [hT, List.length_append]
  have rk := kR_eq R.2.choose_spec.choose_spec.1.1
  have yes : mW (mRo L xs) mTab 92 20 [some (.ref rt), some (.int (Int32.ofNat E.length))] [] h k = some (.inl (some (.int 1)), h, k) := by
    rw [e92_20, e92_21, e92_25 (Or.inr rfl)]
  have z0 : ∀ i, i < 2 ^ 31 → ((Int32.ofNat i = 0) ↔ i = 0) := fun i hi => by
    refine ⟨fun z => ?_, fun z => by rw [z]; rfl⟩
    have := congrArg Int32.toInt z
    rw [oi_int hi] at this
    have h2 : (0 : Int32).toInt = 0 := rfl
    omega
  rw [e92_0, e92_1]
  by_cases h1 : E = []
  · rw [if_pos (show Int32.ofNat E.length = 0 by rw [h1]; rfl), yes, if_pos (show rst E B from Or.inl h1)]
  · have l1 : E.length ≠ 0 := fun z => h1 (List.length_eq_zero_iff.mp z)
    rw [if_neg (fun z => l1 ((z0 _ (by omega)).mp z)), e92_4, e92_5, e92_6 rk (by simp [Value.category]), rt_count R]
    simp only [mAft, Option.toList_some, List.cons_append, List.nil_append]
    rw [e92_9]
    by_cases h2 : B = []
    · rw [if_pos (by rw [hTl, h2]; rfl), yes, if_pos (show rst E B from Or.inr (Or.inl h2))]
    · have l2 : B.length ≠ 0 := fun z => h2 (List.length_eq_zero_iff.mp z)
      rw [if_neg (fun z => by
        have := congrArg Int32.toInt z
        rw [oi_int (by omega), oi_int (by omega)] at this
        omega), e92_12, e92_13, e92_14 rk (by simp [Value.category]), rt_isCusp R hTv hT]
      simp only [mAft, Option.toList_some, List.cons_append, List.nil_append]
      rw [e92_17]
      by_cases h3 : tcN 1 (Sho.lst none E) (Sho.hd B) = 0
      · rw [if_pos h3, if_pos rfl, e92_24, e92_25 (Or.inl rfl), if_neg (fun z => z.elim h1 (fun z => z.elim h2 (fun z => z h3)))]
      · rw [if_neg h3, if_neg (by decide), yes, if_pos (show rst E B from Or.inr (Or.inr h3))]
theorem c_limitOf (H : paH pc sq n st ar fa sl f h) {m : Nat} (hm : m < 6) : mW (mRo L xs) mTab 95 0 [some (.ref pc), some (.int (Int32.ofNat m))] [] h k = some (.inl (some (.float (FP.i2f (Int32.ofNat (if m % 3 = 0 then st else ar))))), h, k) := by
  have e03 : (Int32.ofNat m = 0 ∨ Int32.ofNat m = 3) ↔ m % 3 = 0 := by
    obtain rfl | rfl | rfl | rfl | rfl | rfl : m = 0 ∨ m = 1 ∨ m = 2 ∨ m = 3 ∨ m = 4 ∨ m = 5 := by omega
    all_goals decide
  rw [e95_0, e95_1 (by simp [Value.category]), c_isArc]
  simp only [mAft, Option.toList_some, List.cons_append, List.nil_append]
  rw [e95_4]
  by_cases h3 : m % 3 = 0
  · rw [if_pos (e03.mpr h3), if_pos rfl, if_pos h3, e95_15, e95_16, kF_eq H.1 (v := .int (Int32.ofNat st)) rfl, e95_19, e95_20]
  · rw [if_neg (fun z => h3 (e03.mp z)), if_neg (by decide), if_neg h3, e95_7, e95_8, kF_eq H.1 (v := .int (Int32.ofNat ar)) rfl, e95_11, e95_12, e95_20]
theorem c_change (R : RT rt pa ma e0 q T h) (hq : q < 2048) (hTv : ∀ x ∈ T, x.1 < 6 ∧ x.2 < 2048) {E B : List (Nat × Nat)} {b : Nat × Nat} (hT : T = E ++ b :: B) {r : Nat} (hr : r ≤ 30) (hr0 : r ≠ 0) :
    mW (mRo L xs) mTab 88 0 [some (.ref rt), some (.int (Int32.ofNat E.length)), some (.int (Int32.ofNat r))] [] h k = some (.inl (some (.float (chF r (Sho.fin q E) b.1))), h, k) := by
  have rk := kR_eq R.2.choose_spec.choose_spec.1.1
  have hE : Sho.fin q E < 2048 := fin_lt hq (fun y hy => hTv y (by rw [hT]; exact List.mem_append_left _ hy))
  have hb := (hTv b (by rw [hT]; simp)).1
  obtain ⟨n1, c1⟩ := chg_ok hr hr0 (Sho.fin q E) b.1
  have n2 := c1.1.ne_nan
  unfold chF at n2 ⊢
  rw [e88_0, e88_1, e88_2, e88_3, kFN_ok n1, e88_4, e88_5, e88_6 rk (by simp [Value.category]), rt_poseE R hT]
  simp only [mAft, Option.toList_some, List.cons_append, List.nil_append]
  rw [e88_9, e88_10, e88_11 rk (by simp [Value.category]), rt_next R hT]
  simp only [mAft, Option.toList_some, List.cons_append, List.nil_append]
  rw [show oI (Sho.hd (b :: B)) = Int32.ofNat b.1 from rfl, e88_14 (by simp [Value.category]), c_lengthOf hE hb]
  simp only [mAft, Option.toList_some, List.cons_append, List.nil_append]
  rw [e88_17, kFN_ok n2, e88_18]
/-- what the settings of speeds must be -/
def spOk (st ar fa sl : Nat) : Prop := (st ≤ 300 ∧ st ≠ 0) ∧ (ar ≤ 300 ∧ ar ≠ 0) ∧ (fa ≤ 30 ∧ fa ≠ 0) ∧ sl ≤ 30 ∧ sl ≠ 0
theorem lim_m {m : Nat} (S : spOk st ar fa sl) : Fok (FP.i2f (Int32.ofNat (if m % 3 = 0 then st else ar))) ∧ 0 < Zf (FP.i2f (Int32.ofNat (if m % 3 = 0 then st else ar))) := by
  split
  · exact lim_ok S.1.1 S.1.2
  · exact lim_ok S.2.1.1 S.2.1.2
/-- what is reckoned from the square before -/
theorem c_fromBefore (H : paH pc sq n st ar fa sl f h) (hn : n ≤ 1000000) (S : spOk st ar fa sl) (R : RT rt pa ma e0 q T h) (hq : q < 2048) (hTv : ∀ x ∈ T, x.1 < 6 ∧ x.2 < 2048) {E B : List (Nat × Nat)} {a b : Nat × Nat} (hT : T = E ++ a :: b :: B) (hin : E.length < n) (hf : Fok (f E.length)) :
    ∃ v, v = lsF (lsF (FP.i2f (Int32.ofNat (if a.1 % 3 = 0 then st else ar))) (FP.i2f (Int32.ofNat (if b.1 % 3 = 0 then st else ar)))) (FP.fadd (f E.length) (chF fa (Sho.fin q E) a.1)) ∧ Fok v ∧ 0 < Zf v ∧ mW (mRo L xs) mTab 89 0 [some (.ref pc), some (.ref rt), some (.int (Int32.ofNat (E.length + 1))), none] [] h k = some (.inl (some (.float v)), h, k) := by
  have rk := kR_eq R.2.choose_spec.choose_spec.1.1
  have rp := kR_eq H.1
  have hT2 : T = (E ++ [a]) ++ b :: B := by rw [hT]; simp
  have l2 : (E ++ [a]).length = E.length + 1 := by rw [List.length_append, List.length_singleton]
  have ha := (hTv a (by rw [hT]; simp)).1
  have hb := (hTv b (by rw [hT]; simp)).1
  have pm : Int32.ofNat (E.length + 1) - 1 = Int32.ofNat E.length := by
    rw [oi_add]; exact Int32.add_sub_cancel _ _
  have m1 := rt_next (L := L) (xs := xs) (k := k) R hT
  have m2 := rt_next (L := L) (xs := xs) (k := k) R hT2
  rw [l2] at m2
  obtain ⟨f1, p1⟩ := lim_m (m := a.1) S
  obtain ⟨f2, p2⟩ := lim_m (m := b.1) S
  have c1 := c_limitOf (L := L) (xs := xs) (k := k) H ha
  have c2 := c_limitOf (L := L) (xs := xs) (k := k) H hb
  have c3 := c_squareAt (L := L) (xs := xs) (k := k) H hn hin
  have c4 := c_change (L := L) (xs := xs) (k := k) R hq hTv hT S.2.2.1.1 S.2.2.1.2
  obtain ⟨_, ch⟩ := chg_ok S.2.2.1.1 S.2.2.1.2 (Sho.fin q E) a.1
  generalize FP.i2f (Int32.ofNat (if a.1 % 3 = 0 then st else ar)) = l1 at *
  generalize FP.i2f (Int32.ofNat (if b.1 % 3 = 0 then st else ar)) = l2' at *
  obtain ⟨g1, _, g3⟩ := ls_pos f1 f2.1.ne_nan p2
  have g4 := g3 p1
  have c5 := c_lesser (L := L) (xs := xs) (k := k) (h := h) f1.1.ne_nan f2.1.ne_nan
  generalize lsF l1 l2' = l3 at *
  obtain ⟨s1, s2⟩ := fadd_pos hf ch
  obtain ⟨g5, _, g6⟩ := ls_pos g1 s1 s2
  have c6 := c_lesser (L := L) (xs := xs) (k := k) (h := h) g1.1.ne_nan s1
  refine ⟨_, rfl, g5, g6 g4, ?_⟩
  rw [e89_0, e89_1, e89_2, e89_3, e89_4, pm, e89_5 rk (by simp [Value.category]), m1]
  simp only [mAft, Option.toList_some, List.cons_append, List.nil_append]
  rw [show oI (Sho.hd (a :: b :: B)) = Int32.ofNat a.1 from rfl, e89_8 rp (by simp [Value.category]), c1]
  simp only [mAft, Option.toList_some, List.cons_append, List.nil_append]
  rw [e89_11, e89_12, e89_13, e89_14 rk (by simp [Value.category]), m2]
  simp only [mAft, Option.toList_some, List.cons_append, List.nil_append]
  rw [show oI (Sho.hd (b :: B)) = Int32.ofNat b.1 from rfl, e89_17 rp (by simp [Value.category]), c2]
  simp only [mAft, Option.toList_some, List.cons_append, List.nil_append]
  rw [e89_20 (by simp [Value.category]), c5]
  simp only [mAft, Option.toList_some, List.cons_append, List.nil_append]
  rw [e89_23, e89_24, e89_25, e89_26, e89_27, e89_28, pm, e89_29 rp (by simp [Value.category]), c3]
  simp only [mAft, Option.toList_some, List.cons_append, List.nil_append]
  rw [e89_32, e89_33, e89_34, e89_35, pm, e89_36, e89_37, kF_eq H.1 (v := .int (Int32.ofNat fa)) rfl, e89_40 (by simp [Value.category]), c4]
  simp only [mAft, Option.toList_some, List.cons_append, List.nil_append]
  rw [e89_43, kFN_ok s1, e89_44 (by simp [Value.category]), c6]
  simp only [mAft, Option.toList_some, List.cons_append, List.nil_append]
  rw [e89_47]
def mvA (T : List (Nat × Nat)) (j : Nat) : Nat := match T[j]? with
  | some x => x.1
  | none => 0
theorem mvA_at {T E B : List (Nat × Nat)} {b : Nat × Nat} (h : T = E ++ b :: B) : mvA T E.length = b.1 := by
  unfold mvA
  rw [h, List.getElem?_append_right (Nat.le_refl _), Nat.sub_self]
  rfl
/-- the square that is put at a place on the way onward -/
noncomputable def fwV (st ar fa q : Nat) (T : List (Nat × Nat)) (i : Nat) (p : UInt32) : UInt32 :=
  @ite _ (rst (T.take i) (T.drop i)) (Classical.propDecidable _) 0 (lsF (lsF (FP.i2f (Int32.ofNat (if mvA T (i - 1) % 3 = 0 then st else ar))) (FP.i2f (Int32.ofNat (if mvA T i % 3 = 0 then st else ar)))) (FP.fadd p (chF fa (Sho.fin q (T.take (i - 1))) (mvA T (i - 1)))))
/-- squares as they must be, below a place -/
def sqOk (T : List (Nat × Nat)) (f : Nat → UInt32) (i : Nat) : Prop := Fok (f i) ∧ (rst (T.take i) (T.drop i) → Zf (f i) = 0) ∧ (¬ rst (T.take i) (T.drop i) → 0 < Zf (f i))
def sqFw (st ar fa q : Nat) (T : List (Nat × Nat)) (f : Nat → UInt32) (i : Nat) : Prop := sqOk T f i ∧ f i = fwV st ar fa q T i (f (i - 1))
theorem fwd_loop (hn : n ≤ 1000000) (S : spOk st ar fa sl) (hq : q < 2048) (hTv : ∀ x ∈ T, x.1 < 6 ∧ x.2 < 2048) (hsz : T.length < n) (D : ¬ rt = sq ∧ ¬ pa = sq ∧ ¬ ma = sq) : ∀ (B E : List (Nat × Nat)) (f : Nat → UInt32) (h : List mCel), T = E ++ B → RT rt pa ma e0 q T h → paH pc sq n st ar fa sl f h → (∀ j, j < E.length → sqFw st ar fa q T f j) →
    ∃ h' f', mW (mRo L xs) mTab 97 25 [some (.ref pc), some (.ref rt), some (.int (Int32.ofNat T.length)), some (.int (Int32.ofNat E.length))] [] h k = mW (mRo L xs) mTab 97 59 [some (.ref pc), some (.ref rt), some (.int (Int32.ofNat T.length)), some (.int (Int32.ofNat (T.length + 1)))] [] h' k ∧
      paH pc sq n st ar fa sl f' h' ∧ mKeep (fun a => a = sq) h h' ∧ ∀ j, j ≤ T.length → sqFw st ar fa q T f' j := by
  intro B
  -- one place
  have one : ∀ (E B : List (Nat × Nat)) (f : Nat → UInt32) (h : List mCel), T = E ++ B → RT rt pa ma e0 q T h → paH pc sq n st ar fa sl f h → (∀ j, j < E.length → sqFw st ar fa q T f j) →
      ∃ h' f', mW (mRo L xs) mTab 97 25 [some (.ref pc), some (.ref rt), some (.int (Int32.ofNat T.length)), some (.int (Int32.ofNat E.length))] [] h k = mW (mRo L xs) mTab 97 25 [some (.ref pc), some (.ref rt), some (.int (Int32.ofNat T.length)), some (.int (Int32.ofNat (E.length + 1)))] [] h' k ∧
        RT rt pa ma e0 q T h' ∧ paH pc sq n st ar fa sl f' h' ∧ mKeep (fun a => a = sq) h h' ∧ ∀ j, j < E.length + 1 → sqFw st ar fa q T f' j := by
    intro E B f h hT R H hok
    have hTl : T.length = E.length + B.length := by rw [hT, List.length_append]
    have tk : T.take E.length = E := by rw [hT, List.take_left]
    have dr : T.drop E.length = B := by rw [hT, List.drop_left]
    -- what is put
    have val : ∃ v, (sqOk T (vf_upd f E.length v) E.length ∧ v = fwV st ar fa q T E.length (f (E.length - 1))) ∧ mW (mRo L xs) mTab 97 25 [some (.ref pc), some (.ref rt), some (.int (Int32.ofNat T.length)), some (.int (Int32.ofNat E.length))] [] h k = mW (mRo L xs) mTab 97 50 [some (.ref pc), some (.ref rt), some (.int (Int32.ofNat T.length)), some (.int (Int32.ofNat E.length))] [.float v, .int (Int32.ofNat E.length), .ref pc] h k := by
      have ir := c_isRest (L := L) (xs := xs) (k := k) R hTv hT
      have head : ∀ b : Int32, mW (mRo L xs) mTab 92 0 [some (.ref rt), some (.int (Int32.ofNat E.length))] [] h k = some (.inl (some (.int b)), h, k) → mW (mRo L xs) mTab 97 25 [some (.ref pc), some (.ref rt), some (.int (Int32.ofNat T.length)), some (.int (Int32.ofNat E.length))] [] h k =
          if b = 0 then mW (mRo L xs) mTab 97 44 [some (.ref pc), some (.ref rt), some (.int (Int32.ofNat T.length)), some (.int (Int32.ofNat E.length))] [.int (Int32.ofNat E.length), .ref pc] h k else mW (mRo L xs) mTab 97 40 [some (.ref pc), some (.ref rt), some (.int (Int32.ofNat T.length)), some (.int (Int32.ofNat E.length))] [.int (Int32.ofNat E.length), .ref pc] h k := by
        intro b hb
        rw [e97_25, e97_26, e97_27, if_neg (by rw [oi_lt (by omega) (by omega)]; omega), e97_30, e97_31, e97_32, e97_33, e97_34 (by simp [Value.category]), hb]
        simp only [mAft, Option.toList_some, List.cons_append, List.nil_append]
        rw [e97_37]
      by_cases hr : rst E B
      · rw [if_pos hr] at ir
        refine ⟨0, ⟨⟨by rw [vf_at]; exact fok_zero, fun _ => by rw [vf_at]; exact zf_zero, fun z => absurd (by rw [tk, dr]; exact hr) z⟩, by unfold fwV; rw [tk, dr, if_pos hr]⟩, ?_⟩
        rw [head 1 ir, if_neg (by decide), e97_40, e97_41]
      · rw [if_neg hr] at ir
        have h1 : E ≠ [] := fun z => hr (Or.inl z)
        have h2 : B ≠ [] := fun z => hr (Or.inr (Or.inl z))
        rcases List.eq_nil_or_concat E with hE | ⟨E', a, hE⟩
        · exact absurd hE h1
        · rw [List.concat_eq_append] at hE
          cases B with
          | nil => exact absurd rfl h2
          | cons b B =>
            have lE : E.length = E'.length + 1 := by rw [hE, List.length_append, List.length_singleton]
            obtain ⟨v, v0, v1, v2, v3⟩ := c_fromBefore (L := L) (xs := xs) (k := k) H hn S R hq hTv (E := E') (B := B) (a := a) (b := b) (by rw [hT, hE]; simp) (by omega) (hok E'.length (by omega)).1.1
            rw [← lE] at v3
            have tk1 : T.take (E.length - 1) = E' := by rw [lE, Nat.add_sub_cancel, hT, hE, List.append_assoc, List.take_left]
            have m1 : mvA T (E.length - 1) = a.1 := by rw [lE, Nat.add_sub_cancel]; exact mvA_at (B := b :: B) (by rw [hT, hE]; simp)
            have m2 : mvA T E.length = b.1 := mvA_at hT
            refine ⟨v, ⟨⟨by rw [vf_at]; exact v1, fun z => absurd (by rw [tk, dr] at z; exact z) hr, fun _ => by rw [vf_at]; exact v2⟩, by unfold fwV; rw [tk, dr, if_neg hr, tk1, m1, m2, v0, lE, Nat.add_sub_cancel]⟩, ?_⟩
            rw [head 0 ir, if_pos rfl, e97_44, e97_45, e97_46, e97_47 (kR_eq H.1) (by simp [Value.category]), v3]
            simp only [mAft, Option.toList_some, List.cons_append, List.nil_append]
    obtain ⟨v, v1, v2⟩ := val
    obtain ⟨p1, p2, p3⟩ := c_putSq (L := L) (xs := xs) (k := k) H (i := E.length) (v := v) hn (by omega)
    refine ⟨_, _, ?_, rt_keep R (ext_of p3) D.1 D.2.1 D.2.2, p2, p3, fun j hj => ?_⟩
    · rw [v2, e97_50 (kR_eq H.1) (by simp [Value.category]), p1]
      simp only [mAft, Option.toList_none, List.nil_append]
      rw [e97_53, oi_succ, e97_56]
    · by_cases z : j = E.length
      · rw [z]
        refine ⟨v1.1, ?_⟩
        rw [vf_at]
        by_cases z0 : E.length = 0
        · have v2' := v1.2
          unfold fwV at v2' ⊢
          have r0 : rst (T.take E.length) (T.drop E.length) := Or.inl (by rw [z0, List.take_zero])
          rw [if_pos r0] at v2' ⊢
          exact v2'
        · rw [vf_ne f v (show E.length - 1 ≠ E.length by omega)]
          exact v1.2
      · have := hok j (by omega)
        unfold sqFw sqOk at this ⊢
        rw [vf_ne f v z, vf_ne f v (show j - 1 ≠ E.length by omega)]
        exact this
  induction B with
  | nil =>
    intro E f h hT R H hok
    obtain ⟨h1, f1, a1, a2, a3, a4, a5⟩ := one E [] f h hT R H hok
    rw [List.append_nil] at hT
    refine ⟨h1, f1, ?_, a3, a4, fun j hj => a5 j (by rw [← hT]; omega)⟩
    rw [a1, e97_25, e97_26, e97_27, if_pos (by have := rt_l17 R; rw [oi_lt (by omega) (by rw [← hT]; omega), ← hT]; omega), hT]
  | cons b B IH =>
    intro E f h hT R H hok
    obtain ⟨h1, f1, a1, a2, a3, a4, a5⟩ := one E (b :: B) f h hT R H hok
    have l2 : (E ++ [b]).length = E.length + 1 := by rw [List.length_append, List.length_singleton]
    obtain ⟨h2, f2, b1, b2, b3, b4⟩ := IH (E ++ [b]) f1 h1 (by rw [hT]; simp) a2 a3 (by rw [l2]; exact a5)
    rw [l2] at b1
    exact ⟨h2, f2, a1.trans b1, b2, keep_trans a4 b3, b4⟩
end
