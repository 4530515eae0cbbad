section
variable {L : Nat} {xs : Nat → Int32} {k : Nat} {rt pa ma e0 q : Nat} {T : List (Nat × Nat)}
variable {pc sq n st ar fa sl : Nat}
theorem bwd_loop (hn : n ≤ 1000000) (S : spOk st ar fa sl) (hq : q < 2048) (hTv : ∀ x ∈ T, x.1 < 6 ∧ x.2 < 2048) (hsz : T.length < n) (D : ¬ rt = sq ∧ ¬ pa = sq ∧ ¬ ma = sq) : ∀ (d : Nat) (f : Nat → UInt32) (h : List mCel), d ≤ T.length → RT rt pa ma e0 q T h → paH pc sq n st ar fa sl f h → (∀ j, j ≤ T.length → sqOk T f j) →
    ∃ h' f', mW (mRo L xs) mTab 97 63 [some (.ref pc), some (.ref rt), some (.int (Int32.ofNat T.length)), some (.int (Int32.ofNat d + (-1)))] [] h k = some (.inl none, h', k) ∧ paH pc sq n st ar fa sl f' h' ∧ mKeep (fun a => a = sq) h h' ∧ (∀ j, j ≤ T.length → sqOk T f' j) ∧ (∀ j, d ≤ j → f' j = f j) ∧ ∀ j, j < d → f' j = lsF (f j) (FP.fadd (f' (j + 1)) (chF sl (Sho.fin q (T.take j)) (mvA T j))) := by
  intro d
  induction d with
  | zero =>
    intro f h hd R H hok
    exact ⟨h, f, by rw [e97_63, e97_64, if_pos (by decide), e97_103], H, keep_refl, hok, fun _ _ => rfl, fun j hj => absurd hj (Nat.not_lt_zero _)⟩
  | succ d IH =>
    intro f h hd R H hok
    have hl := rt_l17 R
    have rp := kR_eq H.1
    have e : T = T.take d ++ T.drop d := (List.take_append_drop d T).symm
    have ld : (T.take d).length = d := by rw [List.length_take]; omega
    cases hB : T.drop d with
    | nil =>
      have := congrArg List.length hB
      rw [List.length_drop, List.length_nil] at this
      omega
    | cons b B =>
      rw [hB] at e
      have c1 := c_squareAt (L := L) (xs := xs) (k := k) H (i := d) hn (by omega)
      have c2 := c_squareAt (L := L) (xs := xs) (k := k) H (i := d + 1) hn (by omega)
      have c3 := c_change (L := L) (xs := xs) (k := k) R hq hTv e S.2.2.2.1 S.2.2.2.2
      rw [ld] at c3
      obtain ⟨_, ch⟩ := chg_ok S.2.2.2.1 S.2.2.2.2 (Sho.fin q (T.take d)) b.1
      have o1 := hok d (by omega)
      have o2 := hok (d + 1) (by omega)
      have mA : mvA T d = b.1 := by have := mvA_at e; rwa [ld] at this
      have ecg : chF sl (Sho.fin q (T.take d)) (mvA T d) = chF sl (Sho.fin q (T.take d)) b.1 := by rw [mA]
      generalize chF sl (Sho.fin q (T.take d)) b.1 = cg at *
      obtain ⟨s1, s2⟩ := fadd_pos o2.1 ch
      obtain ⟨g1, g2, g3⟩ := ls_pos o1.1 s1 s2
      have c4 := c_lesser (L := L) (xs := xs) (k := k) (h := h) o1.1.1.ne_nan s1
      obtain ⟨p1, p2, p3⟩ := c_putSq (L := L) (xs := xs) (k := k) H (i := d) (v := lsF (f d) (FP.fadd (f (d + 1)) cg)) hn (by omega)
      obtain ⟨h2, f2, b1, b2, b3, b4, b5, b6⟩ := IH _ _ (by omega) (rt_keep R (ext_of p3) D.1 D.2.1 D.2.2) p2 (fun j hj => by
        by_cases z : j = d
        · rw [z]
          unfold sqOk
          rw [vf_at]
          exact ⟨g1, fun y => g2 (o1.2.1 y), fun y => g3 (o1.2.2 y)⟩
        · have := hok j hj
          unfold sqOk at this ⊢
          rw [vf_ne f _ z]
          exact this)
      refine ⟨h2, f2, ?_, b2, keep_trans p3 b3, b4, fun j hj => (b5 j (by omega)).trans (vf_ne f _ (by omega)), fun j hj => ?_⟩
      rotate_left
      · by_cases z : j = d
        · rw [z, ecg, b5 d (Nat.le_refl _), b5 (d + 1) (by omega), vf_at, vf_ne f _ (by omega)]
        · rw [b6 j (by omega), vf_ne f _ z]
      rw [oi_pred, e97_63, e97_64, if_neg (oi_nneg (by omega)), e97_67, e97_68, e97_69, e97_70, e97_71 rp (by simp [Value.category]), c1]
      simp only [mAft, Option.toList_some, List.cons_append, List.nil_append]
      rw [e97_74, e97_75, e97_76, e97_77, oi_succ, e97_78 rp (by simp [Value.category]), c2]
      simp only [mAft, Option.toList_some, List.cons_append, List.nil_append]
      rw [e97_81, e97_82, e97_83, e97_84, kF_eq H.1 (v := .int (Int32.ofNat sl)) rfl, e97_87 (by simp [Value.category]), c3]
      simp only [mAft, Option.toList_some, List.cons_append, List.nil_append]
      rw [e97_90, kFN_ok s1, e97_91 (by simp [Value.category]), c4]
      simp only [mAft, Option.toList_some, List.cons_append, List.nil_append]
      rw [e97_94 rp (by simp [Value.category]), p1]
      simp only [mAft, Option.toList_none, List.nil_append]
      rw [e97_97, e97_100]
      exact b1
/-- the squares of speeds, as they are reckoned -/
def SqV (st ar fa sl q : Nat) (T : List (Nat × Nat)) (f' : Nat → UInt32) : Prop := ∃ f : Nat → UInt32, (∀ j, j ≤ T.length → f j = fwV st ar fa q T j (f (j - 1))) ∧ f' T.length = f T.length ∧ ∀ j, j < T.length → f' j = lsF (f j) (FP.fadd (f' (j + 1)) (chF sl (Sho.fin q (T.take j)) (mvA T j)))
theorem sqV_one {f1 f2 : Nat → UInt32} (h1 : SqV st ar fa sl q T f1) (h2 : SqV st ar fa sl q T f2) : ∀ j, j ≤ T.length → f1 j = f2 j := by
  obtain ⟨g1, a1, b1, c1⟩ := h1
  obtain ⟨g2, a2, b2, c2⟩ := h2
  have G : ∀ j, j ≤ T.length → g1 j = g2 j := by
    intro j
    induction j with
    | zero =>
      intro hj
      have r0 : rst (T.take 0) (T.drop 0) := Or.inl List.take_zero
      rw [a1 0 hj, a2 0 hj]
      unfold fwV
      rw [if_pos r0, if_pos r0]
    | succ j IH =>
      intro hj
      rw [a1 _ hj, a2 _ hj, Nat.add_sub_cancel, IH (by omega)]
  have D : ∀ d j, j + d = T.length → f1 j = f2 j := by
    intro d
    induction d with
    | zero =>
      intro j hj
      rw [show j = T.length by omega, b1, b2]
      exact G _ (Nat.le_refl _)
    | succ d IH =>
      intro j hj
      rw [c1 j (by omega), c2 j (by omega), G j (by omega), IH (j + 1) (by omega)]
  exact fun j hj => D (T.length - j) j (by omega)
theorem c_reckon {h : List mCel} {f : Nat → UInt32} (hn : n ≤ 1000000) (S : spOk st ar fa sl) (hq : q < 2048) (hTv : ∀ x ∈ T, x.1 < 6 ∧ x.2 < 2048) (hT : T.length ≤ 113068) (hn0 : 0 < n) (D : ¬ rt = sq ∧ ¬ pa = sq ∧ ¬ ma = sq) (Dp : ¬ rt = pc ∧ ¬ pa = pc ∧ ¬ ma = pc) (R : RT rt pa ma e0 q T h) (H : paH pc sq n st ar fa sl f h) :
    ∃ h' sq' n' f', mW (mRo L xs) mTab 97 0 [some (.ref pc), some (.ref rt), none, none] [] h k = some (.inl none, h', k) ∧ paH pc sq' n' st ar fa sl f' h' ∧ ((∀ j, j ≤ T.length → sqOk T f' j) ∧ SqV st ar fa sl q T f') ∧ T.length < n' ∧ mExt (fun a => a = pc ∨ a = sq) h h' ∧
      ((n' = n ∧ sq' = sq ∧ h'.length = h.length ∧ hz h' = hz h) ∨ (n' = 2 * T.length ∧ n ≤ T.length ∧ sq' = 8 + h.length ∧ h'.length = h.length + 1 ∧ hz h' = hz h + n')) := by
  have rk := kR_eq R.2.choose_spec.choose_spec.1.1
  have cl := rt_cells R
  have cnt := rt_count (L := L) (xs := xs) (k := k) R
  have hm1 : Int32.ofNat T.length - 1 = Int32.ofNat T.length + (-1) := Int32.sub_eq_add_neg _ _
  -- both loops
  have run : ∀ (h : List mCel) (sq n : Nat) (f : Nat → UInt32), n ≤ 1000000 → T.length < n → (¬ rt = sq ∧ ¬ pa = sq ∧ ¬ ma = sq) → RT rt pa ma e0 q T h → paH pc sq n st ar fa sl f h →
      ∃ h' f', mW (mRo L xs) mTab 97 23 [some (.ref pc), some (.ref rt), some (.int (Int32.ofNat T.length)), none] [] h k = some (.inl none, h', k) ∧ paH pc sq n st ar fa sl f' h' ∧ mKeep (fun a => a = sq) h h' ∧ ((∀ j, j ≤ T.length → sqOk T f' j) ∧ SqV st ar fa sl q T f') := by
    intro h sq n f hn hsz D R H
    obtain ⟨h1, f1, a1, a2, a3, a4⟩ := fwd_loop (L := L) (xs := xs) (k := k) hn S hq hTv hsz D T [] f h rfl R H (fun j hj => absurd hj (Nat.not_lt_zero _))
    obtain ⟨h2, f2, b1, b2, b3, b4, b5, b6⟩ := bwd_loop (L := L) (xs := xs) (k := k) hn S hq hTv hsz D T.length f1 h1 (Nat.le_refl _) (rt_keep R (ext_of a3) D.1 D.2.1 D.2.2) a2 (fun j hj => (a4 j hj).1)
    refine ⟨h2, f2, ?_, b2, keep_trans a3 b3, b4, f1, fun j hj => (a4 j hj).2, b5 _ (Nat.le_refl _), b6⟩
    rw [e97_23, e97_24]
    refine a1.trans ?_
    rw [e97_59, e97_60, e97_61, hm1, e97_62]
    exact b1
  by_cases hc : T.length < n
  · obtain ⟨h', f', r1, r2, r3, r4⟩ := run h sq n f hn hc D R H
    refine ⟨h', sq, n, f', ?_, r2, r4, hc, ext_mono (ext_of r3) (fun x z => Or.inr z), Or.inl ⟨rfl, rfl, r3.1, r3.2.1⟩⟩
    rw [e97_0, e97_1 rk (by simp [Value.category]), cnt]
    simp only [mAft, Option.toList_some, List.cons_append, List.nil_append]
    rw [e97_4, e97_5, e97_6, e97_7, kF_eq H.1 (v := .ref sq) rfl, e97_10, kAL_f H.2, e97_11, if_pos (by rw [oi_lt (by omega) (by omega)]; exact hc)]
    exact r1
  · have hpos : 0 < T.length := by omega
    have p8 := cell_8 H.1
    have s8 := cell_8 H.2
    have c1 : mCell (h ++ [fCel (2 * T.length) (fun _ => 0)]) pc = some (.inr (2, [.int (Int32.ofNat st), .int (Int32.ofNat ar), .int (Int32.ofNat fa), .int (Int32.ofNat sl), .ref sq])) := (ap_old (by omega)).trans H.1
    have kp := keep_set (P := fun x => x = pc) c1 (d := .inr (2, [.int (Int32.ofNat st), .int (Int32.ofNat ar), .int (Int32.ofNat fa), .int (Int32.ofNat sl), .ref (8 + h.length)])) rfl rfl
    have H1 : paH pc (8 + h.length) (2 * T.length) st ar fa sl (fun _ => 0) ((h ++ [fCel (2 * T.length) (fun _ => 0)]).set (pc - 8) (.inr (2, [.int (Int32.ofNat st), .int (Int32.ofNat ar), .int (Int32.ofNat fa), .int (Int32.ofNat sl), .ref (8 + h.length)]))) :=
      ⟨cell_set c1, (cell_setne (by omega) p8.1).trans ap_0⟩
    have x1 : mExt (fun a => a = pc ∨ a = sq) h ((h ++ [fCel (2 * T.length) (fun _ => 0)]).set (pc - 8) (.inr (2, [.int (Int32.ofNat st), .int (Int32.ofNat ar), .int (Int32.ofNat fa), .int (Int32.ofNat sl), .ref (8 + h.length)]))) :=
      ⟨by rw [List.length_set, List.length_append]; omega, fun a ha hp => (cell_setne (fun z => hp (Or.inl z.symm)) p8.1).trans (ap_old ha)⟩
    have R1 := rt_keep R x1 (fun z => z.elim Dp.1 D.1) (fun z => z.elim Dp.2.1 D.2.1) (fun z => z.elim Dp.2.2 D.2.2)
    obtain ⟨h', f', r1, r2, r3, r4⟩ := run _ _ _ _ (by omega) (by omega) ⟨by omega, by omega, by omega⟩ R1 H1
    have l1 : ((h ++ [fCel (2 * T.length) (fun _ => 0)]).set (pc - 8) (.inr (2, [.int (Int32.ofNat st), .int (Int32.ofNat ar), .int (Int32.ofNat fa), .int (Int32.ofNat sl), .ref (8 + h.length)]))).length = h.length + 1 := by rw [List.length_set, List.length_append]; rfl
    refine ⟨h', 8 + h.length, 2 * T.length, f', ?_, r2, r4, by omega, ?_, Or.inr ⟨rfl, by omega, rfl, by rw [r3.1, l1], ?_⟩⟩
    · rw [e97_0, e97_1 rk (by simp [Value.category]), cnt]
      simp only [mAft, Option.toList_some, List.cons_append, List.nil_append]
      rw [e97_4, e97_5, e97_6, e97_7, kF_eq H.1 (v := .ref sq) rfl, e97_10, kAL_f H.2, e97_11, if_neg (by rw [oi_lt (by omega) (by omega)]; exact hc), e97_14, e97_15, e97_16, e97_17, show (2 : Int32) * Int32.ofNat T.length = Int32.ofNat (2 * T.length) from (oi_mul 2 _).symm,
        e97_18 (by rw [oi_int (by omega)]; omega), oi_nat (show 2 * T.length < 2 ^ 31 by omega), e97_20]
      rw [show (Sum.inl (2, mZero (mTy 2) (2 * T.length)) : mCel) = fCel (2 * T.length) (fun _ => 0) from rfl, kP_eq c1 (by simp)]
      exact r1
    · exact ext_old x1 (ext_of r3) (fun x hx z => by omega)
    · rw [r3.2.1, kp.2.1, hz_app]; rfl
theorem great_loop {h : List mCel} {f : Nat → UInt32} (hn : n ≤ 1000000) (hsz : T.length < n) (R : RT rt pa ma e0 q T h) (H : paH pc sq n st ar fa sl f h) (hok : ∀ j, j ≤ T.length → sqOk T f j) : ∀ (d i : Nat) (m : UInt32), i + d = T.length + 1 → Fok m → (∀ j, j < i → Zf (f j) ≤ Zf m) →
    ∃ v, mW (mRo L xs) mTab 90 4 [some (.ref pc), some (.ref rt), some (.float m), some (.int (Int32.ofNat i))] [] h k = some (.inl (some (.float v)), h, k) ∧ Fok v ∧ ∀ j, j ≤ T.length → Zf (f j) ≤ Zf v := by
  have hl := rt_l17 R
  have rk := kR_eq R.2.choose_spec.choose_spec.1.1
  have rp := kR_eq H.1
  have cnt := rt_count (L := L) (xs := xs) (k := k) R
  intro d
  induction d with
  | zero =>
    intro i m hi hm hj
    refine ⟨m, ?_, hm, fun j hj' => hj j (by omega)⟩
    rw [e90_4, e90_5, e90_6 rk (by simp [Value.category]), cnt]
    simp only [mAft, Option.toList_some, List.cons_append, List.nil_append]
    rw [e90_9, if_pos (by rw [oi_lt (by omega) (by omega)]; omega), e90_38, e90_39]
  | succ d IH =>
    intro i m hi hm hj
    have c1 := c_squareAt (L := L) (xs := xs) (k := k) H (i := i) hn (by omega)
    have o1 := (hok i (by omega)).1
    obtain ⟨r, hr⟩ := FP.Core.fcmp_of_notNaN ((FP.Core.notNaN_iff32 (f i)).mpr o1.1.ne_nan) ((FP.Core.notNaN_iff32 m).mpr hm.1.ne_nan)
    have hr' : FP.fcmp (f i) m = some r := hr
    have gt : r = .gt ↔ Zf m < Zf (f i) := by
      refine ⟨fun z => (FP.Core.fcmp_gt.mp (z ▸ hr)).2.2, fun z => ?_⟩
      have := FP.Core.fcmp_gt.mpr ⟨o1.1.ne_nan, hm.1.ne_nan, z⟩
      rw [hr] at this
      exact Option.some.inj this
    have head : mW (mRo L xs) mTab 90 4 [some (.ref pc), some (.ref rt), some (.float m), some (.int (Int32.ofNat i))] [] h k = if Op.cmpValue (some r) .l ≤ 0 then mW (mRo L xs) mTab 90 30 [some (.ref pc), some (.ref rt), some (.float m), some (.int (Int32.ofNat i))] [] h k else mW (mRo L xs) mTab 90 22 [some (.ref pc), some (.ref rt), some (.float m), some (.int (Int32.ofNat i))] [] h k := by
      rw [e90_4, e90_5, e90_6 rk (by simp [Value.category]), cnt]
      simp only [mAft, Option.toList_some, List.cons_append, List.nil_append]
      rw [e90_9, if_neg (by rw [oi_lt (by omega) (by omega)]; omega), e90_12, e90_13, e90_14 rp (by simp [Value.category]), c1]
      simp only [mAft, Option.toList_some, List.cons_append, List.nil_append]
      rw [e90_17, e90_18, hr', e90_19]
    have keepM : ¬ Zf m < Zf (f i) → ∃ v, mW (mRo L xs) mTab 90 30 [some (.ref pc), some (.ref rt), some (.float m), some (.int (Int32.ofNat i))] [] h k = some (.inl (some (.float v)), h, k) ∧ Fok v ∧ ∀ j, j ≤ T.length → Zf (f j) ≤ Zf v := by
      intro hz
      obtain ⟨v, v1, v2, v3⟩ := IH (i + 1) m (by omega) hm (fun j hj' => by
        by_cases y : j = i
        · rw [y]; exact Int.not_lt.mp hz
        · exact hj j (by omega))
      refine ⟨v, ?_, v2, v3⟩
      rw [e90_30, e90_31, e90_32, oi_succ, e90_35]
      exact v1
    rw [head]
    cases r with
    | lt => rw [if_pos (by decide)]; exact keepM (fun z => by cases gt.mpr z)
    | eq => rw [if_pos (by decide)]; exact keepM (fun z => by cases gt.mpr z)
    | gt =>
      have hz := gt.mp rfl
      rw [if_neg (by decide)]
      obtain ⟨v, v1, v2, v3⟩ := IH (i + 1) (f i) (by omega) o1 (fun j hj' => by
        by_cases y : j = i
        · rw [y]; exact Int.le_refl _
        · exact Int.le_trans (hj j (by omega)) (Int.le_of_lt hz))
      refine ⟨v, ?_, v2, v3⟩
      rw [e90_22, e90_23, e90_24 rp (by simp [Value.category]), c1]
      simp only [mAft, Option.toList_some, List.cons_append, List.nil_append]
      rw [e90_27, e90_31, e90_32, oi_succ, e90_35]
      exact v1
theorem c_greatest {h : List mCel} {f : Nat → UInt32} (hn : n ≤ 1000000) (hsz : T.length < n) (R : RT rt pa ma e0 q T h) (H : paH pc sq n st ar fa sl f h) (hok : ∀ j, j ≤ T.length → sqOk T f j) :
    ∃ v, mW (mRo L xs) mTab 90 0 [some (.ref pc), some (.ref rt), none, none] [] h k = some (.inl (some (.float v)), h, k) ∧ Fok v ∧ ∀ j, j ≤ T.length → Zf (f j) ≤ Zf v := by
  obtain ⟨v, v1, v2⟩ := great_loop (L := L) (xs := xs) (k := k) hn hsz R H hok (T.length + 1) 0 0 (Nat.zero_add _) fok_zero (fun j hj => absurd hj (Nat.not_lt_zero _))
  refine ⟨v, ?_, v2⟩
  rw [e90_0, e90_1, e90_2, e90_3]
  exact v1
end
