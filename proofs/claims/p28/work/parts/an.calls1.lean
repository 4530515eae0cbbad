section
variable {L : Nat} {xs : Nat → Int32} {k : Nat} {h h' : List mCel} {ow ow' : Nat → Nat}
theorem aft_thr {f : mFn} {hd : List (Nat × Nat × Nat × Nat × Nat × Nat × Nat)} {mid pc E x : Nat} {lo : List (Option Value)} {st : List Value} (h0 : hd = []) : mAft f hd mid pc lo st (some (.inr E, h, x)) = some (.inr E, h, x) := by subst h0; rfl
theorem aft_cat {f : mFn} {hd : List (Nat × Nat × Nat × Nat × Nat × Nat × Nat)} {mid pc E x hp j : Nat} {lo : List (Option Value)} {st : List Value} (h0 : mCatch hd pc E = some (hp, j)) : mAft f hd mid pc lo st (some (.inr E, h, x)) = f mid hp (lo.set j none) [] h x := by simp only [mAft, h0]
theorem cat_nil (pc E : Nat) : mCatch [] pc E = none := rfl
theorem le_lit {i n : Nat} (h1 : i ≤ n) (h2 : n < 2 ^ 31) : Int32.ofNat i ≤ Int32.ofNat n := by rw [oi_le (by omega) h2]; exact h1
theorem lt_lit {i n : Nat} (h1 : i < n) (h2 : n < 2 ^ 31) : Int32.ofNat i < Int32.ofNat n := by rw [oi_lt (by omega) h2]; exact h1
theorem nlt_lit {i n : Nat} (h1 : n ≤ i) (h2 : i < 2 ^ 31) : ¬ Int32.ofNat i < Int32.ofNat n := by rw [oi_lt h2 (by omega)]; omega
theorem nle_lit {i n : Nat} (h1 : n < i) (h2 : i < 2 ^ 31) : ¬ Int32.ofNat i ≤ Int32.ofNat n := by rw [oi_le h2 (by omega)]; omega
theorem isOut0 {n lo hi : Int32} (h1 : ¬ n < lo) (h2 : n ≤ hi) : mW (mRo L xs) mTab 49 0 [some (.int n), some (.int lo), some (.int hi)] [] h k = some (.inl (some (.int 0)), h, k) := by
  rw [e49_0, e49_1, e49_2, if_neg h1, e49_5, e49_6, e49_7, if_pos h2, e49_14, e49_15 (Or.inl rfl)]
theorem isOut1 {n lo hi : Int32} (h1 : ¬ n < lo) (h2 : ¬ n ≤ hi) : mW (mRo L xs) mTab 49 0 [some (.int n), some (.int lo), some (.int hi)] [] h k = some (.inl (some (.int 1)), h, k) := by
  rw [e49_0, e49_1, e49_2, if_neg h1, e49_5, e49_6, e49_7, if_neg h2, e49_10, e49_11, e49_15 (Or.inr rfl)]
theorem ck_num : allP (fun p => allB 1 fun _ => decide (pNum (Int32.ofNat (p % 16)) (Int32.ofNat (p / 16 % 16)) (Int32.ofNat (p / 256)) = Int32.ofNat p)) = true := by decide +kernel
theorem c_reqPose {p : Nat} (hp : p < 2048) : mW (mRo L xs) mTab 60 0 [some (.int (Int32.ofNat (p % 16))), some (.int (Int32.ofNat (p / 16 % 16))), some (.int (Int32.ofNat (p / 256))), none] [] h k = some (.inl (some (.int (Int32.ofNat p))), h, k) := by
  have e := of_decide_eq_true (allB_get (allP_get ck_num hp) 0 (by decide))
  have np : ¬ Int32.ofNat p = -1 := fun z => by
    have := congrArg Int32.toInt z
    rw [oi_int (by omega)] at this
    have h2 : (-1 : Int32).toInt = -1 := rfl
    omega
  rw [e60_0, e60_1, e60_2, e60_3 (by simp [Value.category]), c_numberOf, e]
  simp only [mAft, Option.toList_some, List.cons_append, List.nil_append]
  rw [e60_6, e60_7, e60_8, e60_9, if_pos np, e60_23, e60_24]
theorem c_reqBad {x y g : Nat} (hx : x < 2 ^ 31 ∧ y < 2 ^ 31 ∧ g < 2 ^ 31) (hb : 16 ≤ x ∨ 16 ≤ y ∨ 8 ≤ g) : mW (mRo L xs) mTab 60 0 [some (.int (Int32.ofNat x)), some (.int (Int32.ofNat y)), some (.int (Int32.ofNat g)), none] [] h k = some (.inr 2, h, k + 1) := by
  have e : pNum (Int32.ofNat x) (Int32.ofNat y) (Int32.ofNat g) = -1 := by
    unfold pNum
    refine if_pos ?_
    rcases hb with z | z | z
    · exact Or.inr (Or.inl (le_lit (i := 16) z hx.1))
    · exact Or.inr (Or.inr (Or.inr (Or.inl (le_lit (i := 16) z hx.2.1))))
    · exact Or.inr (Or.inr (Or.inr (Or.inr (Or.inr (le_lit (i := 8) z hx.2.2)))))
  rw [e60_0, e60_1, e60_2, e60_3 (by simp [Value.category]), c_numberOf, e]
  simp only [mAft, Option.toList_some, List.cons_append, List.nil_append]
  rw [e60_6, e60_7, e60_8, e60_9, if_neg (fun z => z rfl), e60_12 (by simp [Value.category])]
theorem plan_keep {i : Nat} {fpl : Nat → Option Nat} {es : Nat → Nat} {o : Option (Nat × List (Nat × Nat))} (K : match o with | none => fpl i = none | some x => ∃ rt, fpl i = some rt ∧ KRt (40 + i) rt (es i) x.1 x.2 ow h) (F : FrN (40 + i) ow ow' h h') :
    match o with | none => fpl i = none | some x => ∃ rt, fpl i = some rt ∧ KRt (40 + i) rt (es i) x.1 x.2 ow' h' := by
  cases o with
  | none => exact K
  | some x => exact K.imp fun rt z => ⟨z.1, krt_keep z.2 F⟩
theorem bud_keep {P : Nat → Prop} {et er nsq lg np pn : Nat} {es : Nat → Nat} (B : Bud et er nsq lg np es pn h) (K : mKeep P h h') : Bud et er nsq lg np es pn h' := by
  unfold Bud at B ⊢
  rw [K.1, K.2.1]
  exact B
theorem fr_of {P : Nat → Prop} {n0 : Nat} (K : mKeep P h h') (hp : ∀ a, P a → ow a = n0) : ∀ n, n ≠ n0 → FrN n ow ow h h' := fun n hn a _ ho => ⟨ho, K.2.2 a (fun z => hn (ho.symm.trans (hp a z)))⟩
theorem nle_of {c : Nat} (hc : c < 6) : ¬ Int32.ofNat 6 ≤ Int32.ofNat c := by rw [oi_le (by decide) (by omega)]; omega
theorem fld_ow {np fr be : Nat} {fpg : Nat → Option Nat} {cov fcl fop : Nat → Int32} (K : KFld np fr be fpg cov fcl fop ow h) {a : Nat} (z : fdP a) : ow a = 6 := by
  unfold fdP at z
  rcases (show a = 12 ∨ a = 13 ∨ a = 14 ∨ a = 15 ∨ a = 16 by omega) with y | y | y | y | y <;> rw [y]
  · exact K.2.1
  · exact K.2.2.1
  · exact K.2.2.2.1
  · exact K.2.2.2.2.1
  · exact K.2.2.2.2.2
theorem c_plAdd {po px py c : Nat} {fx fy : Nat → Int32} (H : plH po px py c fx fy h) (ne : px ≠ py) (hc : c < 6) (x y : Int32) : ∃ h' fx' fy', mW (mRo L xs) mTab 100 0 [some (.ref po), some (.int x), some (.int y)] [] h k = some (.inl none, h', k) ∧ plH po px py (c + 1) fx' fy' h' ∧ mKeep (fun a => a = po ∨ a = px ∨ a = py) h h' := by
  have hin : 0 ≤ (Int32.ofNat c).toInt ∧ (Int32.ofNat c).toInt < (6 : Nat) := by rw [oi_int (by omega)]; omega
  have n1 : px ≠ po := cell_ne H.2.1 H.1 (fun z => by cases z)
  have n2 : py ≠ po := cell_ne H.2.2.1 H.1 (fun z => by cases z)
  have p8 := (cell_8 H.1).1
  have x8 := (cell_8 H.2.1).1
  have y8 := (cell_8 H.2.2.1).1
  let hA := h.set (px - 8) (.inl (0, 6, .inl (upd fx c x)))
  let hB := hA.set (py - 8) (.inl (0, 6, .inl (upd fy c y)))
  let hC := hB.set (po - 8) (.inr (3, [.ref px, .ref py, .int (Int32.ofNat (c + 1))]))
  have A1 : mCell hA po = some (.inr (3, [.ref px, .ref py, .int (Int32.ofNat c)])) := (cell_setne n1 x8).trans H.1
  have A2 : mCell hA px = some (.inl (0, 6, .inl (upd fx c x))) := cell_set H.2.1
  have A3 : mCell hA py = some (.inl (0, 6, .inl fy)) := (cell_setne ne x8).trans H.2.2.1
  have B1 : mCell hB po = some (.inr (3, [.ref px, .ref py, .int (Int32.ofNat c)])) := (cell_setne n2 y8).trans A1
  have B2 : mCell hB px = some (.inl (0, 6, .inl (upd fx c x))) := (cell_setne (Ne.symm ne) y8).trans A2
  have B3 : mCell hB py = some (.inl (0, 6, .inl (upd fy c y))) := cell_set A3
  have K1 : mKeep (fun a => a = po ∨ a = px ∨ a = py) h hA := keep_set H.2.1 rfl (Or.inr (Or.inl rfl))
  have K2 : mKeep (fun a => a = po ∨ a = px ∨ a = py) hA hB := keep_set A3 rfl (Or.inr (Or.inr rfl))
  have K3 : mKeep (fun a => a = po ∨ a = px ∨ a = py) hB hC := keep_set B1 rfl (Or.inl rfl)
  refine ⟨hC, upd fx c x, upd fy c y, ?_, ⟨cell_set B1, (cell_setne (Ne.symm n1) p8).trans B2, (cell_setne (Ne.symm n2) p8).trans B3, by omega⟩, keep_trans (keep_trans K1 K2) K3⟩
  rw [e100_0, e100_1, kF_eq H.1 (v := .int (Int32.ofNat c)) rfl, e100_4, if_neg (oi_nneg (by omega)), e100_7, e100_8, kF_eq H.1 (v := .int (Int32.ofNat c)) rfl, e100_11, e100_12, kF_eq H.1 (v := .ref px) rfl, e100_15, kAL_int H.2.1, e100_16, if_neg (nle_of hc), e100_19, e100_20, kF_eq H.1 (v := .int (Int32.ofNat c)) rfl, e100_23, e100_24, kF_eq H.1 (v := .ref py) rfl, e100_27, kAL_int H.2.2.1, e100_28, if_neg (nle_of hc), e100_31, e100_32, kF_eq H.1 (v := .ref px) rfl, e100_35, e100_36, kF_eq H.1 (v := .int (Int32.ofNat c)) rfl, e100_39, e100_40, kIS_int H.2.1 hin, oi_nat (by omega)]
  show mW (mRo L xs) mTab 100 41 _ [] hA k = _
  rw [e100_41, e100_42, kF_eq A1 (v := .ref py) rfl, e100_45, e100_46, kF_eq A1 (v := .int (Int32.ofNat c)) rfl, e100_49, e100_50, kIS_int A3 hin, oi_nat (by omega)]
  show mW (mRo L xs) mTab 100 51 _ [] hB k = _
  rw [e100_51, e100_52r, e100_53, kF_eq B1 (v := .int (Int32.ofNat c)) rfl, e100_56, e100_57, oi_succ, e100_58, kP_eq B1 (by simp), e100_61]
  rfl

variable {oc np fr be cu mg st ar fa sl isr rq : Nat} {rT : List (Nat × Nat)} {gone : Nat → Bool} {pl : List (Nat × List (Nat × Nat))} {s : wS} {cov fcl fop fg fz fe : Nat → Int32}

theorem sh_corner (H : SH oc np fr be cu mg st ar fa sl isr rq rT gone pl s cov fcl fop fg fz fe h) {x y : Nat} (hx : x ≤ 16) (hy : y ≤ 16) (hc : oc < 6) : ∃ h', mW (mRo L xs) mTab 162 0 [some (.ref 8), some (.int (Int32.ofNat x)), some (.int (Int32.ofNat y)), none] [] h k = some (.inl (some (.int (Int32.ofNat (oc + 1)))), h', k) ∧ SH (oc + 1) np fr be cu mg st ar fa sl isr rq rT gone pl s cov fcl fop fg fz fe h' := by
  obtain ⟨ow, et, er, nsq, lg, po, fpg, fpl, es, S, ⟨q1, T1, tr⟩, ⟨q2, T2, re⟩, rc, pa, ou, fl, pr, qu, w9, ⟨s2, w10⟩, ob, rr, lw, pg, pp, cf, cm, sp, bd, g1, g2, ppi, rp, bu⟩ := H
  obtain ⟨px, py, fx, fy, P, o1, o2, o3, ne⟩ := ou
  obtain ⟨h', fx1, fy1, A1, A2, K⟩ := c_plAdd (L := L) (xs := xs) (k := k) P ne hc (Int32.ofNat x) (Int32.ofNat y)
  have F := fr_of (ow := ow) (n0 := 5) K (fun a z => by rcases z with z | z | z <;> rw [z] <;> assumption)
  have ob' := one_keep ob (F 11 (by decide))
  refine ⟨h', ?_, ⟨ow, et, er, nsq, lg, po, fpg, fpl, es, sta_keep S (F 0 (by decide)), ⟨q1, T1, krt_keep tr (F 1 (by decide))⟩, ⟨q2, T2, krt_keep re (F 2 (by decide))⟩, rec_keep rc (F 3 (by decide)), pac_keep pa (F 4 (by decide)), ⟨px, py, fx1, fy1, A2, o1, o2, o3, ne⟩, fld_keep fl (F 6 (by decide)), one_keep pr (F 7 (by decide)), que_keep qu (F 8 (by decide)), ⟨one_keep w9.1 (F 9 (by decide)), w9.2⟩, ⟨s2, one_keep w10.1 (F 10 (by decide)), w10.2⟩, ob', one_keep rr (F 12 (by decide)), law_keep lw (F 13 (by decide)), (fun i p hi hp => (pg i p hi hp).imp fun c z => kpl_keep z (F (20 + i) (by omega))), (fun i hi => plan_keep (pp i hi) (F (40 + i) (by omega))), cf, cm, sp, ⟨bd.1, bd.2.1, bd.2.2.1, hc⟩, g1, g2, ppi, rp, bud_keep bu K⟩⟩
  rw [e162_0, e162_1, e162_2, e162_3 (kR_eq ob.1) (by simp [Value.category]), e42_0, e42_1, e42_2, e42_4 (by simp [Value.category]), isOut0 (lo := 0) (hi := 16) (nlt_lit (n := 0) (Nat.zero_le _) (by omega)) (le_lit (n := 16) hx (by decide))]
  simp only [mAft, Option.toList_some, List.cons_append, List.nil_append]
  rw [e42_7, if_neg (fun z => z rfl), e42_10, e42_11, e42_12, e42_14 (by simp [Value.category]), isOut0 (lo := 0) (hi := 16) (nlt_lit (n := 0) (Nat.zero_le _) (by omega)) (le_lit (n := 16) hy (by decide))]
  simp only [mAft, Option.toList_some, List.cons_append, List.nil_append]
  rw [e42_17, if_pos rfl, e42_30, e42_31, kF_eq ob.1 (v := .ref po) rfl, e42_34 (kR_eq P.1) (by simp [Value.category]), c_plCount P]
  simp only [mAft, Option.toList_some, List.cons_append, List.nil_append]
  rw [e42_37, e42_39, if_pos (show Int32.ofNat oc < 6 from lt_lit (n := 6) hc (by decide)), e42_52, e42_53, kF_eq ob.1 (v := .ref po) rfl, e42_56, e42_57, e42_58 (kR_eq P.1) (by simp [Value.category]), A1]
  simp only [mAft, Option.toList_none, List.nil_append]
  rw [e42_61, e42_62, kF_eq ob'.1 (v := .ref po) rfl, e42_65 (kR_eq A2.1) (by simp [Value.category]), c_plCount A2]
  simp only [mAft, Option.toList_some, List.cons_append, List.nil_append]
  rw [e42_68]
  simp only [mAft, Option.toList_some, List.cons_append, List.nil_append]
  rw [e162_6]
theorem sh_cornerFull (H : SH oc np fr be cu mg st ar fa sl isr rq rT gone pl s cov fcl fop fg fz fe h) {x y : Nat} (hx : x ≤ 16) (hy : y ≤ 16) (hc : oc = 6) : mW (mRo L xs) mTab 162 0 [some (.ref 8), some (.int (Int32.ofNat x)), some (.int (Int32.ofNat y)), none] [] h k = some (.inl (some (.int (-1000003))), h, k + 1) := by
  obtain ⟨ow, et, er, nsq, lg, po, fpg, fpl, es, S, ⟨q1, T1, tr⟩, ⟨q2, T2, re⟩, rc, pa, ou, fl, pr, qu, w9, ⟨s2, w10⟩, ob, rr, lw, pg, pp, cf, cm, sp, bd, g1, g2, ppi, rp, bu⟩ := H
  obtain ⟨px, py, fx, fy, P, o1, o2, o3, ne⟩ := ou
  rw [e162_0, e162_1, e162_2, e162_3 (kR_eq ob.1) (by simp [Value.category]), e42_0, e42_1, e42_2, e42_4 (by simp [Value.category]), isOut0 (lo := 0) (hi := 16) (nlt_lit (n := 0) (Nat.zero_le _) (by omega)) (le_lit (n := 16) hx (by decide))]
  simp only [mAft, Option.toList_some, List.cons_append, List.nil_append]
  rw [e42_7, if_neg (fun z => z rfl), e42_10, e42_11, e42_12, e42_14 (by simp [Value.category]), isOut0 (lo := 0) (hi := 16) (nlt_lit (n := 0) (Nat.zero_le _) (by omega)) (le_lit (n := 16) hy (by decide))]
  simp only [mAft, Option.toList_some, List.cons_append, List.nil_append]
  rw [e42_17, if_pos rfl, e42_30, e42_31, kF_eq ob.1 (v := .ref po) rfl, e42_34 (kR_eq P.1) (by simp [Value.category]), c_plCount P]
  simp only [mAft, Option.toList_some, List.cons_append, List.nil_append]
  rw [e42_37, e42_39, if_neg (show ¬ Int32.ofNat oc < 6 from nlt_lit (n := 6) (by omega) (by omega)), e42_42 (by simp [Value.category])]
  simp only [show mCatch (mHd mM_162) 3 1 = some (12, 3) from rfl]
  show mW (mRo L xs) mTab 162 12 [some (.ref 8), some (.int (Int32.ofNat x)), some (.int (Int32.ofNat y)), none] [] h (k + 1) = _
  rw [e162_12, e162_14]
theorem sh_forget (H : SH oc np fr be cu mg st ar fa sl isr rq rT gone pl s cov fcl fop fg fz fe h) : ∃ h', mW (mRo L xs) mTab 45 0 [some (.ref 8), none] [] h k = some (.inl (some (.int (Int32.ofNat oc))), h', k) ∧ SH 0 np fr be cu mg st ar fa sl isr rq rT gone pl s cov fcl fop fg fz fe h' := by
  obtain ⟨ow, et, er, nsq, lg, po, fpg, fpl, es, S, ⟨q1, T1, tr⟩, ⟨q2, T2, re⟩, rc, pa, ou, fl, pr, qu, w9, ⟨s2, w10⟩, ob, rr, lw, pg, pp, cf, cm, sp, bd, g1, g2, ppi, rp, bu⟩ := H
  obtain ⟨px, py, fx, fy, P, o1, o2, o3, ne⟩ := ou
  have K : mKeep (fun a => a = po) h (h.set (po - 8) (.inr (3, [.ref px, .ref py, .int (Int32.ofNat 0)]))) := keep_set P.1 rfl rfl
  have n1 : po ≠ px := cell_ne P.1 P.2.1 (fun z => by cases z)
  have n2 : po ≠ py := cell_ne P.1 P.2.2.1 (fun z => by cases z)
  have F := fr_of (ow := ow) (n0 := 5) K (fun a z => by rw [z]; exact o1)
  refine ⟨_, ?_, ⟨ow, et, er, nsq, lg, po, fpg, fpl, es, sta_keep S (F 0 (by decide)), ⟨q1, T1, krt_keep tr (F 1 (by decide))⟩, ⟨q2, T2, krt_keep re (F 2 (by decide))⟩, rec_keep rc (F 3 (by decide)), pac_keep pa (F 4 (by decide)), ⟨px, py, fx, fy, ⟨cell_set P.1, (cell_setne n1 (cell_8 P.1).1).trans P.2.1, (cell_setne n2 (cell_8 P.1).1).trans P.2.2.1, Nat.zero_le _⟩, o1, o2, o3, ne⟩, fld_keep fl (F 6 (by decide)), one_keep pr (F 7 (by decide)), que_keep qu (F 8 (by decide)), ⟨one_keep w9.1 (F 9 (by decide)), w9.2⟩, ⟨s2, one_keep w10.1 (F 10 (by decide)), w10.2⟩, one_keep ob (F 11 (by decide)), one_keep rr (F 12 (by decide)), law_keep lw (F 13 (by decide)), (fun i p hi hp => (pg i p hi hp).imp fun c z => kpl_keep z (F (20 + i) (by omega))), (fun i hi => plan_keep (pp i hi) (F (40 + i) (by omega))), cf, cm, sp, ⟨bd.1, bd.2.1, bd.2.2.1, Nat.zero_le _⟩, g1, g2, ppi, rp, bud_keep bu K⟩⟩
  rw [e45_0, e45_1, kF_eq ob.1 (v := .ref po) rfl, e45_4 (kR_eq P.1) (by simp [Value.category]), c_plCount P]
  simp only [mAft, Option.toList_some, List.cons_append, List.nil_append]
  rw [e45_7, e45_8, e45_9, kF_eq ob.1 (v := .ref po) rfl, e45_12 (kR_eq P.1) (by simp [Value.category]), e102_0, e102_1, e102_2, kP_eq P.1 (by simp), e102_5]
  simp only [mAft, Option.toList_none, List.nil_append]
  rw [e45_15, e45_16]
  rfl
theorem sh_vehicle (H : SH oc np fr be cu mg st ar fa sl isr rq rT gone pl s cov fcl fop fg fz fe h) {x y : Nat} (hx : x ≤ 2) (hy : y ≤ 2) : ∃ h' fop', mW (mRo L xs) mTab 189 0 [some (.ref 8), some (.int (Int32.ofNat x)), some (.int (Int32.ofNat y)), none] [] h k = some (.inl (some (.int 0)), h', k) ∧ SH oc np x y cu mg st ar fa sl isr rq rT gone pl s cov fcl fop' fg fz fe h' := by
  obtain ⟨ow, et, er, nsq, lg, po, fpg, fpl, es, S, ⟨q1, T1, tr⟩, ⟨q2, T2, re⟩, rc, pa, ou, fl, pr, qu, w9, ⟨s2, w10⟩, ob, rr, lw, pg, pp, cf, cm, sp, bd, g1, g2, ppi, rp, bu⟩ := H
  obtain ⟨h', fop', A1, A2, A3, K⟩ := c_setVehicle (L := L) (xs := xs) (k := k) (fr' := x) (be' := y) ⟨hx, hy⟩ fl.1 cf.1
  have F := fr_of (ow := ow) (n0 := 6) K (fun a z => fld_ow fl z)
  refine ⟨h', fop', ?_, ⟨ow, et, er, nsq, lg, po, fpg, fpl, es, sta_keep S (F 0 (by decide)), ⟨q1, T1, krt_keep tr (F 1 (by decide))⟩, ⟨q2, T2, krt_keep re (F 2 (by decide))⟩, rec_keep rc (F 3 (by decide)), pac_keep pa (F 4 (by decide)), kpl_keep ou (F 5 (by decide)), ⟨A2, fl.2⟩, one_keep pr (F 7 (by decide)), que_keep qu (F 8 (by decide)), ⟨one_keep w9.1 (F 9 (by decide)), w9.2⟩, ⟨s2, one_keep w10.1 (F 10 (by decide)), w10.2⟩, one_keep ob (F 11 (by decide)), one_keep rr (F 12 (by decide)), law_keep lw (F 13 (by decide)), (fun i p hi hp => (pg i p hi hp).imp fun c z => kpl_keep z (F (20 + i) (by omega))), (fun i hi => plan_keep (pp i hi) (F (40 + i) (by omega))), ⟨A3, hx, hy⟩, cm, sp, bd, g1, g2, ppi, rp, bud_keep bu K⟩⟩
  rw [e189_0, e189_1, e189_2, e189_3 (kR_eq ob.1) (by simp [Value.category]), e68_0, e68_1, e68_2, e68_3 (by simp [Value.category]), isOut0 (lo := 0) (hi := 2) (nlt_lit (n := 0) (Nat.zero_le _) (by omega)) (le_lit (n := 2) hx (by decide))]
  simp only [mAft, Option.toList_some, List.cons_append, List.nil_append]
  rw [e68_6, if_neg (fun z => z rfl), e68_9, e68_10, e68_11, e68_12 (by simp [Value.category]), isOut0 (lo := 0) (hi := 2) (nlt_lit (n := 0) (Nat.zero_le _) (by omega)) (le_lit (n := 2) hy (by decide))]
  simp only [mAft, Option.toList_some, List.cons_append, List.nil_append]
  rw [e68_15, if_pos rfl, e68_28, e68_29, kF_eq ob.1 (v := .ref 12) rfl, e68_32, e68_33, e68_34 (kR_eq fl.1.1) (by simp [Value.category]), A1]
  simp only [mAft, Option.toList_none, List.nil_append]
  rw [e68_37]
  simp only [mAft, Option.toList_none, List.nil_append]
  rw [e189_6, e189_7]
theorem sh_cusp (H : SH oc np fr be cu mg st ar fa sl isr rq rT gone pl s cov fcl fop fg fz fe h) {x : Nat} (hx : x ≤ 100) : ∃ h', mW (mRo L xs) mTab 163 0 [some (.ref 8), some (.int (Int32.ofNat x)), none] [] h k = some (.inl (some (.int (Int32.ofNat cu))), h', k) ∧ SH oc np fr be x mg st ar fa sl isr rq rT gone pl s cov fcl fop fg fz fe h' := by
  obtain ⟨ow, et, er, nsq, lg, po, fpg, fpl, es, S, ⟨q1, T1, tr⟩, ⟨q2, T2, re⟩, rc, pa, ou, fl, pr, qu, w9, ⟨s2, w10⟩, ob, rr, lw, pg, pp, cf, cm, sp, bd, g1, g2, ppi, rp, bu⟩ := H
  have K : mKeep (fun a => a = 17) h (h.set (17 - 8) (c17 x mg)) := keep_set pr.1 rfl rfl
  have F := fr_of (ow := ow) (n0 := 7) K (fun a z => by rw [z]; exact pr.2)
  refine ⟨_, ?_, ⟨ow, et, er, nsq, lg, po, fpg, fpl, es, sta_keep S (F 0 (by decide)), ⟨q1, T1, krt_keep tr (F 1 (by decide))⟩, ⟨q2, T2, krt_keep re (F 2 (by decide))⟩, rec_keep rc (F 3 (by decide)), pac_keep pa (F 4 (by decide)), kpl_keep ou (F 5 (by decide)), fld_keep fl (F 6 (by decide)), ⟨cell_set pr.1, pr.2⟩, que_keep qu (F 8 (by decide)), ⟨one_keep w9.1 (F 9 (by decide)), w9.2⟩, ⟨s2, one_keep w10.1 (F 10 (by decide)), w10.2⟩, one_keep ob (F 11 (by decide)), one_keep rr (F 12 (by decide)), law_keep lw (F 13 (by decide)), (fun i p hi hp => (pg i p hi hp).imp fun c z => kpl_keep z (F (20 + i) (by omega))), (fun i hi => plan_keep (pp i hi) (F (40 + i) (by omega))), cf, ⟨hx, cm.2⟩, sp, bd, g1, g2, ppi, rp, bud_keep bu K⟩⟩
  rw [e163_0, e163_1, e163_2 (kR_eq ob.1) (by simp [Value.category]), e43_0, e43_1, e43_2, e43_4 (by simp [Value.category]), isOut0 (lo := 0) (hi := 100) (nlt_lit (n := 0) (Nat.zero_le _) (by omega)) (le_lit (n := 100) hx (by decide))]
  simp only [mAft, Option.toList_some, List.cons_append, List.nil_append]
  rw [e43_7, if_pos rfl, e43_20, e43_21, kF_eq ob.1 (v := .ref 17) rfl, e43_24, e43_25 (kR_eq pr.1) (by simp [Value.category]), e113_0, e113_1, kF_eq pr.1 (v := .int (Int32.ofNat cu)) rfl, e113_4, e113_5, e113_6, e113_7, kP_eq pr.1 (by simp), e113_10, e113_11]
  simp only [mAft, Option.toList_some, List.cons_append, List.nil_append]
  rw [e43_28]
  simp only [mAft, Option.toList_some, List.cons_append, List.nil_append]
  rw [e163_5]
  rfl
theorem sh_margin (H : SH oc np fr be cu mg st ar fa sl isr rq rT gone pl s cov fcl fop fg fz fe h) {x : Nat} (hx : x ≤ 5) : ∃ h', mW (mRo L xs) mTab 174 0 [some (.ref 8), some (.int (Int32.ofNat x)), none] [] h k = some (.inl (some (.int (Int32.ofNat mg))), h', k) ∧ SH oc np fr be cu x st ar fa sl isr rq rT gone pl s cov fcl fop fg fz fe h' := by
  obtain ⟨ow, et, er, nsq, lg, po, fpg, fpl, es, S, ⟨q1, T1, tr⟩, ⟨q2, T2, re⟩, rc, pa, ou, fl, pr, qu, w9, ⟨s2, w10⟩, ob, rr, lw, pg, pp, cf, cm, sp, bd, g1, g2, ppi, rp, bu⟩ := H
  have K : mKeep (fun a => a = 17) h (h.set (17 - 8) (c17 cu x)) := keep_set pr.1 rfl rfl
  have F := fr_of (ow := ow) (n0 := 7) K (fun a z => by rw [z]; exact pr.2)
  refine ⟨_, ?_, ⟨ow, et, er, nsq, lg, po, fpg, fpl, es, sta_keep S (F 0 (by decide)), ⟨q1, T1, krt_keep tr (F 1 (by decide))⟩, ⟨q2, T2, krt_keep re (F 2 (by decide))⟩, rec_keep rc (F 3 (by decide)), pac_keep pa (F 4 (by decide)), kpl_keep ou (F 5 (by decide)), fld_keep fl (F 6 (by decide)), ⟨cell_set pr.1, pr.2⟩, que_keep qu (F 8 (by decide)), ⟨one_keep w9.1 (F 9 (by decide)), w9.2⟩, ⟨s2, one_keep w10.1 (F 10 (by decide)), w10.2⟩, one_keep ob (F 11 (by decide)), one_keep rr (F 12 (by decide)), law_keep lw (F 13 (by decide)), (fun i p hi hp => (pg i p hi hp).imp fun c z => kpl_keep z (F (20 + i) (by omega))), (fun i hi => plan_keep (pp i hi) (F (40 + i) (by omega))), cf, ⟨cm.1, hx⟩, sp, bd, g1, g2, ppi, rp, bud_keep bu K⟩⟩
  rw [e174_0, e174_1, e174_2 (kR_eq ob.1) (by simp [Value.category]), e51_0, e51_1, e51_2, e51_3 (by simp [Value.category]), isOut0 (lo := 0) (hi := 5) (nlt_lit (n := 0) (Nat.zero_le _) (by omega)) (le_lit (n := 5) hx (by decide))]
  simp only [mAft, Option.toList_some, List.cons_append, List.nil_append]
  rw [e51_6, if_pos rfl, e51_19, e51_20, kF_eq ob.1 (v := .ref 17) rfl, e51_23, e51_24 (kR_eq pr.1) (by simp [Value.category]), e114_0, e114_1, kF_eq pr.1 (v := .int (Int32.ofNat mg)) rfl, e114_4, e114_5, e114_6, e114_7, kP_eq pr.1 (by simp), e114_10, e114_11]
  simp only [mAft, Option.toList_some, List.cons_append, List.nil_append]
  rw [e51_27]
  simp only [mAft, Option.toList_some, List.cons_append, List.nil_append]
  rw [e174_5]
  rfl
theorem sh_clearance (H : SH oc np fr be cu mg st ar fa sl isr rq rT gone pl s cov fcl fop fg fz fe h) {cN : Nat → Nat} (C : clOk cov fcl cN) {c : Nat} (hc : c < 256) : mW (mRo L xs) mTab 161 0 [some (.ref 8), some (.int (Int32.ofNat (c % 16))), some (.int (Int32.ofNat (c / 16))), none] [] h k = some (.inl (some (.int (Int32.ofNat (cN c)))), h, k) := by
  obtain ⟨ow, et, er, nsq, lg, po, fpg, fpl, es, S, ⟨q1, T1, tr⟩, ⟨q2, T2, re⟩, rc, pa, ou, fl, pr, qu, w9, ⟨s2, w10⟩, ob, rr, lw, pg, pp, cf, cm, sp, bd, g1, g2, ppi, rp, bu⟩ := H
  have rp := c_reqPose (L := L) (xs := xs) (k := k) (h := h) (p := c) (by omega)
  rw [show c / 16 % 16 = c / 16 by omega, show c / 256 = 0 by omega] at rp
  have cl := c_clearOf (L := L) (xs := xs) (k := k) (p := Int32.ofNat c) (fs := f12 np fr be) fl.1.1 rfl fl.1.2.2.2.1
  rw [pAt_nat (by omega), show c % 256 = c by omega, (C.1 c hc).1] at cl
  rw [e161_0, e161_1, e161_2, e161_3 (kR_eq ob.1) (by simp [Value.category]), e41_0, e41_1, kF_eq ob.1 (v := .ref 12) rfl, e41_4, e41_5, e41_6, e41_7 (by simp [Value.category]), show (0 : Int32) = Int32.ofNat 0 from rfl, rp]
  simp only [mAft, Option.toList_some, List.cons_append, List.nil_append]
  rw [e41_10 (kR_eq fl.1.1) (by simp [Value.category]), cl]
  simp only [mAft, Option.toList_some, List.cons_append, List.nil_append]
  rw [e41_13]
  simp only [mAft, Option.toList_some, List.cons_append, List.nil_append]
  rw [e161_6]
theorem sh_clearBad (H : SH oc np fr be cu mg st ar fa sl isr rq rT gone pl s cov fcl fop fg fz fe h) {x : Nat} (hx : x < 16) : mW (mRo L xs) mTab 161 0 [some (.ref 8), some (.int (Int32.ofNat x)), some (.int 16), none] [] h k = some (.inl (some (.int (-1000001))), h, k + 1) := by
  obtain ⟨ow, et, er, nsq, lg, po, fpg, fpl, es, S, ⟨q1, T1, tr⟩, ⟨q2, T2, re⟩, rc, pa, ou, fl, pr, qu, w9, ⟨s2, w10⟩, ob, rr, lw, pg, pp, cf, cm, sp, bd, g1, g2, ppi, rp, bu⟩ := H
  have rp := c_reqBad (L := L) (xs := xs) (k := k) (h := h) (x := x) (y := 16) (g := 0) (by omega) (Or.inr (Or.inl (Nat.le_refl _)))
  rw [e161_0, e161_1, e161_2, e161_3 (kR_eq ob.1) (by simp [Value.category]), e41_0, e41_1, kF_eq ob.1 (v := .ref 12) rfl, e41_4, e41_5, e41_6, e41_7 (by simp [Value.category]), show (0 : Int32) = Int32.ofNat 0 from rfl, show (16 : Int32) = Int32.ofNat 16 from rfl, rp, aft_thr (hd := mHd mM_41) rfl, aft_cat (show mCatch (mHd mM_161) 3 2 = some (8, 3) from rfl)]
  show mW (mRo L xs) mTab 161 8 [some (.ref 8), some (.int (Int32.ofNat x)), some (.int (Int32.ofNat 16)), none] [] h (k + 1) = _
  rw [e161_8, e161_10]
theorem sh_isFree (H : SH oc np fr be cu mg st ar fa sl isr rq rT gone pl s cov fcl fop fg fz fe h) {p : Nat} (hp : p < 2048) : mW (mRo L xs) mTab 168 0 [some (.ref 8), some (.int (Int32.ofNat (p % 16))), some (.int (Int32.ofNat (p / 16 % 16))), some (.int (Int32.ofNat (p / 256))), none] [] h k = some (.inl (some (.int (if oF fop p = true then 1 else 0))), h, k) := by
  obtain ⟨ow, et, er, nsq, lg, po, fpg, fpl, es, S, ⟨q1, T1, tr⟩, ⟨q2, T2, re⟩, rc, pa, ou, fl, pr, qu, w9, ⟨s2, w10⟩, ob, rr, lw, pg, pp, cf, cm, sp, bd, g1, g2, ppi, rp, bu⟩ := H
  have rp := c_reqPose (L := L) (xs := xs) (k := k) (h := h) hp
  have io := c_isOpen (L := L) (xs := xs) (k := k) (p := Int32.ofNat p) (fs := f12 np fr be) fl.1.1 rfl fl.1.2.2.2.2
  have io2 : mW (mRo L xs) mTab 16 0 [some (.ref 12), some (.int (Int32.ofNat p))] [] h k = some (.inl (some (.int (if oF fop p = true then 1 else 0))), h, k) := by
    rw [io]
    by_cases z : oF fop p = true
    · rw [if_pos z, if_pos ((oF_open hp).mpr z)]
    · rw [if_neg z, if_neg (fun y => z ((oF_open hp).mp y))]
  rw [e168_0, e168_1, e168_2, e168_3, e168_4 (kR_eq ob.1) (by simp [Value.category]), e48_0, e48_1, kF_eq ob.1 (v := .ref 12) rfl, e48_4, e48_5, e48_6, e48_7 (by simp [Value.category]), rp]
  simp only [mAft, Option.toList_some, List.cons_append, List.nil_append]
  rw [e48_10 (kR_eq fl.1.1) (by simp [Value.category]), io2]
  simp only [mAft, Option.toList_some, List.cons_append, List.nil_append]
  rw [e48_13 (by split <;> simp)]
  simp only [mAft, Option.toList_some, List.cons_append, List.nil_append]
  rw [e168_7]
  by_cases z : oF fop p = true
  · rw [if_pos z, if_neg (by decide), e168_10, e168_11, e168_15]
  · rw [if_neg z, if_pos rfl, e168_14, e168_15]
theorem sh_speeds (H : SH oc np fr be cu mg st ar fa sl isr rq rT gone pl s cov fcl fop fg fz fe h) {a b c d : Nat} (S4 : spOk a b c d) : ∃ h', mW (mRo L xs) mTab 186 0 [some (.ref 8), some (.int (Int32.ofNat a)), some (.int (Int32.ofNat b)), some (.int (Int32.ofNat c)), some (.int (Int32.ofNat d)), none] [] h k = some (.inl (some (.int 0)), h', k) ∧ SH oc np fr be cu mg a b c d isr rq rT gone pl s cov fcl fop fg fz fe h' := by
  obtain ⟨ow, et, er, nsq, lg, po, fpg, fpl, es, S, ⟨q1, T1, tr⟩, ⟨q2, T2, re⟩, rc, pa, ou, fl, pr, qu, w9, ⟨s2, w10⟩, ob, rr, lw, pg, pp, cf, cm, sp, bd, g1, g2, ppi, rp, bu⟩ := H
  obtain ⟨sq, f, ⟨p1, p2⟩, o1, o2⟩ := pa
  obtain ⟨⟨a1, a2⟩, ⟨b1, b2⟩, ⟨c1, c2⟩, d1, d2⟩ := id S4
  let cc := fun (u v w z : Nat) => (.inr (2, [.int (Int32.ofNat u), .int (Int32.ofNat v), .int (Int32.ofNat w), .int (Int32.ofNat z), .ref sq]) : mCel)
  have s1 : mCell (h.set (33 - 8) (cc a ar fa sl)) 33 = some (cc a ar fa sl) := cell_set p1
  have s2' : mCell ((h.set (33 - 8) (cc a ar fa sl)).set (33 - 8) (cc a b fa sl)) 33 = some (cc a b fa sl) := cell_set s1
  have s3 : mCell (((h.set (33 - 8) (cc a ar fa sl)).set (33 - 8) (cc a b fa sl)).set (33 - 8) (cc a b c sl)) 33 = some (cc a b c sl) := cell_set s2'
  let hA := h.set (33 - 8) (cc a ar fa sl)
  let hB := hA.set (33 - 8) (cc a b fa sl)
  let hC := hB.set (33 - 8) (cc a b c sl)
  let hD := hC.set (33 - 8) (cc a b c d)
  have K1 : mKeep (fun y => y = 33) h hA := keep_set p1 rfl rfl
  have K2 : mKeep (fun y => y = 33) hA hB := keep_set s1 rfl rfl
  have K3 : mKeep (fun y => y = 33) hB hC := keep_set s2' rfl rfl
  have K4 : mKeep (fun y => y = 33) hC hD := keep_set s3 rfl rfl
  have K : mKeep (fun y => y = 33) h hD := keep_trans (keep_trans (keep_trans K1 K2) K3) K4
  have F := fr_of (ow := ow) (n0 := 4) K (fun y z => by rw [z]; exact o1)
  have ns : sq ≠ 33 := cell_ne p2 p1 (fun z => by cases z)
  refine ⟨_, ?_, ⟨ow, et, er, nsq, lg, po, fpg, fpl, es, sta_keep S (F 0 (by decide)), ⟨q1, T1, krt_keep tr (F 1 (by decide))⟩, ⟨q2, T2, krt_keep re (F 2 (by decide))⟩, rec_keep rc (F 3 (by decide)), ⟨sq, f, ⟨cell_set s3, (K.2.2 _ ns).trans p2⟩, o1, o2⟩, kpl_keep ou (F 5 (by decide)), fld_keep fl (F 6 (by decide)), one_keep pr (F 7 (by decide)), que_keep qu (F 8 (by decide)), ⟨one_keep w9.1 (F 9 (by decide)), w9.2⟩, ⟨s2, one_keep w10.1 (F 10 (by decide)), w10.2⟩, one_keep ob (F 11 (by decide)), one_keep rr (F 12 (by decide)), law_keep lw (F 13 (by decide)), (fun i p hi hp => (pg i p hi hp).imp fun c z => kpl_keep z (F (20 + i) (by omega))), (fun i hi => plan_keep (pp i hi) (F (40 + i) (by omega))), cf, cm, S4, bd, g1, g2, ppi, rp, bud_keep bu K⟩⟩
  rw [e186_0, e186_1, e186_2, e186_3, e186_4, e186_6 (kR_eq ob.1) (by simp [Value.category]), e66_0, e66_1, e66_2, e66_5 (by simp [Value.category]), isOut0 (lo := 1) (hi := 10000) (nlt_lit (n := 1) (by omega) (by omega)) (le_lit (n := 10000) (by omega) (by decide))]
  simp only [mAft, Option.toList_some, List.cons_append, List.nil_append]
  rw [e66_8, if_neg (fun z => z rfl), e66_11, e66_12, e66_13, e66_16 (by simp [Value.category]), isOut0 (lo := 1) (hi := 10000) (nlt_lit (n := 1) (by omega) (by omega)) (le_lit (n := 10000) (by omega) (by decide))]
  simp only [mAft, Option.toList_some, List.cons_append, List.nil_append]
  rw [e66_19, if_pos rfl, e66_33, e66_34, e66_35, e66_38 (by simp [Value.category]), isOut0 (lo := 1) (hi := 1000) (nlt_lit (n := 1) (by omega) (by omega)) (le_lit (n := 1000) (by omega) (by decide))]
  simp only [mAft, Option.toList_some, List.cons_append, List.nil_append]
  rw [e66_41, if_neg (fun z => z rfl), e66_44, e66_46, e66_47, e66_50 (by simp [Value.category]), isOut0 (lo := 1) (hi := 1000) (nlt_lit (n := 1) (by omega) (by omega)) (le_lit (n := 1000) (by omega) (by decide))]
  simp only [mAft, Option.toList_some, List.cons_append, List.nil_append]
  rw [e66_53, if_pos rfl, e66_67, e66_68, kF_eq ob.1 (v := .ref 33) rfl, e66_71, e66_72, e66_73, e66_74, e66_76 (kR_eq p1) (by simp [Value.category]), e98_0, e98_1, e98_2, kP_eq p1 (by simp)]
  show mAft _ _ 186 6 _ _ (mAft _ _ 66 76 _ _ (mW (mRo L xs) mTab 98 5 _ [] (h.set (33 - 8) (cc a ar fa sl)) k)) = _
  rw [e98_5, e98_6, e98_7, kP_eq s1 (by simp)]
  show mAft _ _ 186 6 _ _ (mAft _ _ 66 76 _ _ (mW (mRo L xs) mTab 98 10 _ [] ((h.set (33 - 8) (cc a ar fa sl)).set (33 - 8) (cc a b fa sl)) k)) = _
  rw [e98_10, e98_11, e98_12, kP_eq s2' (by simp)]
  show mAft _ _ 186 6 _ _ (mAft _ _ 66 76 _ _ (mW (mRo L xs) mTab 98 15 _ [] (((h.set (33 - 8) (cc a ar fa sl)).set (33 - 8) (cc a b fa sl)).set (33 - 8) (cc a b c sl)) k)) = _
  rw [e98_15, e98_16, e98_18, kP_eq s3 (by simp)]
  show mAft _ _ 186 6 _ _ (mAft _ _ 66 76 _ _ (mW (mRo L xs) mTab 98 21 _ [] ((((h.set (33 - 8) (cc a ar fa sl)).set (33 - 8) (cc a b fa sl)).set (33 - 8) (cc a b c sl)).set (33 - 8) (cc a b c d)) k)) = _
  rw [e98_21]
  simp only [mAft, Option.toList_none, List.nil_append]
  rw [e66_79]
  simp only [mAft, Option.toList_none, List.nil_append]
  rw [e186_9, e186_10]
end
