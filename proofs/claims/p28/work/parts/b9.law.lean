section
variable {L : Nat} {xs : Nat → Int32} {k : Nat} {h : List mCel}
theorem kAL_0 {q : Int32 → Option mOut} : kAL (mRo L xs) h 0 q = q (Int32.ofNat L) := by unfold kAL; exact if_pos (by decide)
theorem kIA_0 {j : Nat} {q : Int32 → Option mOut} (hj : j < 2 ^ 30) (hl : j < L) : kIA (mRo L xs) h 0 (Int32.ofNat j) q = q (xs j) := by
  have e : (Int32.ofNat j).toNatClampNeg = j := oi_nat (by omega)
  unfold kIA
  rw [if_pos (by decide)]
  refine (if_pos ?_).trans (by rw [e]; rfl)
  rw [oi_int (by omega)]
  refine ⟨Int.natCast_nonneg _, ?_⟩
  show (j : Int) < (L : Int)
  omega
theorem c_at (hL : L ≤ 260) {j : Nat} (hj : j < 2 ^ 30) : ∃ v, mW (mRo L xs) mTab 156 0 [some (.ref 0), some (.int (Int32.ofNat j))] [] h k = some (.inl (some (.int v)), h, k) := by
  by_cases z : L ≤ j
  · refine ⟨1877201349 * (Int32.ofNat j + 1) + 735570417, ?_⟩
    rw [e156_0, e156_1, e156_2, kAL_0, e156_3, if_pos (by rw [oi_le (by omega) (by omega)]; exact z), e156_12, e156_14, e156_15, e156_16, e156_17, e156_18, e156_20, e156_21]
  · refine ⟨xs j, ?_⟩
    rw [e156_0, e156_1, e156_2, kAL_0, e156_3, if_neg (by rw [oi_le (by omega) (by omega)]; exact z), e156_6, e156_7, e156_8, kIA_0 hj (by omega), e156_9, e156_21]
/-- where each of the first cells belongs -/
def owI (a : Nat) : Nat := ([11, 0, 0, 0, 6, 6, 6, 6, 6, 7, 0, 8, 8, 8, 8, 8, 1, 1, 1, 9, 0, 2, 2, 2, 10, 4, 4, 12, 3, 3, 3, 5, 5, 5, 13, 13, 13] : List Nat).getD (a - 8) 99
def nQ0 (r _j : Nat) : Nat := if r = 1 ∨ r = 2 ∨ r = 3 then 1 else 0
variable {fX fY fc fo : Nat → Int32}
theorem nQ0_le (r j : Nat) : nQ0 r j ≤ 1 := by
  unfold nQ0
  split
  · exact Nat.le_refl _
  · exact Nat.zero_le _
theorem hz_c : hz (hC10 fX fY fc fo) ≤ 15906 := by
  simp [hz, hC10, hz1, zI, mZero, mTy]
theorem row_z {r : Nat} (hr : r = 1 ∨ r = 2 ∨ r = 3) : qRowC nQ0 r = zI (qLen r) := by
  have e : (fun j => qDec r (nQ0 r j)) = fun _ => 0 := funext fun j => by
    unfold nQ0 qDec
    rw [if_pos hr, if_neg (by omega)]
    decide
  unfold qRowC zI
  rw [e]
theorem que_new : KQue owI (((hC10 fX fY fc fo ++ [.inl (0, mZero (mTy 0) (4 : Int32).toNatClampNeg)]) ++ [.inl (0, mZero (mTy 0) (9 : Int32).toNatClampNeg)]) ++ [.inl (0, mZero (mTy 0) (24 : Int32).toNatClampNeg)]) := by
  refine ⟨⟨nQ0, ⟨fun r hr => ?_, rfl, fun r s hr hs hn => by unfold adQ; split <;> split <;> omega⟩, fun j _ => ⟨Nat.lt_of_le_of_lt (nQ0_le _ _) (by decide), Nat.le_trans (nQ0_le _ _) (by decide), Nat.le_trans (nQ0_le _ _) (by decide), fun _ => Nat.le_trans (nQ0_le _ _) (by decide)⟩⟩, rfl, rfl, rfl, rfl, rfl⟩
  obtain rfl | rfl | rfl | rfl : r = 0 ∨ r = 1 ∨ r = 2 ∨ r = 3 := by omega
  · rfl
  · rw [row_z (by decide)]; rfl
  · rw [row_z (by decide)]; rfl
  · rw [row_z (by decide)]; rfl
theorem hz_new : hz (((hC10 fX fY fc fo ++ [.inl (0, mZero (mTy 0) (4 : Int32).toNatClampNeg)]) ++ [.inl (0, mZero (mTy 0) (9 : Int32).toNatClampNeg)]) ++ [.inl (0, mZero (mTy 0) (24 : Int32).toNatClampNeg)]) ≤ 15303 + 256 * 2 ^ 0 + 256 * 2 ^ 0 + sumE (fun _ => 0) 0 + 2 * 64 + 15 * 0 := by
  rw [hz_app, hz_app, hz_app]
  have := hz_c (fX := fX) (fY := fY) (fc := fc) (fo := fo)
  show hz (hC10 fX fY fc fo) + 4 + 9 + 24 ≤ 15303 + 256 * 1 + 256 * 1 + 0 + 128 + 0
  omega
theorem st_new (ha : ∀ g kk, g < 8 → (kk = 1 ∨ kk = 2) → arcOk fX fY g kk) (C : fdC 1 1 (fun _ => 0) fc fo) : SH 0 0 1 1 20 0 100 25 2 3 0 0 [] (fun _ => false) [] (536870912, 0, 0, 0, 0) (fun _ => 0) fc fo (fun _ => 0) (fun _ => 0) (fun _ => 0) (((hC10 fX fY fc fo ++ [.inl (0, mZero (mTy 0) (4 : Int32).toNatClampNeg)]) ++ [.inl (0, mZero (mTy 0) (9 : Int32).toNatClampNeg)]) ++ [.inl (0, mZero (mTy 0) (24 : Int32).toNatClampNeg)]) :=
  ⟨owI, 0, 0, 64, 6, 39, fun _ => none, fun _ => none, fun _ => 0,
    ⟨⟨fX, fY, rfl, rfl, rfl, fun g kk n hg hk hn => ha g kk hg hk n hn⟩, rfl, rfl, rfl, rfl, rfl, rfl, rfl⟩,
    ⟨0, [], 25, 26, ⟨⟨Nat.zero_le _, by decide⟩, fun _ => 0, fun _ => 0, ⟨rfl, rfl, rfl, by decide⟩, rfl, fun i x hx => by simp at hx⟩, rfl, rfl, rfl⟩,
    ⟨0, [], 30, 31, ⟨⟨Nat.zero_le _, by decide⟩, fun _ => 0, fun _ => 0, ⟨rfl, rfl, rfl, by decide⟩, rfl, fun i x hx => by simp at hx⟩, rfl, rfl, rfl⟩,
    ⟨⟨⟨Nat.zero_le _, by decide⟩, fun _ => 0, fun _ => 0, ⟨rfl, rfl, rfl, by decide⟩, rfl, fun i x hx => by simp at hx⟩, rfl, rfl, rfl⟩,
    ⟨34, fun _ => 0, ⟨rfl, rfl⟩, rfl, rfl⟩,
    ⟨40, 41, fun _ => 0, fun _ => 0, ⟨rfl, rfl, rfl, Nat.zero_le _⟩, rfl, rfl, rfl, by decide⟩,
    ⟨⟨rfl, rfl, rfl, rfl, rfl⟩, rfl, rfl, rfl, rfl, rfl⟩,
    ⟨rfl, rfl⟩,
    que_new,
    ⟨⟨rfl, rfl⟩, ⟨by decide, by decide, by decide, by decide⟩, by decide, fun _ => rfl⟩,
    ⟨(536870912, 0, 0, 0, 0), ⟨rfl, rfl⟩, ⟨by decide, by decide, by decide, by decide⟩, by decide⟩,
    ⟨rfl, rfl⟩, ⟨rfl, rfl⟩, ⟨⟨rfl, rfl⟩, ⟨rfl, rfl⟩, ⟨rfl, rfl⟩⟩,
    (fun i p _ z => by cases z), (fun i _ => by rw [List.getElem?_nil]), ⟨C, by decide, by decide⟩, ⟨by decide, by decide⟩, ⟨⟨by decide, by decide⟩, ⟨by decide, by decide⟩, ⟨by decide, by decide⟩, by decide, by decide⟩, ⟨by decide, by decide, Nat.zero_le _, by decide⟩, (fun i z => absurd z (Nat.not_lt_zero _)), (fun _ _ => rfl), (fun x z => (List.not_mem_nil z).elim), ⟨by decide, fun x z => (List.not_mem_nil z).elim, trivial, Nat.zero_le _⟩,
    ⟨hz_new, by simp [hC10, sumL], by decide, ⟨by decide, by decide⟩, by decide, by decide, fun _ => Nat.zero_le _⟩⟩
theorem lw_loop (hL : L ≤ 260) : ∀ (d j k : Nat) (h : List mCel), j + d = 50 → ST h → ∃ h' k' l6, mW (mRo L xs) mTab 172 44 [some (.ref 0), some (.ref 8), some (.ref 42), some (.ref 43), some (.ref 44), some (.int 1), some (.int (Int32.ofNat j))] [] h k = mW (mRo L xs) mTab 172 90 [some (.ref 0), some (.ref 8), some (.ref 42), some (.ref 43), some (.ref 44), some (.int 1), l6] [] h' k' ∧ k' ≤ k + 17 * d ∧ ST h' := by
  intro d
  induction d with
  | zero =>
    intro j k h hj S
    refine ⟨h, k, some (.int (Int32.ofNat j)), ?_, Nat.le_refl _, S⟩
    rw [e172_44, e172_46, e172_48, if_pos (by rw [show (50 : Int32) = Int32.ofNat 50 from rfl, oi_le (by decide) (by omega)]; omega)]
  | succ d IH =>
    intro j k h hj S
    obtain ⟨v0, a0⟩ := c_at (L := L) (xs := xs) (k := k) (h := h) hL (j := 2 * j) (by omega)
    obtain ⟨v1, a1⟩ := c_at (L := L) (xs := xs) (k := k) (h := h) hL (j := 2 * j + 1) (by omega)
    obtain ⟨h1, k1, ac, kk, S1⟩ := law_acts (L := L) (xs := xs) (k := k) (x := v0) (y := v1) S
    obtain ⟨h2, k2, l6, e, kk2, S2⟩ := IH (j + 1) k1 h1 (by omega) S1
    have e2i : (2 : Int32) * Int32.ofNat j = Int32.ofNat (2 * j) := (oi_mul 2 _).symm
    refine ⟨h2, k2, l6, ?_, by omega, S2⟩
    rw [e172_44, e172_46, e172_48, if_neg (by rw [show (50 : Int32) = Int32.ofNat 50 from rfl, oi_le (by decide) (by omega)]; omega), e172_51, e172_53, if_neg (by decide), e172_56, e172_57, e172_58, e172_59, e172_61, e172_62, e172_63, e172_65, e2i, e172_66 (by simp [Value.category]), a0]
    simp only [mAft, Option.toList_some, List.cons_append, List.nil_append]
    rw [e172_69, e172_70, e172_71, e172_73, e2i, e172_74, e172_75, oi_i1, e172_76 (by simp [Value.category]), a1]
    simp only [mAft, Option.toList_some, List.cons_append, List.nil_append]
    rw [e172_79 (by simp [Value.category]), ac]
    simp only [mAft, Option.toList_some, List.cons_append, List.nil_append]
    rw [e172_82, e172_84, oi_i1, e172_87]
    exact e

variable {oc np fr be cu mg st ar fa sl isr rq : Nat} {rT : List (Nat × Nat)} {gone : Nat → Bool} {pl : List (Nat × List (Nat × Nat))} {s : wS} {cov fcl fop fg fz fe : Nat → Int32}

theorem lw_last {c : Nat} (G0 : LG oc np c pl gone fg fz fe) : ∀ (d j k : Nat) (h : List mCel), j + d = pl.length → SH oc np fr be cu mg st ar fa sl isr rq rT gone pl s cov fcl fop fg fz fe h → ∃ h' k', mW (mRo L xs) mTab 172 93 [some (.ref 0), some (.ref 8), some (.ref 42), some (.ref 43), some (.ref 44), some (.int 1), some (.int (Int32.ofNat j))] [] h k = some (.inl (some (.int 1)), h', k') ∧ k' ≤ k + 5 * d ∧ SH oc np fr be cu mg st ar fa sl isr rq rT gone pl s cov fcl fop fg fz fe h' := by
  intro d
  induction d with
  | zero =>
    intro j k h hj H
    have bl := (sh_bd H).1.2.2.1
    have g42 := (sh_g H).1
    refine ⟨h, k, ?_, Nat.le_refl _, H⟩
    rw [e172_93, e172_95, e172_96, e172_97, rd (J := 2) (j := 2) g42 rfl (by decide) (by decide), e172_98, if_pos (by rw [G0.2.2.1, oi_le (by omega) (by omega)]; omega), e172_136, e172_138 (Or.inr rfl)]
  | succ d IH =>
    intro j k h hj H
    have bl := (sh_bd H).1.2.2.1
    have g42 := (sh_g H).1
    have g44 := (sh_g H).2.2.1
    obtain ⟨q, T, hi, hP⟩ := sh_at H (i := j) (by omega)
    have fe12 := G0.2.2.2.2.2 j (q, T) hi
    have fe1 : fe (2 * j) = told q := fe12.1
    have fe2 : fe (2 * j + 1) = told (Sho.fin q T) := fe12.2
    have e2i : (2 : Int32) * Int32.ofNat j = Int32.ofNat (2 * j) := (oi_mul 2 _).symm
    have e2j : (2 : Int32) * Int32.ofNat j + 1 = Int32.ofNat (2 * j + 1) := by rw [e2i, oi_i1]
    have j1 : 2 * j < 24 := by omega
    have j2 : 2 * j + 1 < 24 := by omega
    obtain ⟨h1, ip, H1⟩ := law_isPlan (L := L) (xs := xs) (k := k) H hi hP (l4 := none) (l5 := none) (l6 := none) (l7 := none) (l8 := none) (l9 := none) (l10 := none) (l11 := none) (l12 := none)
    obtain ⟨h2, k2, e, kk, H2⟩ := IH (j + 1) (k + 5) h1 (by omega) H1
    refine ⟨h2, k2, ?_, by omega, H2⟩
    rw [e172_93, e172_95, e172_96, e172_97, rd (J := 2) (j := 2) g42 rfl (by decide) (by decide), e172_98, if_neg (by rw [G0.2.2.1, oi_le (by omega) (by omega)]; omega), e172_101, e172_103, if_neg (by decide), e172_106, e172_107, e172_109, e172_111, e172_112, e172_114, e172_115, rd g44 e2i j1 (by decide), e172_116, e172_118, e172_119, e172_121, e172_122, e172_123, e172_124, rd g44 e2j j2 (by decide), fe1, fe2, e172_125 (by simp [Value.category]), ip]
    simp only [mAft, Option.toList_some, List.cons_append, List.nil_append]
    rw [e172_128, e172_130, oi_i1, e172_133]
    exact e
theorem sumE_12 {es : Nat → Nat} (he : ∀ i, es i ≤ 11) : ∀ n, sumE es n ≤ 524288 * n
  | 0 => Nat.le_refl _
  | n + 1 => by
    have := sumE_12 he n
    have h2 := pow_le (he n)
    rw [sumE]
    omega
theorem sumL_12 {es : Nat → Nat} (he : ∀ i, es i ≤ 11) : ∀ n, sumL es n ≤ 25 * n
  | 0 => Nat.le_refl _
  | n + 1 => by
    have := sumL_12 he n
    have := he n
    rw [sumL]
    omega
theorem sh_room (H : SH oc np fr be cu mg st ar fa sl isr rq rT gone pl s cov fcl fop fg fz fe h) : hz h ≤ 7291631 ∧ h.length ≤ 1000 := by
  obtain ⟨ow, et, er, nsq, lg, po, fpg, fpl, es, S, ⟨q1, T1, tr⟩, ⟨q2, T2, re⟩, rc, pa, ou, fl, pr, qu, w9, ⟨s2, w10⟩, ob, rr, lw, pg, pp, cf, cm, sp, bd, g1, g2, ppi, rp, bu⟩ := H
  obtain ⟨u1, u2, u3, u4, u5, u6, u7⟩ := bu
  have m1 := sumE_12 u7 pl.length
  have m2 := sumL_12 u7 pl.length
  have p1 : 2 ^ et ≤ 32 := Nat.pow_le_pow_right (show 0 < 2 by decide) u5
  have p2 := pow_le u6
  have b2 := bd.2.1
  have b3 := bd.2.2.1
  have lg18 : lg < 18 := by
    refine Classical.byContradiction fun z => ?_
    have := Nat.pow_le_pow_right (show 0 < 2 by decide) (show 18 ≤ lg by omega)
    omega
  refine ⟨?_, ?_⟩
  · clear u2 u3 m2
    generalize 2 ^ et = a at *
    generalize 2 ^ er = b at *
    omega
  · clear u1 u3 m1 p1 p2
    omega

theorem law_all {L : Nat} {xs : Nat → Int32} (hL : L ≤ 260) : ∃ h2 x1, mW (mRo L xs) mTab 172 0 [some (.ref 0), none, none, none, none, none, none] [] [] 0 = some (.inl (some (.int 1)), h2, x1) ∧ h2.length ≤ 1000 ∧ hz h2 ≤ 7291631 ∧ x1 ≤ 911 := by
  obtain ⟨fX, fY, fc, fo, cn, ha, C⟩ := c_new (L := L) (xs := xs)
  have H0 := st_new ha C
  have pn := sh_planOfNone (L := L) (xs := xs) (k := 0) H0 (i := 0) (by decide) (by rw [List.getElem?_nil]) 0
  have pn : mW (mRo L xs) mTab 178 0 [some (.ref 8), some (.int 0), some (.int 0), none] [] (((hC10 fX fY fc fo ++ [.inl (0, mZero (mTy 0) (4 : Int32).toNatClampNeg)]) ++ [.inl (0, mZero (mTy 0) (9 : Int32).toNatClampNeg)]) ++ [.inl (0, mZero (mTy 0) (24 : Int32).toNatClampNeg)]) 0 = _ := pn
  have S0 : ST (((hC10 fX fY fc fo ++ [.inl (0, mZero (mTy 0) (4 : Int32).toNatClampNeg)]) ++ [.inl (0, mZero (mTy 0) (9 : Int32).toNatClampNeg)]) ++ [.inl (0, mZero (mTy 0) (24 : Int32).toNatClampNeg)]) := ⟨_, _, _, _, _, _, _, _, _, _, _, _, _, _, _, _, _, _, _, _, _, _, 0, H0, ⟨rfl, rfl, rfl, rfl, fun i _ => by rw [if_neg (fun z => Nat.not_lt_zero _ z.1)], fun i x z => by rw [List.getElem?_nil] at z; cases z⟩, by decide⟩
  obtain ⟨h1, k1, l6, e1, kk1, S1⟩ := lw_loop (xs := xs) hL 50 0 1 _ rfl S0
  obtain ⟨oc, np, fr, be, cu, mg, st, ar, fa, sl, isr, rq, rT, gone, pl, s, cov, fcl, fop, fg, fz, fe, c, H1, G1, hc⟩ := S1
  obtain ⟨h2, k2, e2, kk2, H2⟩ := lw_last (L := L) (xs := xs) G1 pl.length 0 k1 h1 (Nat.zero_add _) H1
  have rm := sh_room H2
  have bl := (sh_bd H2).1.2.2.1
  refine ⟨h2, k2, ?_, rm.2, rm.1, by omega⟩
  rw [e172_0]
  show mW (mRo L xs) mTab 172 3 _ [.ref 8] [.inr (10, mFls TX11 11)] 0 = _
  rw [e172_3r, e172_4 (kR_eq rfl) (by simp [Value.category]), cn]
  simp only [mAft, Option.toList_none, List.nil_append]
  rw [e172_7, e172_8, e172_9 (by decide), e172_11, e172_12, e172_14 (by decide), e172_16, e172_17, e172_19 (by decide), e172_21]
  show mW (mRo L xs) mTab 172 23 [some (.ref 0), some (.ref 8), some (.ref 42), some (.ref 43), some (.ref 44), none, none] [] (((hC10 fX fY fc fo ++ [.inl (0, mZero (mTy 0) (4 : Int32).toNatClampNeg)]) ++ [.inl (0, mZero (mTy 0) (9 : Int32).toNatClampNeg)]) ++ [.inl (0, mZero (mTy 0) (24 : Int32).toNatClampNeg)]) 0 = _
  rw [e172_23, e172_24, e172_25, e172_26 (by simp [Value.category]), pn]
  simp only [mAft, Option.toList_some, List.cons_append, List.nil_append]
  rw [e172_29, e172_31, if_neg (fun z => z rfl), e172_34, e172_35, e172_39, e172_41, e172_42]
  refine Eq.trans e1 ?_
  rw [e172_90, e172_91]
  exact e2
end
