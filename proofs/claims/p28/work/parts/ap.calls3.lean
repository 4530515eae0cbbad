section
variable {L : Nat} {xs : Nat → Int32} {k : Nat} {h : List mCel} {ow : Nat → Nat}
theorem c_PolyK {h : List mCel} : mW (mRo L xs) mTab 104 0 [some (.ref (8 + h.length))] [] (h ++ [.inr (3, mFls TX4 3)]) k =
    some (.inl none, h ++ [.inr (3, [.ref (8 + h.length + 1), .ref (8 + h.length + 2), .int 0]), zI 6, zI 6], k) := by
  rw [fl_4, e104_0, e104_1 (by simp), e104_4, e104_5, e104_7 (by decide), z_int, ap_app, ap_len, e104_9, kP_eq (ap_0) (by simp), ap_set0]
  rw [e104_12, e104_13, e104_15 (by decide), z_int, ap_app, ap_len, e104_17, kP_eq (ap_0) (by simp), ap_set0, e104_20]
  rfl
theorem vu_at {f : Nat → Option Nat} {i : Nat} {v : Option Nat} : va_up f i v i = v := by unfold va_up; rw [if_pos rfl]
theorem vu_ne {f : Nat → Option Nat} {i j : Nat} {v : Option Nat} (hj : j ≠ i) : va_up f i v j = f j := by unfold va_up; rw [if_neg hj]

variable {oc np fr be cu mg st ar fa sl isr rq : Nat} {rT : List (Nat × Nat)} {gone : Nat → Bool} {pl : List (Nat × List (Nat × Nat))} {s : wS} {cov fcl fop fg fz fe : Nat → Int32}

theorem sh_polygon (H : SH oc np fr be cu mg st ar fa sl isr rq rT gone pl s cov fcl fop fg fz fe h) (h3 : 3 ≤ oc) (h8 : np < 8) : ∃ h' cov' fcl' fop', mW (mRo L xs) mTab 180 0 [some (.ref 8), none] [] h k = some (.inl (some (.int (Int32.ofNat np))), h', k) ∧ SH 0 (np + 1) fr be cu mg st ar fa sl isr rq rT (fun i => if i = np then false else gone i) pl s cov' fcl' fop' fg fz fe h' := by
  obtain ⟨ow, et, er, nsq, lg, po, fpg, fpl, es, S, ⟨q1, T1, tr⟩, ⟨q2, T2, re⟩, rc, pa, ou, fl, pr, qu, w9, ⟨s2, w10⟩, ob, rr, lw, pg, pp, cf, cm, sp, bd, g1, g2, ppi, rp, bu⟩ := H
  obtain ⟨px, py, fx, fy, Pl, o1, o2, o3, ne⟩ := ou
  obtain ⟨h1, cov1, fcl1, fop1, A1, A2, A3, K1⟩ := c_addPoly (L := L) (xs := xs) (k := k) cf.2 h8 fl.1 Pl
  have F1 := fr_of (ow := ow) (n0 := 6) K1 (fun a z => fld_ow fl z)
  have ob1 := one_keep ob (F1 11 (by decide))
  have l1 := K1.1
  -- the new outline
  let hN := h1 ++ [(.inr (3, [.ref (8 + h1.length + 1), .ref (8 + h1.length + 2), .int 0]) : mCel), zI 6, zI 6]
  let h2 := hN.set (8 - 8) (c8 pl.length isr (8 + h1.length))
  have lN : hN.length = h1.length + 3 := by simp [hN]
  have obN : mCell hN 8 = some (c8 pl.length isr po) := (ap_old (by have := cell_8 ob1.1; omega)).trans ob1.1
  have K2 : mKeep (fun a => a = 8) hN h2 := keep_set obN rfl rfl
  let ow2 := fun a => if a < 8 + h.length then (if ow a = 5 then 20 + np else ow a) else 5
  have old : ∀ a n, a < 8 + h.length → ow a = n → n ≠ 5 → ow2 a = n := fun a n ha ho hn => by
    show (if a < 8 + h.length then (if ow a = 5 then 20 + np else ow a) else 5) = n
    rw [if_pos ha, if_neg (by omega), ho]
  have cellK : ∀ a, a < 8 + h.length → ow a ≠ 6 → a ≠ 8 → mCell h2 a = mCell h a := fun a ha h6 ha8 => (K2.2.2 a ha8).trans ((ap_old (by omega)).trans (K1.2.2 a (fun z => h6 (fld_ow fl z))))
  have o8 : ow 8 = 11 := ob.2
  have F : ∀ n, n ≠ 5 → n ≠ 6 → n ≠ 11 → FrN n ow ow2 h h2 := fun n h5 h6 h11 a ha ho => ⟨old a n ha ho h5, cellK a ha (by omega) (fun z => h11 (by rw [← ho, z]; exact o8))⟩
  have b12 := cell_8 fl.1.1
  have b13 := cell_8 fl.1.2.1
  have b14 := cell_8 fl.1.2.2.1
  have b15 := cell_8 fl.1.2.2.2.1
  have b16 := cell_8 fl.1.2.2.2.2
  have bo := cell_8 ob.1
  have A2' : fdH (np + 1) fr be (va_up fpg np (some po)) cov1 fcl1 fop1 h2 := by
    obtain ⟨z1, z2, z3, z4, z5⟩ := A2
    exact ⟨(K2.2.2 12 (by decide)).trans ((ap_old (by omega)).trans z1), (K2.2.2 13 (by decide)).trans ((ap_old (by omega)).trans z2), (K2.2.2 14 (by decide)).trans ((ap_old (by omega)).trans z3), (K2.2.2 15 (by decide)).trans ((ap_old (by omega)).trans z4), (K2.2.2 16 (by decide)).trans ((ap_old (by omega)).trans z5)⟩
  have newO : ∀ a, 8 + h.length ≤ a → ow2 a = 5 := fun a ha => by
    show (if a < 8 + h.length then (if ow a = 5 then 20 + np else ow a) else 5) = 5
    rw [if_neg (by omega)]
  have oldO : ∀ a, a < 8 + h.length → ow a = 5 → ow2 a = 20 + np := fun a ha ho => by
    show (if a < 8 + h.length then (if ow a = 5 then 20 + np else ow a) else 5) = 20 + np
    rw [if_pos ha, if_pos ho]
  have p8 := cell_8 Pl.1
  have px8 := cell_8 Pl.2.1
  have py8 := cell_8 Pl.2.2.1
  have hzN : hz h2 = hz h + 15 := by
    rw [K2.2.1]
    show hz (h1 ++ [_, _, _]) = _
    rw [← K1.2.1, show (h1 ++ [(.inr (3, [.ref (8 + h1.length + 1), .ref (8 + h1.length + 2), .int 0]) : mCel), zI 6, zI 6]) = ((h1 ++ [(.inr (3, [.ref (8 + h1.length + 1), .ref (8 + h1.length + 2), .int 0]) : mCel)]) ++ [zI 6]) ++ [zI 6] by simp, hz_app, hz_app, hz_app]
    rfl
  refine ⟨h2, cov1, fcl1, fop1, ?_, ⟨ow2, et, er, nsq, lg, (8 + h1.length), (va_up fpg np (some po)), fpl, es, sta_keep S (F 0 (by decide) (by decide) (by decide)), ⟨q1, T1, krt_keep tr (F 1 (by decide) (by decide) (by decide))⟩, ⟨q2, T2, krt_keep re (F 2 (by decide) (by decide) (by decide))⟩, rec_keep rc (F 3 (by decide) (by decide) (by decide)), pac_keep pa (F 4 (by decide) (by decide) (by decide)), ⟨8 + h1.length + 1, 8 + h1.length + 2, fun _ => 0, fun _ => 0, ⟨(K2.2.2 _ (by omega)).trans ap_0, (K2.2.2 _ (by omega)).trans (ap_cell 1), (K2.2.2 _ (by omega)).trans (ap_cell 2), Nat.zero_le _⟩, newO _ (by omega), newO _ (by omega), newO _ (by omega), by omega⟩, ⟨A2', old 12 6 (by omega) fl.2.1 (by decide), old 13 6 (by omega) fl.2.2.1 (by decide), old 14 6 (by omega) fl.2.2.2.1 (by decide), old 15 6 (by omega) fl.2.2.2.2.1 (by decide), old 16 6 (by omega) fl.2.2.2.2.2 (by decide)⟩, one_keep pr (F 7 (by decide) (by decide) (by decide)), que_keep qu (F 8 (by decide) (by decide) (by decide)), ⟨one_keep w9.1 (F 9 (by decide) (by decide) (by decide)), w9.2⟩, ⟨s2, one_keep w10.1 (F 10 (by decide) (by decide) (by decide)), w10.2⟩, ⟨cell_set obN, old 8 11 (by omega) o8 (by decide)⟩, one_keep rr (F 12 (by decide) (by decide) (by decide)), law_keep lw (F 13 (by decide) (by decide) (by decide)), ?_, fun i hi => plan_keep (pp i hi) (F (40 + i) (by omega) (by omega) (by omega)), ⟨A3, cf.2⟩, cm, sp, ⟨bd.1, by omega, bd.2.2.1, Nat.zero_le _⟩, ?_, ?_, ppi, rp, ?_⟩⟩
  · obtain ⟨_, hb⟩ := pl_14 fl.1 Pl
    rw [e180_0, e180_1 (kR_eq ob.1) (by simp [Value.category]), e56_0, e56_1, kF_eq ob.1 (v := .ref po) rfl, e56_4 (kR_eq Pl.1) (by simp [Value.category]), c_plCount Pl]
    simp only [mAft, Option.toList_some, List.cons_append, List.nil_append]
    rw [e56_7, e56_8, if_pos (show (3 : Int32) ≤ Int32.ofNat oc from le_lit (i := 3) h3 (by omega)), e56_21, e56_22, kF_eq ob.1 (v := .ref 12) rfl, e56_25 (kR_eq fl.1.1) (by simp [Value.category]), e20_0, e20_1, kF_eq fl.1.1 (v := .int (Int32.ofNat np)) rfl, e20_4]
    simp only [mAft, Option.toList_some, List.cons_append, List.nil_append]
    rw [e56_28, e56_30, if_pos (show Int32.ofNat np < 8 from lt_lit (n := 8) h8 (by decide)), e56_43, e56_44, kF_eq ob.1 (v := .ref 12) rfl, e56_47, e56_48, kF_eq ob.1 (v := .ref po) rfl, e56_51 (kR_eq fl.1.1) (by simp [Value.category]), A1]
    simp only [mAft, Option.toList_some, List.cons_append, List.nil_append]
    rw [e56_54, e56_55, e56_56, e56_59r, e56_60 kR_new (by simp [Value.category]), c_PolyK]
    simp only [mAft, Option.toList_none, List.nil_append]
    rw [e56_63]
    rw [kP_eq obN (by simp), e56_66, e56_67]
    simp only [mAft, Option.toList_some, List.cons_append, List.nil_append]
    rw [e180_4]
    try rfl
  · intro i p hi hp
    by_cases e : i = np
    · rw [e, vu_at] at hp
      cases hp
      rw [e]
      exact ⟨oc, px, py, fx, fy, ⟨(cellK po (by omega) (by omega) (fun z => by rw [z] at o1; omega)).trans Pl.1, (cellK px (by omega) (by omega) (fun z => by rw [z] at o2; omega)).trans Pl.2.1, (cellK py (by omega) (by omega) (fun z => by rw [z] at o3; omega)).trans Pl.2.2.1, Pl.2.2.2⟩, oldO po (by omega) o1, oldO px (by omega) o2, oldO py (by omega) o3, ne⟩
    · rw [vu_ne e] at hp
      exact (pg i p hi hp).imp fun c z => kpl_keep z (F (20 + i) (by omega) (by omega) (by omega))
  · intro i hi
    by_cases e : i = np
    · rw [e, vu_at]; simp
    · rw [vu_ne e]
      show fpg i = none ↔ (if i = np then false else gone i) = true
      rw [if_neg e]
      exact g1 i (by omega)
  · intro i hi
    rw [vu_ne (by omega)]
    exact g2 i (by omega)
  · obtain ⟨u1, u2, u3⟩ := bu
    refine ⟨?_, ?_, u3⟩
    · rw [hzN]
      generalize 256 * 2 ^ et = a at *
      generalize 256 * 2 ^ er = b at *
      omega
    · rw [K2.1, lN, l1]
      omega
theorem sh_polygonNot (H : SH oc np fr be cu mg st ar fa sl isr rq rT gone pl s cov fcl fop fg fz fe h) (hn : ¬ (3 ≤ oc ∧ np < 8)) : mW (mRo L xs) mTab 180 0 [some (.ref 8), none] [] h k = some (.inl (some (.int (-1000003))), h, k + 1) := by
  obtain ⟨ow, et, er, nsq, lg, po, fpg, fpl, es, S, ⟨q1, T1, tr⟩, ⟨q2, T2, re⟩, rc, pa, ou, fl, pr, qu, w9, ⟨s2, w10⟩, ob, rr, lw, pg, pp, cf, cm, sp, bd, g1, g2, ppi, rp, bu⟩ := H
  obtain ⟨px, py, fx, fy, Pl, o1, o2, o3, ne⟩ := ou
  rw [e180_0, e180_1 (kR_eq ob.1) (by simp [Value.category]), e56_0, e56_1, kF_eq ob.1 (v := .ref po) rfl, e56_4 (kR_eq Pl.1) (by simp [Value.category]), c_plCount Pl]
  simp only [mAft, Option.toList_some, List.cons_append, List.nil_append]
  rw [e56_7, e56_8]
  by_cases h3 : 3 ≤ oc
  · rw [if_pos (show (3 : Int32) ≤ Int32.ofNat oc from le_lit (i := 3) h3 (by omega)), e56_21, e56_22, kF_eq ob.1 (v := .ref 12) rfl, e56_25 (kR_eq fl.1.1) (by simp [Value.category]), e20_0, e20_1, kF_eq fl.1.1 (v := .int (Int32.ofNat np)) rfl, e20_4]
    simp only [mAft, Option.toList_some, List.cons_append, List.nil_append]
    rw [e56_28, e56_30, if_neg (show ¬ Int32.ofNat np < 8 from nlt_lit (n := 8) (by omega) (by omega)), e56_33 (by simp [Value.category])]
    simp only [mAft, show mCatch (mHd mM_180) 1 1 = some (6, 1) from rfl]
    dsimp only [List.set]
    rw [e180_6, e180_8]
  · rw [if_neg (show ¬ (3 : Int32) ≤ Int32.ofNat oc from nle_lit (i := 3) (by omega) (by decide)), e56_11 (by simp [Value.category])]
    simp only [mAft, show mCatch (mHd mM_180) 1 1 = some (6, 1) from rfl]
    dsimp only [List.set]
    rw [e180_6, e180_8]
theorem sh_takeOut (H : SH oc np fr be cu mg st ar fa sl isr rq rT gone pl s cov fcl fop fg fz fe h) {i : Nat} (hi : np ≤ i) (hi2 : i < 1000) : mW (mRo L xs) mTab 187 0 [some (.ref 8), some (.int (Int32.ofNat i)), none] [] h k = some (.inl (some (.int (-1000001))), h, k + 1) := by
  obtain ⟨ow, et, er, nsq, lg, po, fpg, fpl, es, S, ⟨q1, T1, tr⟩, ⟨q2, T2, re⟩, rc, pa, ou, fl, pr, qu, w9, ⟨s2, w10⟩, ob, rr, lw, pg, pp, cf, cm, sp, bd, g1, g2, ppi, rp, bu⟩ := H
  have sub : Int32.ofNat np - 1 = Int32.ofNat np + (-1) := Int32.sub_eq_add_neg _ _
  have nl : ¬ Int32.ofNat i ≤ Int32.ofNat np - 1 := by
    rw [sub]
    cases np with
    | zero =>
      intro z
      rw [Int32.le_iff_toInt_le, oi_int (by omega)] at z
      have e : (Int32.ofNat 0 + (-1) : Int32).toInt = -1 := rfl
      omega
    | succ n => rw [oi_pred]; exact nle_lit (by omega) (by omega)
  rw [e187_0, e187_1, e187_2 (kR_eq ob.1) (by simp [Value.category]), e67_0, e67_1, e67_2, e67_3, kF_eq ob.1 (v := .ref 12) rfl, e67_6 (kR_eq fl.1.1) (by simp [Value.category]), e20_0, e20_1, kF_eq fl.1.1 (v := .int (Int32.ofNat np)) rfl, e20_4]
  simp only [mAft, Option.toList_some, List.cons_append, List.nil_append]
  rw [e67_9, e67_10, e67_11 (by simp [Value.category]), isOut1 (lo := 0) (nlt_lit (n := 0) (Nat.zero_le _) (by omega)) nl]
  simp only [mAft, Option.toList_some, List.cons_append, List.nil_append]
  rw [e67_14, if_neg (by decide), e67_17 (by simp [Value.category])]
  simp only [mAft, show mCatch (mHd mM_187) 2 2 = some (7, 2) from rfl]
  dsimp only [List.set]
  rw [e187_7, e187_9]
theorem sh_takeAway (H : SH oc np fr be cu mg st ar fa sl isr rq rT gone pl s cov fcl fop fg fz fe h) {i : Nat} (hi : i < np) : if gone i = true then mW (mRo L xs) mTab 187 0 [some (.ref 8), some (.int (Int32.ofNat i)), none] [] h k = some (.inl (some (.int (-1000003))), h, k + 1) else
    ∃ h' cov' fcl' fop' b, mW (mRo L xs) mTab 187 0 [some (.ref 8), some (.int (Int32.ofNat i)), none] [] h k = some (.inl (some (.int (Int32.ofNat b))), h', k) ∧ b ≤ 256 ∧ SH oc np fr be cu mg st ar fa sl isr rq rT (fun j => if j = i then true else gone j) pl s cov' fcl' fop' fg fz fe h' := by
  obtain ⟨ow, et, er, nsq, lg, po, fpg, fpl, es, S, ⟨q1, T1, tr⟩, ⟨q2, T2, re⟩, rc, pa, ou, fl, pr, qu, w9, ⟨s2, w10⟩, ob, rr, lw, pg, pp, cf, cm, sp, bd, g1, g2, ppi, rp, bu⟩ := H
  have hi8 : i < 8 := by have := bd.2.1; omega
  have nl : Int32.ofNat i ≤ Int32.ofNat np - 1 := by
    rw [Int32.sub_eq_add_neg]
    cases np with
    | zero => omega
    | succ n => rw [oi_pred]; exact le_lit (by omega) (by have := bd.2.1; omega)
  have ig := c_isGone (L := L) (xs := xs) (k := k) hi8 fl.1
  have go : mW (mRo L xs) mTab 187 0 [some (.ref 8), some (.int (Int32.ofNat i)), none] [] h k = mAft (mW (mRo L xs) mTab) (mHd mM_187) 187 2 [some (.ref 8), some (.int (Int32.ofNat i)), none] [] (if (if fpg i = none then (1 : Int32) else 0) = 0 then mW (mRo L xs) mTab 67 48 [some (.ref 8), some (.int (Int32.ofNat i))] [] h k else mW (mRo L xs) mTab 67 38 [some (.ref 8), some (.int (Int32.ofNat i))] [] h k) := by
    rw [e187_0, e187_1, e187_2 (kR_eq ob.1) (by simp [Value.category]), e67_0, e67_1, e67_2, e67_3, kF_eq ob.1 (v := .ref 12) rfl, e67_6 (kR_eq fl.1.1) (by simp [Value.category]), e20_0, e20_1, kF_eq fl.1.1 (v := .int (Int32.ofNat np)) rfl, e20_4]
    simp only [mAft, Option.toList_some, List.cons_append, List.nil_append]
    rw [e67_9, e67_10, e67_11 (by simp [Value.category]), isOut0 (lo := 0) (nlt_lit (n := 0) (Nat.zero_le _) (by omega)) nl]
    simp only [mAft, Option.toList_some, List.cons_append, List.nil_append]
    rw [e67_14, if_pos rfl, e67_27, e67_28, kF_eq ob.1 (v := .ref 12) rfl, e67_31, e67_32 (kR_eq fl.1.1) (by simp [Value.category]), ig]
    simp only [mAft, Option.toList_some, List.cons_append, List.nil_append]
    rw [e67_35]
  by_cases g : gone i = true
  · rw [if_pos g, go, if_pos ((g1 i hi).mpr g), if_neg (by decide), e67_38 (by simp [Value.category])]
    simp only [mAft, show mCatch (mHd mM_187) 2 1 = some (11, 2) from rfl]
    dsimp only [List.set]
    rw [e187_11, e187_13]
  · rw [if_neg g]
    have nn : fpg i ≠ none := fun z => g ((g1 i hi).mp z)
    cases hf : fpg i with
    | none => exact absurd hf nn
    | some p =>
      obtain ⟨c, px, py, fx, fy, Pl, o1, o2, o3, ne⟩ := pg i p hi8 hf
      obtain ⟨h', cov', fcl', fop', b, A1, A2, A3, A4, K⟩ := c_removePoly (L := L) (xs := xs) (k := k) cf.2 hi8 hf fl.1 Pl
      have F := fr_of (ow := ow) (n0 := 6) K (fun a z => fld_ow fl z)
      refine ⟨h', cov', fcl', fop', b, ?_, A2, ⟨ow, et, er, nsq, lg, po, (va_up fpg i none), fpl, es, sta_keep S (F 0 (by decide)), ⟨q1, T1, krt_keep tr (F 1 (by decide))⟩, ⟨q2, T2, krt_keep re (F 2 (by decide))⟩, rec_keep rc (F 3 (by decide)), pac_keep pa (F 4 (by decide)), kpl_keep ou (F 5 (by decide)), ⟨A3, fl.2⟩, one_keep pr (F 7 (by decide)), que_keep qu (F 8 (by decide)), ⟨one_keep w9.1 (F 9 (by decide)), w9.2⟩, ⟨s2, one_keep w10.1 (F 10 (by decide)), w10.2⟩, one_keep ob (F 11 (by decide)), one_keep rr (F 12 (by decide)), law_keep lw (F 13 (by decide)), ?_, (fun i hi => plan_keep (pp i hi) (F (40 + i) (by omega))), ⟨A4, cf.2⟩, cm, sp, bd, ?_, ?_, ppi, rp, bud_keep bu K⟩⟩
      · rw [go, if_neg nn, if_pos rfl, e67_48, e67_49, kF_eq ob.1 (v := .ref 12) rfl, e67_52, e67_53 (kR_eq fl.1.1) (by simp [Value.category]), A1]
        simp only [mAft, Option.toList_some, List.cons_append, List.nil_append]
        rw [e67_56]
        simp only [mAft, Option.toList_some, List.cons_append, List.nil_append]
        rw [e187_5]
      · intro j p' hj hp
        by_cases e : j = i
        · rw [e, vu_at] at hp; cases hp
        · rw [vu_ne e] at hp
          exact (pg j p' hj hp).imp fun c z => kpl_keep z (F (20 + j) (by omega))
      · intro j hj
        by_cases e : j = i
        · rw [e, vu_at]; simp
        · rw [vu_ne e]
          show fpg j = none ↔ (if j = i then true else gone j) = true
          rw [if_neg e]
          exact g1 j hj
      · intro j hj
        by_cases e : j = i
        · rw [e, vu_at]
        · rw [vu_ne e]; exact g2 j hj
end
