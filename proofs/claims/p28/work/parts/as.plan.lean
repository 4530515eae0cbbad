section
variable {L : Nat} {xs : Nat → Int32} {k : Nat} {h : List mCel} {ow : Nat → Nat}
theorem sta_ow {a1 a2 a3 : Nat} {a4 : Nat → Option Nat} {a5 a6 a7 : Nat → Int32} {c : mCel} (S : KSta ow h) (fl : KFld a1 a2 a3 a4 a5 a6 a7 ow h) (pr : KOne 7 17 c ow h) (qu : KQue ow h) {rt pa ma : Nat} (h1 : ow rt = 1) (h2 : ow pa = 1) (h3 : ow ma = 1) : Dj [rt, pa, ma] (wCs adQ 18 12 17 16 15) := by
  intro a ha b hb e
  have ha' : ow a = 1 := by
    rcases List.mem_cons.1 ha with z | z
    · rw [z]; exact h1
    · rcases List.mem_cons.1 z with z | z
      · rw [z]; exact h2
      · rw [List.mem_singleton.1 z]; exact h3
  have hb' : ow b ≠ 1 := by
    simp only [wCs, List.mem_cons, List.not_mem_nil, or_false] at hb
    rcases hb with z | z | z | z | z | z | z | z | z | z <;> rw [z]
    · rw [S.2.2.2.2.2.2.1]; decide
    · rw [fl.2.1]; decide
    · rw [pr.2]; decide
    · rw [fl.2.2.2.2.2]; decide
    · rw [fl.2.2.2.2.1]; decide
    · rw [show adQ 0 = 20 from rfl, qu.2.2.1]; decide
    · rw [show adQ 1 = 21 from rfl, qu.2.2.2.1]; decide
    · rw [show adQ 2 = 22 from rfl, qu.2.2.2.2.1]; decide
    · rw [show adQ 3 = 23 from rfl, qu.2.2.2.2.2]; decide
    · rw [show adQ 4 = 19 from rfl, qu.2.1]; decide
  exact hb' (by rw [← e]; exact ha')
theorem dec_p (m : Nat) : qDec 1 (m + 1) = Int32.ofNat m := (if_neg (by decide)).trans (oi_pred m)
theorem pow_5 {e : Nat} (h : 64 * 2 ^ (e - 1) ≤ 2047) : e ≤ 5 := by
  refine Classical.byContradiction fun z => ?_
  have := Nat.pow_le_pow_right (show 0 < 2 by decide) (show 5 ≤ e - 1 by omega)
  omega
theorem nCus_0 : ∀ (T : List (Nat × Nat)) (l : Option Nat), (∀ a, l = some a → a < 3) → (∀ x ∈ T, x.1 < 3) → nCus l T = 0
  | [], _, _, _ => rfl
  | x :: T, l, hl, hT => by
    have hx : x.1 < 3 := hT x List.mem_cons_self
    have ih := nCus_0 T (some x.1) (fun a z => by cases z; exact hx) (fun y hy => hT y (List.mem_cons_of_mem _ hy))
    have e : tcN 1 l (some x.1) = 0 := by
      cases l with
      | none => rfl
      | some a =>
        have ha := hl a rfl
        show (if decide (a < 3) = decide (x.1 < 3) then 0 else 1) = 0
        rw [decide_eq_true ha, decide_eq_true hx, if_pos rfl]
    unfold nCus
    rw [e, if_pos rfl, ih]

variable {oc np fr be cu mg st ar fa sl isr rq : Nat} {rT : List (Nat × Nat)} {gone : Nat → Bool} {pl : List (Nat × List (Nat × Nat))} {s : wS} {cov fcl fop fg fz fe : Nat → Int32}

theorem sh_plan (H : SH oc np fr be cu mg st ar fa sl isr rq rT gone pl s cov fcl fop fg fz fe h) {cN : Nat → Nat} (C : clOk cov fcl cN) {p q rv : Nat} (hrv : rv < 2) (hp : p < 2048) (hq : q < 2048) {r : Nat} (hr : Cst fop (wtG mg cN) cu rv p q r) : if r = 0 ∨ pl.length = 12 then ∃ h', mW (mRo L xs) mTab 177 0 [some (.ref 8), some (.int (Int32.ofNat (p % 16))), some (.int (Int32.ofNat (p / 16 % 16))), some (.int (Int32.ofNat (p / 256))), some (.int (Int32.ofNat (q % 16))), some (.int (Int32.ofNat (q / 16 % 16))), some (.int (Int32.ofNat (q / 256))), some (.int (Int32.ofNat rv)), none] [] h k = some (.inl (some (.int (-1000003))), h', k + 1) ∧ SH oc np fr be cu mg st ar fa sl isr rq rT gone pl s cov fcl fop fg fz fe h' else
    ∃ h' T, mW (mRo L xs) mTab 177 0 [some (.ref 8), some (.int (Int32.ofNat (p % 16))), some (.int (Int32.ofNat (p / 16 % 16))), some (.int (Int32.ofNat (p / 256))), some (.int (Int32.ofNat (q % 16))), some (.int (Int32.ofNat (q / 16 % 16))), some (.int (Int32.ofNat (q / 256))), some (.int (Int32.ofNat rv)), none] [] h k = some (.inl (some (.int (Int32.ofNat pl.length))), h', k) ∧ SH oc np fr be cu mg st ar fa sl isr rq rT gone (pl ++ [(p, T)]) s cov fcl fop fg fz fe h' ∧ PI p T ∧ Sho.fin p T = q ∧ Sho.Val (drE (eG (oF fop))) p T ∧ mvW (wtG mg cN) (tcN cu) none p T = r - 1 ∧ (∀ x ∈ T, x.1 < 3 + 3 * rv) ∧ (p = q ∨ (oF fop p = true ∧ oF fop q = true)) ∧ (p = q → r = 1) := by
  have H0 := H
  obtain ⟨ow, et, er, nsq, lg, po, fpg, fpl, es, S, ⟨q1, T1, tr⟩, ⟨q2, T2, re⟩, rc, pa, ou, fl, pr, qu, w9, ⟨s2, w10⟩, ob, rr, lw, pg, pp, cf, cm, sp, bd, g1, g2, ppi, rp, bu⟩ := H
  have r1 := c_reqPose (L := L) (xs := xs) (k := k) (h := h) hp
  have r2 := c_reqPose (L := L) (xs := xs) (k := k) (h := h) hq
  have rm := c_room (L := L) (xs := xs) (k := k) ob.1 bd.2.2.1
  have go : mW (mRo L xs) mTab 177 0 [some (.ref 8), some (.int (Int32.ofNat (p % 16))), some (.int (Int32.ofNat (p / 16 % 16))), some (.int (Int32.ofNat (p / 256))), some (.int (Int32.ofNat (q % 16))), some (.int (Int32.ofNat (q / 16 % 16))), some (.int (Int32.ofNat (q / 256))), some (.int (Int32.ofNat rv)), none] [] h k = mAft (mW (mRo L xs) mTab) (mHd mM_177) 177 12 [some (.ref 8), some (.int (Int32.ofNat (p % 16))), some (.int (Int32.ofNat (p / 16 % 16))), some (.int (Int32.ofNat (p / 256))), some (.int (Int32.ofNat (q % 16))), some (.int (Int32.ofNat (q / 16 % 16))), some (.int (Int32.ofNat (q / 256))), some (.int (Int32.ofNat rv)), none] [] (mAft (mW (mRo L xs) mTab) (mHd mM_54) 54 20 [some (.ref 8), some (.int (Int32.ofNat (p % 16))), some (.int (Int32.ofNat (p / 16 % 16))), some (.int (Int32.ofNat (p / 256))), some (.int (Int32.ofNat (q % 16))), some (.int (Int32.ofNat (q / 16 % 16))), some (.int (Int32.ofNat (q / 256))), some (.int (Int32.ofNat rv)), some (.int (Int32.ofNat p)), some (.int (Int32.ofNat q))] [] (mW (mRo L xs) mTab 62 0 [some (.ref 8)] [] h k)) := by
    rw [e177_0, e177_1, e177_2, e177_3, e177_4, e177_6, e177_8, e177_10, e177_12 (kR_eq ob.1) (by simp [Value.category]), e54_0, e54_1, e54_2, e54_3 (by simp [Value.category]), r1]
    simp only [mAft, Option.toList_some, List.cons_append, List.nil_append]
    rw [e54_6, e54_8, e54_10, e54_12, e54_14 (by simp [Value.category]), r2]
    simp only [mAft, Option.toList_some, List.cons_append, List.nil_append]
    rw [e54_17, e54_19, e54_20 (kR_eq ob.1) (by simp [Value.category])]
    rfl
  by_cases hl : pl.length = 12
  · rw [if_pos (Or.inr hl)]
    refine ⟨h, ?_, H0⟩
    rw [go, rm, if_neg (by omega)]
    simp only [mAft, show mHd mM_54 = [] from rfl, cat_nil, show mCatch (mHd mM_177) 12 1 = some (23, 8) from rfl]
    dsimp only [List.set]
    rw [e177_23, e177_25]
  have l12 : pl.length < 12 := by have := bd.2.2.1; omega
  obtain ⟨⟨N, Q, o⟩, o19⟩ := id qu
  obtain ⟨h1, r', A1, K, ⟨N', Q', o', hN⟩, B0, B1⟩ := c_searched (L := L) (xs := xs) (k := k) (geoE_F fop) (geoW_F cm.2 C) cm.1 hrv (fe := 1) (by decide) (p := q) (gl := p) hq hp Q (w_H S fl pr) o
  have F := fr_of (ow := ow) (n0 := 8) K (fun a z => que_ow qu z)
  rw [op_2 hp hq] at B0 B1
  have er' : r' = r := cst_one ⟨B0, B1⟩ hr
  subst er'
  have S1 := sta_keep S (F 0 (by decide))
  have ob1 := one_keep ob (F 11 (by decide))
  have go2 : mW (mRo L xs) mTab 177 0 [some (.ref 8), some (.int (Int32.ofNat (p % 16))), some (.int (Int32.ofNat (p / 16 % 16))), some (.int (Int32.ofNat (p / 256))), some (.int (Int32.ofNat (q % 16))), some (.int (Int32.ofNat (q / 16 % 16))), some (.int (Int32.ofNat (q / 256))), some (.int (Int32.ofNat rv)), none] [] h k = mAft (mW (mRo L xs) mTab) (mHd mM_177) 177 12 [some (.ref 8), some (.int (Int32.ofNat (p % 16))), some (.int (Int32.ofNat (p / 16 % 16))), some (.int (Int32.ofNat (p / 256))), some (.int (Int32.ofNat (q % 16))), some (.int (Int32.ofNat (q / 16 % 16))), some (.int (Int32.ofNat (q / 256))), some (.int (Int32.ofNat rv)), none] [] (mW (mRo L xs) mTab 54 37 [some (.ref 8), some (.int (Int32.ofNat (p % 16))), some (.int (Int32.ofNat (p / 16 % 16))), some (.int (Int32.ofNat (p / 256))), some (.int (Int32.ofNat (q % 16))), some (.int (Int32.ofNat (q / 16 % 16))), some (.int (Int32.ofNat (q / 256))), some (.int (Int32.ofNat rv)), some (.int (Int32.ofNat p)), some (.int (Int32.ofNat q))] [.int (-1), .int (qDec 1 r')] h1 k) := by
    rw [go, rm, if_pos l12]
    conv => lhs; arg 7; unfold mAft
    dsimp only [Option.toList_none, List.nil_append]
    rw [e54_23, e54_24, kF_eq ob.1 (v := .ref 18) rfl, e54_27, e54_29, e54_31, e54_33 (kR_eq S.2.1) (by simp [Value.category]), e146_0, e146_1, e146_2, e146_3, e146_4, e146_5 (kR_eq S.2.1) (by simp [Value.category])]
    rw [show (some (Value.int 1)) = some (Value.int (Int32.ofNat 1)) from rfl, A1]
    simp only [mAft, Option.toList_some, List.cons_append, List.nil_append]
    rw [e146_8]
    simp only [mAft, Option.toList_some, List.cons_append, List.nil_append]
    rw [e54_36]
  cases r' with
  | zero =>
    rw [if_pos (Or.inl rfl)]
    refine ⟨h1, ?_, ⟨ow, et, er, nsq, lg, po, fpg, fpl, es, S1, ⟨q1, T1, krt_keep tr (F 1 (by decide))⟩, ⟨q2, T2, krt_keep re (F 2 (by decide))⟩, rec_keep rc (F 3 (by decide)), pac_keep pa (F 4 (by decide)), kpl_keep ou (F 5 (by decide)), fld_keep fl (F 6 (by decide)), one_keep pr (F 7 (by decide)), ⟨⟨N', Q', o'⟩, o19⟩, ⟨one_keep w9.1 (F 9 (by decide)), w9.2⟩, ⟨s2, one_keep w10.1 (F 10 (by decide)), w10.2⟩, ob1, one_keep rr (F 12 (by decide)), law_keep lw (F 13 (by decide)), (fun i p hi hp => (pg i p hi hp).imp fun c z => kpl_keep z (F (20 + i) (by omega))), (fun i hi => plan_keep (pp i hi) (F (40 + i) (by omega))), cf, cm, sp, bd, g1, g2, ppi, rp, bud_keep bu K⟩⟩
    rw [go2, e54_37, if_neg (fun z => z rfl), e54_40 (by simp [Value.category])]
    simp only [mAft, show mCatch (mHd mM_177) 12 1 = some (23, 8) from rfl]
    dsimp only [List.set]
    rw [e177_23, e177_25]
  | succ m =>
    rw [if_neg (by omega)]
    have cond : q = p ∨ (oF fop q = true ∧ oF fop p = true) := by
      refine Classical.byContradiction fun z => ?_
      have := B0 ⟨fun y => z (Or.inl y), fun y => z (Or.inr y)⟩
      omega
    have G := B1 cond
    have hm : m < 1000000 := by have := (G.2 m rfl).1; omega
    obtain ⟨hs, LB⟩ := hN m rfl
    obtain ⟨pa1, ma1, R1, t1, t2, t3⟩ := krt_keep tr (F 1 (by decide))
    have fl1 := fld_keep fl (F 6 (by decide))
    have pr1 := one_keep pr (F 7 (by decide))
    have qu1 : KQue ow h1 := ⟨⟨N', Q', o'⟩, o19⟩
    obtain ⟨h2, pa2, ma2, e2, T, D1, D2, D3, D4, D5, D6, D7, D8, D9, D10, D11⟩ := c_trace (L := L) (xs := xs) (k := k) (geoE_F fop) (geoW_F cm.2 C) geo_L geo_S cm.1 hrv hp hq hm (wt_10 mg cN) G hs LB o' (show f18[3]? = some (.ref 24) from rfl) R1 Q' (w_H S1 fl1 pr1) (sta_ow S1 fl1 pr1 qu1 t1 t2 t3)
    obtain ⟨I1, I2, I3, I4, I5⟩ := pi_trace (oF_lt fop) geo_L geo_S hrv hp hq (by omega) (wt_10 mg cN) G LB D3 D4
    let ow2 := fun a => if a < 8 + h1.length then ow a else 1
    have old : ∀ a n, a < 8 + h1.length → ow a = n → ow2 a = n := fun a n ha ho => by
      show (if a < 8 + h1.length then ow a else 1) = n
      rw [if_pos ha, ho]
    have new : ∀ a, 8 + h1.length ≤ a → ow2 a = 1 := fun a ha => by
      show (if a < 8 + h1.length then ow a else 1) = 1
      rw [if_neg (by omega)]
    have cl := rt_cells R1
    have F2 : ∀ n, n ≠ 1 → n ≠ 8 → FrN n ow ow2 h h2 := fun n hn h8 a ha ho => by
      have f1 := F n h8 a ha ho
      have ha1 : a < 8 + h1.length := by rw [K.1]; exact ha
      refine ⟨old a n ha1 ho, (D8.2 a ha1 fun z => hn ?_).trans f1.2⟩
      rcases z with z | z | z <;> rw [← ho, z] <;> assumption
    have F28 : FrN 8 ow ow2 h1 h2 := fun a ha ho => ⟨old a 8 ha ho, D8.2 a ha fun z => by rcases z with z | z | z <;> rw [z] at ho <;> omega⟩
    have tr2 : KRt 1 24 e2 p T ow2 h2 := ⟨pa2, ma2, D2, old 24 1 cl.1.2 t1, by rcases D9 with z | z; (· rw [z]; exact old _ 1 cl.2.1.2 t2); exact new _ z, by rcases D10 with z | z; (· rw [z]; exact old _ 1 cl.2.2.1.2 t3); exact new _ z⟩
    have bu2 : Bud e2 er nsq lg np es pl.length h2 := by
      obtain ⟨u1, u2, u3, u4, u5, u6, u7⟩ := bud_keep bu K
      refine ⟨?_, by omega, u3, u4, ?_, u6, u7⟩
      · generalize 256 * 2 ^ et = a at *
        generalize 256 * 2 ^ er = b at *
        generalize 256 * 2 ^ e2 = c at *
        omega
      · rcases D11 with z | z
        · omega
        · exact pow_5 z
    have H2 : SH oc np fr be cu mg st ar fa sl isr rq rT gone pl s cov fcl fop fg fz fe h2 := ⟨ow2, e2, er, nsq, lg, po, fpg, fpl, es, sta_keep S (F2 0 (by decide) (by decide)), ⟨p, T, tr2⟩, ⟨q2, T2, krt_keep re (F2 2 (by decide) (by decide))⟩, rec_keep rc (F2 3 (by decide) (by decide)), pac_keep pa (F2 4 (by decide) (by decide)), kpl_keep ou (F2 5 (by decide) (by decide)), fld_keep fl (F2 6 (by decide) (by decide)), one_keep pr (F2 7 (by decide) (by decide)), que_keep qu1 F28, ⟨one_keep w9.1 (F2 9 (by decide) (by decide)), w9.2⟩, ⟨s2, one_keep w10.1 (F2 10 (by decide) (by decide)), w10.2⟩, one_keep ob (F2 11 (by decide) (by decide)), one_keep rr (F2 12 (by decide) (by decide)), law_keep lw (F2 13 (by decide) (by decide)), (fun i p hi hp => (pg i p hi hp).imp fun c z => kpl_keep z (F2 (20 + i) (by omega) (by omega))), (fun i hi => plan_keep (pp i hi) (F2 (40 + i) (by omega) (by omega))), cf, cm, sp, bd, g1, g2, ppi, rp, bu2⟩
    obtain ⟨h3, E1, E2⟩ := sh_add (L := L) (xs := xs) (k := k) H2 D2 l12 I1
    refine ⟨h3, T, ?_, E2, I1, D4, I2, I3, I4, cond.imp Eq.symm And.symm, fun z => ?_⟩
    · have nm : ¬ qDec 1 (m + 1) = -1 := fun z => by
        have := congrArg Int32.toInt z
        rw [dec_p, oi_int (by omega)] at this
        have h2 : (-1 : Int32).toInt = -1 := rfl
        omega
      rw [go2, e54_37, if_pos nm, e54_50, e54_51, e54_52, kF_eq ob1.1 (v := .ref 18) rfl, e54_55, e54_57, e54_59, e54_61 (kR_eq S1.2.1) (by simp [Value.category]), D1]
      simp only [mAft, Option.toList_some, List.cons_append, List.nil_append]
      rw [e54_64 (kR_eq (one_keep ob (F2 11 (by decide) (by decide))).1) (by simp [Value.category]), E1]
      simp only [mAft, Option.toList_some, List.cons_append, List.nil_append]
      rw [e54_67]
      simp only [mAft, Option.toList_some, List.cons_append, List.nil_append]
      rw [e177_15]
    · subst z
      have := (G.2 m rfl).2.2 0 p 0 (goal_iff.2 ⟨by omega, by omega⟩) ⟨(seed_mem (w := 0)).1 ?_ |>.1, rfl⟩
      · omega
      · exact seed_mem.2 ⟨by unfold seedS; exact decide_eq_true (by omega), rfl⟩

end
