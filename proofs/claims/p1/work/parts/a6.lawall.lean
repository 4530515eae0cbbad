section
variable {xs : Nat → Int32} {k : Nat} {h h1 h2 : List mCel} {fX fY fc fo fcl fcan : Nat → Int32}
theorem cy_13 {a1 a2 a3 a4 a5 a6 : Int32} {p q rv : Nat} (e1 : pNum a1 a2 a3 = Int32.ofNat p) (n1 : ¬ pNum a1 a2 a3 = -1) (e2 : pNum a4 a5 a6 = Int32.ofNat q) (n2 : ¬ pNum a4 a5 a6 = -1)
    (E : mW (mRo 8 xs) mTab 225 0 [some (.ref 18), some (.int (Int32.ofNat q)), some (.int (Int32.ofNat p)), some (.int (Int32.ofNat rv)), some (.int (Int32.ofNat 1)), none, none, none, none] [] (hL fX fY fc fo fcl fcan) 0 = some (.inl (some (.int (qDec 1 0))), h1, 0)) :
    mW (mRo 8 xs) mTab 54 0 [some (.ref 8), some (.int a1), some (.int a2), some (.int a3), some (.int a4), some (.int a5), some (.int a6), some (.int (Int32.ofNat rv)), none, none] [] (hL fX fY fc fo fcl fcan) 0 = some (.inr 1, h1, 1) := by
  rw [e54_0, e54_1, e54_2, e54_3 (by simp), c_reqPose, if_neg n1, e1]
  simp only [mAft, Option.toList_some, List.cons_append, List.nil_append]
  rw [e54_6, e54_8, e54_10, e54_12, e54_14 (by simp), c_reqPose, if_neg n2, e2]
  simp only [mAft, Option.toList_some, List.cons_append, List.nil_append]
  rw [e54_17, e54_19, e54_20 (kR_eq x8) (by simp), c_room]
  simp only [mAft, Option.toList_none, List.nil_append]
  rw [e54_23, e54_24, kF_eq x8 (v := .ref 18) rfl, e54_27, e54_29, e54_31, e54_33 (kR_eq x18) (by simp), c_fromEnd E]
  simp only [mAft, Option.toList_some, List.cons_append, List.nil_append]
  rw [e54_36, e54_37, enc_zero, if_neg (not_not_intro rfl), e54_40 (by simp)]
/-- the reference's plan, refused: what it throws -/
theorem dn_no {a1 a2 a3 a4 a5 a6 : Int32} {p q rv r : Nat} {A : Prop} [Decidable A] (hrv : rv < 2) (hA : A ↔ ((((0 ≤ a1 ∧ a1 ≤ 15) ∧ 0 ≤ a2 ∧ a2 ≤ 15) ∧ 0 ≤ a3 ∧ a3 ≤ 7) ∧ (((0 ≤ a4 ∧ a4 ≤ 15) ∧ 0 ≤ a5 ∧ a5 ≤ 15) ∧ 0 ≤ a6 ∧ a6 ≤ 7)))
    (e1 : A → 256 * a3 + 16 * a2 + a1 = Int32.ofNat p) (e2 : A → 256 * a6 + 16 * a5 + a4 = Int32.ofNat q) (z1 : ¬ A → p = 0 ∧ q = 0) (M : mCell h 42 = some (.inr (11, mFS 42))) (hr : r ≤ 1000001) (hn : ¬ (A ∧ r ≠ 0)) {M' : Nat → Nat → Nat}
    (E : mW (mRo 8 xs) mTab 142 0 [some (.ref 42), some (.int (Int32.ofNat p)), some (.int (Int32.ofNat q)), some (.int (Int32.ofNat (3 + 3 * rv))), none] [] h k = some (.inl (some (.int (qDec 1 r))), h2, k)) (K : mKeep (rAd rad) h h2) (Q : rH rad ((mFS 42).set 45 (.int 0)) M' h2) :
    ∃ h3 fs, mW (mRo 8 xs) mTab 121 0 [some (.ref 42), some (.int a1), some (.int a2), some (.int a3), some (.int a4), some (.int a5), some (.int a6), some (.int (Int32.ofNat rv)), none, none, none, none] [] h k = some (.inl (some (.int 0)), h3, k) ∧ mKeep Pm h h3 ∧ mCell h3 42 = some (.inr (11, fs)) ∧ fs[45]? = some (.int (qT A (r ≠ 0) True)) := by
  have M2 : mCell h2 42 = some (.inr (11, rFs ((mFS 42).set 45 (.int 0)) M')) := Q.2.1
  have ln := r_len Q
  refine ⟨_, _, ?_, keep_trans (keep_mono K (fun x hx => rad_Pm hx)) (g_keep (v := qT A (r ≠ 0) True) M2), cell_set M2, List.getElem?_set_self (by rw [ln]; decide)⟩
  rw [pl_pre hrv hA e1 e2 z1 M hr E]
  exact pl_no hn M2 ln
theorem fin_13 (hf : ∀ j, j < 2048 → fo j = p1Fo j) (h16 : all16 fc) (h16' : all16 fcl) (hcan : p1Can fcan) : lawEnd xs 1126 (hL fX fY fc fo fcl fcan) := by
  have mf0 : mCell (hL fX fY fc fo fcl fcan) 42 = some (.inr (11, (mFS 42).set 45 (.int 0))) := x42
  -- a pose that is none
  have bad : ∀ rv, rv < 2 → (xs 7 = 0 → Int32.ofNat rv = 0) → (xs 7 ≠ 0 → Int32.ofNat rv = 1) → (pNum (xs 1) (xs 2) (xs 3) = -1 ∨ pNum (xs 4) (xs 5) (xs 6) = -1) → ¬ ((((0 ≤ xs 1 ∧ xs 1 ≤ 15) ∧ 0 ≤ xs 2 ∧ xs 2 ≤ 15) ∧ 0 ≤ xs 3 ∧ xs 3 ≤ 7) ∧ (((0 ≤ xs 4 ∧ xs 4 ≤ 15) ∧ 0 ≤ xs 5 ∧ xs 5 ≤ 15) ∧ 0 ≤ xs 6 ∧ xs 6 ≤ 7)) → lawEnd xs 1126 (hL fX fY fc fo fcl fcan) := by
    intro rv hrv hz0 hz1 hn hA
    obtain ⟨h2, r, D1, D2, ⟨M', D3, D4, D5⟩, D6⟩ := d_search (xs := xs) (k := 1) (p := 0) (q := 0) (rv := rv) hcan h16' hrv (by decide) (by decide) mf0 x50 x51 x52 x53 x54
    have hr : r ≤ 1000001 := by
      cases r with
      | zero => omega
      | succ m =>
        have := (D6.2 m rfl).2 0 0 0 (goal_iff.2 ⟨by decide, by decide⟩) ⟨seed_iff.2 (Or.inl rfl), rfl⟩
        omega
    obtain ⟨h3, fs, F1, F2, F3, F4⟩ := dn_no (xs := xs) (k := 1) (A := False) hrv (by constructor <;> intro z; exact z.elim; exact hA z) (fun z => z.elim) (fun z => z.elim) (fun _ => ⟨rfl, rfl⟩) x42 hr (fun z => z.1) D1 D2 D3
    obtain ⟨l7, E⟩ := lc_13 hz0 hz1 (hx_244_2 (kR_eq x8) (cx_13 hn)) x42 F1 F3 F4 (fun z => absurd z (by decide))
    exact end_of E F2.1 F2.2.1 (by decide)
  have two : ∀ P : Prop, (∀ rv, rv < 2 → (xs 7 = 0 → Int32.ofNat rv = 0) → (xs 7 ≠ 0 → Int32.ofNat rv = 1) → P) → P := by
    intro P hP
    by_cases w : xs 7 = 0
    · exact hP 0 (by decide) (fun _ => rfl) (fun u => absurd w u)
    · exact hP 1 (by decide) (fun u => absurd u w) (fun _ => rfl)
  refine two _ (fun rv hrv hz0 hz1 => ?_)
  rcases pose_cases (xs 1) (xs 2) (xs 3) with ⟨z, p, hp, e1, n1, _, _, _, f1⟩ | ⟨z, n1⟩
  · rcases pose_cases (xs 4) (xs 5) (xs 6) with ⟨y, q, hq, e2, n2, _, _, _, f2⟩ | ⟨y, n2⟩
    · obtain ⟨h1, r1, C1, K, ⟨N', Q', o', at'⟩, C4, C5⟩ := c_searched (L := 8) (xs := xs) (k := 0) (e := eN) (wt := wtF) (rv := rv) (fe := 1) (geo_E hf) (geo_W h16) (show 20 ≤ 100 by decide) hrv (by decide) hq hp (q_fresh (fX := fX) (fY := fY) (fc := fc) (fo := fo) (fcl := fcl) (fcan := fcan)) w_fresh q_ok0
      have same : ∀ r2, rLeast (rAdj enN canN wtF 20 rv) (seedS q 1) (goalS p) r2 → r1 = r2 := by
        intro r2 D
        by_cases o : q = p ∨ (opN q = true ∧ opN p = true)
        · exact same_end geo_N geo_B geo_K geo_L geo_S hrv hq (C5 (o.imp id (fun w => ⟨(op_eq hf hq).2 w.1, (op_eq hf hp).2 w.2⟩))) D
        · rw [C4 ⟨fun w => o (Or.inl w), fun w => o (Or.inr ⟨(op_eq hf hq).1 w.1, (op_eq hf hp).1 w.2⟩)⟩, none_of hrv hq D ⟨fun w => o (Or.inl w.symm), fun w => o (Or.inr ⟨w.2, w.1⟩)⟩]
      cases r1 with
      | zero =>
        have T : ∀ {a c}, (a < 19 ∨ 24 ≤ a) → mCell (hL fX fY fc fo fcl fcan) a = some c → mCell h1 a = some c := fun ha hc => (K.2.2 _ (qad_n ha)).trans hc
        obtain ⟨h2, r, D1, D2, ⟨M', D3, D4, D5⟩, D6⟩ := d_search (xs := xs) (k := 1) (p := p) (q := q) (rv := rv) hcan h16' hrv hp hq (T (by decide) mf0) (T (by decide) x50) (T (by decide) x51) (T (by decide) x52) (T (by decide) x53) (T (by decide) x54)
        have er := same r D6
        subst er
        obtain ⟨h3, fs, F1, F2, F3, F4⟩ := dn_no (xs := xs) (k := 1) (A := True) hrv ⟨fun _ => ⟨z, y⟩, fun _ => trivial⟩ (fun _ => f1) (fun _ => f2) (fun w => absurd trivial w) (T (by decide) x42) (by omega) (fun w => w.2 rfl) D1 D2 D3
        obtain ⟨l7, E⟩ := lc_13 hz0 hz1 (hx_244_1 (kR_eq x8) (cy_13 e1 n1 e2 n2 C1)) (T (by decide) x42) F1 F3 F4 (fun z => absurd z (by decide))
        exact end_of E (F2.1.trans K.1) (F2.2.1.trans K.2.1) (by decide)
      | succ m =>
        -- a way there is
        have hm : m ≤ 600 := by
          obtain ⟨h2, r, D1, D2, D3, D6⟩ := d_search (xs := xs) (k := 0) (p := p) (q := q) (rv := rv) hcan h16' hrv hp hq mf0 (x50 (fX := fX) (fY := fY) (fc := fc) (fo := fo) (fcl := fcl) (fcan := fcan)) x51 x52 x53 x54
          rw [← same r D6] at D6
          exact cost_le hrv hp hq D6
        obtain ⟨g1, P1, P2, P3, P4⟩ := cn_13 (xs := xs) hf h16 hrv hp hq e1 n1 e2 n2 C1 hm K Q' o' (at' m rfl)
        have c62 : mCell g1 62 = some (.inl (3, 1, .inr (.inl (fun _ => 0)))) := (P4 62 (by decide) (by decide)).trans x62
        have KO : mKeep (fun x => x = 62) g1 (wOut g1 (0 : Int32).toInt64) := keep_set c62 rfl rfl
        have T : ∀ {a c}, 42 ≤ a → a < 62 → mCell (hL fX fY fc fo fcl fcan) a = some c → mCell (wOut g1 (0 : Int32).toInt64) a = some c := fun h1 h2 hc => (KO.2.2 _ (by omega)).trans ((P4 _ h1 (by omega)).trans hc)
        obtain ⟨h2, r, D1, D2, ⟨M', D3, D4, D5⟩, D6⟩ := d_search (xs := xs) (k := 0) (p := p) (q := q) (rv := rv) hcan h16' hrv hp hq (T (by decide) (by decide) mf0) (T (by decide) (by decide) x50) (T (by decide) (by decide) x51) (T (by decide) (by decide) x52) (T (by decide) (by decide) x53) (T (by decide) (by decide) x54)
        have er := same r D6
        subst er
        have U : ∀ {a c}, 42 ≤ a → a < 62 → (a < 42 ∨ 42 < a ∧ a < 52 ∨ 54 < a) → mCell (hL fX fY fc fo fcl fcan) a = some c → mCell h2 a = some c := fun h1 h2 h3 hc => (D2.2.2 _ (rad_n h3)).trans (T h1 h2 hc)
        obtain ⟨h3, fs, F1, F2, F3, F4⟩ := pl_yes (xs := xs) (k := 0) (a1 := xs 1) (a2 := xs 2) (a3 := xs 3) (a4 := xs 4) (a5 := xs 5) (a6 := xs 6) (A := True) trivial hcan h16' hrv hp hq D3 D4 D5 D6 hm (U (by decide) (by decide) (by decide) x50) (U (by decide) (by decide) (by decide) x51) (U (by decide) (by decide) (by decide) x55) (U (by decide) (by decide) (by decide) x56) (U (by decide) (by decide) (by decide) x57)
        have PRE := pl_pre (xs := xs) (k := 0) (A := True) hrv ⟨fun _ => ⟨z, y⟩, fun _ => trivial⟩ (fun _ => f1) (fun _ => f2) (fun w => absurd trivial w) (T (by decide) (by decide) x42) (by omega) D1
        have KM := keep_trans (keep_mono D2 (fun x hx => rad_Pm hx)) F2
        have o62 := (KM.2.2 62 (fun w => absurd w.2 (by decide))).trans (cell_set (d := .inl (3, 1, .inr (.inl (vp_updL (fun _ => 0) 0 (0 : Int32).toInt64)))) c62)
        obtain ⟨l7, E⟩ := lc_13 hz0 hz1 (hn_244 (kR_eq x8) P1 c62) (T (by decide) (by decide) x42) (PRE.trans F1) F3 F4 (fun _ q => kLA_out o62)
        have hz0' := hz_hL (fX := fX) (fY := fY) (fc := fc) (fo := fo) (fcl := fcl) (fcan := fcan)
        refine ⟨h3, 0, _, _, E, ?_, ?_, by decide⟩
        · rw [KM.1, KO.1, P2]; simp [hL]
        · rw [KM.2.1, KO.2.1, P3]; omega
    · exact bad rv hrv hz0 hz1 (Or.inr n2) (fun w => y w.2)
  · exact bad rv hrv hz0 hz1 (Or.inl n1) (fun w => z w.1)
/-- the law's whole run, on a script of at most 8 ints -/
theorem law_all {L : Nat} (hL8 : L ≤ 8) : ∃ h2 x1, mW (mRo L xs) mTab 240 0 [some (.ref 0), none, none, none, none, none, none, none] [] [] 0 = some (.inl (some (.int 1)), h2, x1) ∧ h2.length ≤ 100 ∧ hz h2 ≤ 200000 ∧ x1 ≤ 1 := by
  obtain ⟨fX, fY, fc, fo, fcl, fcan, S, ok, h16, hf, h16', hcan⟩ := law_start (L := L) (xs := xs)
  rw [S]
  by_cases h8 : L = 8
  · subst h8
    exact law_round (Or.inr (fin_13 hf h16 h16' hcan)) ok h16 hf h16' hcan
  · have A : ∀ {h : List mCel} {f : Int32 → Option mOut}, kAL (mRo L xs) h 0 f = f (Int32.ofNat L) := by intro h f; rfl
    have := hz_hL (fX := fX) (fY := fY) (fc := fc) (fo := fo) (fcl := fcl) (fcan := fcan)
    have neg : Int32.ofNat L - 8 < 0 := by
      rw [Int32.lt_iff_toInt_lt, Int32.toInt_sub, oi_int (by omega), show (8 : Int32).toInt = 8 from rfl, show (0 : Int32).toInt = 0 from rfl, bmod_small (by omega) (by omega)]; omega
    refine ⟨hL fX fY fc fo fcl fcan, 0, ?_, by simp [hL], by omega, by decide⟩
    rw [e240_28, e240_30, e240_31, A, e240_32, e240_34, e240_35, if_pos neg, e240_1986, e240_1987 (Or.inr rfl)]
end
