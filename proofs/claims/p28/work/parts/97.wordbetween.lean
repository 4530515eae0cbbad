section
variable {L : Nat} {xs : Nat → Int32} {k : Nat} {h : List mCel} {rt pa ma e0 q : Nat} {T : List (Nat × Nat)}
variable {P F cl op cu W rs sh ar : Nat} {mg : Int32} {fF : List Value} {fc fo : Nat → Int32} {wt : Nat → Nat → Nat → Nat} {e : Nat → Nat → Nat} {s : wS}
def drE (e : Nat → Nat → Nat) (q m : Nat) : Option Nat := if e q m = 0 then none else some (e q m - 1)
/-- the cells that a word's way is tried over -/
def swH (sh F P W rs cl op cu ar : Nat) (mg : Int32) (fF : List Value) (fc fo : Nat → Int32) (s : wS) (h : List mCel) : Prop :=
  mCell h sh = some (.inr (7, [.ref F, .ref P, .ref W, .ref rs])) ∧ pcH P F cl cu mg fF fc h ∧ fF[4]? = some (.ref op) ∧ mCell h op = some (.inl (1, 2048, .inl fo)) ∧ mCell h W = some (wC ar s)
theorem c_costOrNone {a : Nat} (H : mCell h a = some (wC ar s)) (hs : wIn s) : mW (mRo L xs) mTab 25 0 [some (.ref a)] [] h k = some (.inl (some (.int (if s.2.1 = 0 then -1 else Int32.ofNat s.1))), h, k) := by
  unfold wC at H
  rw [e25_0, e25_1, kF_eq H (v := .int (qDec 1 s.2.1)) rfl, e25_4, e25_5]
  by_cases h0 : s.2.1 = 0
  · rw [if_neg (fun z => z ((qd_eq hs.1).mpr h0)), e25_8, e25_9, e25_16, if_pos h0]
  · rw [if_pos (fun z => h0 ((qd_eq hs.1).mp z)), e25_12, e25_13, kF_eq H (v := .int (Int32.ofNat s.1)) rfl, e25_16, if_neg h0]
theorem wb_loop (H : swH sh F P W rs cl op cu ar mg fF fc fo s h) (HE : geoE fo e) (HW : geoW fc mg wt) (hcu : cu ≤ 100) (hs : wIn s) (hq : q < 2048) (R : RT rt pa ma e0 q T h) {E B : List (Nat × Nat)} (hT : T = E ++ B) (hB : ∀ x ∈ B, x.1 < 6 ∧ x.2 < 2048) {l2 : Option Value} :
    ∀ (ws : List Nat) (i c p : Nat) (l : Option Nat) (l8 l9 : Option Value), (wMv s).drop i = ws → p < 2048 → (∀ m, l = some m → m < 6) → i ≤ (wMv s).length →
    mW (mRo L xs) mTab 145 35 [some (.ref sh), some (.ref rt), l2, some (.int (Int32.ofNat E.length)), some (.int (Int32.ofNat c)), some (.int (Int32.ofNat p)), some (.int (oI l)), some (.int (Int32.ofNat i)), l8, l9] [] h k =
      some (.inl (some (.int (match Sho.fol (drE e) p ws with | none => -1 | some Q => Int32.ofNat (c + mvW wt (tcN cu) l p Q + tcN cu (Sho.lst l Q) (Sho.hd B))))), h, k) := by
  obtain ⟨H1, H2, H3, H4, H5⟩ := H
  have hwl : (wMv s).length ≤ 29 := by
    unfold wMv
    obtain ⟨_, b2, b3, b4⟩ := hs
    split
    · simp
    · simp only [List.length_append, List.length_replicate]; omega
  have rkW : kR (mCell h W) 9 = true := kR_eq H5
  have rkP : kR (mCell h P) 4 = true := kR_eq H2.1
  have rkF : kR (mCell h F) 1 = true := kR_eq H2.2.1
  have rkR := kR_eq R.2.choose_spec.choose_spec.1.1
  intro ws
  induction ws with
  | nil =>
    intro i c p l l8 l9 hd hp hl hi
    have hi2 : i = (wMv s).length := by
      have := congrArg List.length hd
      simp only [List.length_drop, List.length_nil] at this
      omega
    subst hi2
    rw [e145_35, e145_37, e145_38, kF_eq H1 (v := .ref W) rfl, e145_41 rkW (by simp [Value.category]), c_wLen H5 hs]
    simp only [mAft, Option.toList_some, List.cons_append, List.nil_append]
    rw [e145_44, if_pos (Int32.le_refl _), e145_123, e145_125, e145_126, kF_eq H1 (v := .ref P) rfl, e145_129, e145_131, e145_132, e145_133 rkR (by simp [Value.category]), rt_next R hT]
    simp only [mAft, Option.toList_some, List.cons_append, List.nil_append]
    rw [e145_136 rkP (by simp [Value.category]), c_tcN hl (hd_lt hB) H2]
    simp only [mAft, Option.toList_some, List.cons_append, List.nil_append]
    rw [e145_139, ← oi_add, e145_140]
    rfl
  | cons m ws IH =>
    intro i c p l l8 l9 hd hp hl hi
    have him : (wMv s)[i]? = some m := by
      have := congrArg (fun z => z[0]?) hd
      simpa [List.getElem?_drop] using this
    have hil := (List.getElem?_eq_some_iff.mp him).1
    have hm3 : m < 3 := wMv_fw m (List.mem_of_getElem? him)
    have n1 : ¬ Int32.ofNat (wMv s).length ≤ Int32.ofNat i := by rw [oi_le (by omega) (by omega)]; omega
    have g := HE p m hp (by omega)
    rw [e145_35, e145_37, e145_38, kF_eq H1 (v := .ref W) rfl, e145_41 rkW (by simp [Value.category]), c_wLen H5 hs]
    simp only [mAft, Option.toList_some, List.cons_append, List.nil_append]
    rw [e145_44, if_neg n1, e145_47, e145_48, kF_eq H1 (v := .ref W) rfl, e145_51, e145_53 rkW (by simp [Value.category]), c_wMove H5 hs him]
    simp only [mAft, Option.toList_some, List.cons_append, List.nil_append]
    rw [e145_56, e145_58, e145_59, kF_eq H1 (v := .ref F) rfl, e145_62, e145_64, e145_66 rkF (by simp [Value.category]), c_driven H2.2.1 H3 H4, g.1]
    simp only [mAft, Option.toList_some, List.cons_append, List.nil_append]
    rw [e145_69, e145_71, e145_73, e145_74]
    by_cases hz : e p m = 0
    · rw [if_neg (fun z => z ((enc_eq (by omega)).mpr hz)), e145_77, e145_78]
      simp only [Sho.fol, drE, if_pos hz]
    · have hen : qDec 1 (e p m) = Int32.ofNat (e p m - 1) := by
        obtain ⟨y, hy⟩ : ∃ y, e p m = y + 1 := ⟨e p m - 1, by omega⟩
        rw [hy]; unfold qDec; rw [if_neg (by decide), oi_pred, Nat.add_sub_cancel]
      have hx : e p m - 1 < 2048 := by omega
      have w := HW p m (e p m - 1) hp (by omega) hx
      rw [if_pos (fun z => hz ((enc_eq (by omega)).mp z)), hen, e145_79, e145_81, e145_82, kF_eq H1 (v := .ref P) rfl, e145_85, e145_87, e145_89, e145_91 rkP (by simp [Value.category]), c_ofMove H2.1 rfl rfl H2.2.1 H2.2.2.1 H2.2.2.2, w.1]
      simp only [mAft, Option.toList_some, List.cons_append, List.nil_append]
      rw [e145_94, e145_95, kF_eq H1 (v := .ref P) rfl, e145_98, e145_100, e145_102 rkP (by simp [Value.category]), show Int32.ofNat m = oI (some m) from rfl, c_tcN hl (fun z hz => by cases hz; omega) H2]
      simp only [mAft, Option.toList_some, List.cons_append, List.nil_append]
      rw [e145_105, ← oi_add, e145_106, ← oi_add, e145_107, e145_109, e145_111, e145_113, e145_115, e145_117, oi_succ, e145_120]
      have hd2 : (wMv s).drop (i + 1) = ws := by
        have := congrArg List.tail hd
        rwa [List.tail_drop] at this
      rw [IH (i + 1) _ (e p m - 1) (some m) _ _ hd2 hx (fun z hz => by cases hz; omega) (by omega)]
      simp only [Sho.fol, drE, if_neg hz]
      cases Sho.fol (drE e) (e p m - 1) ws with
      | none => rfl
      | some Q =>
        simp only [mvW, Sho.lst]
        rw [show c + (wt p m (e p m - 1) + tcN cu l (some m)) + mvW wt (tcN cu) (some m) (e p m - 1) Q = c + (wt p m (e p m - 1) + tcN cu l (some m) + mvW wt (tcN cu) (some m) (e p m - 1) Q) by omega]
end
section
variable {L : Nat} {xs : Nat → Int32} {k : Nat} {h : List mCel} {rt pa ma e0 q : Nat} {T : List (Nat × Nat)}
variable {P F cl op cu W rs sh ar : Nat} {mg : Int32} {fF : List Value} {fc fo : Nat → Int32} {wt : Nat → Nat → Nat → Nat} {e : Nat → Nat → Nat} {s : wS}
/-- what the word costs in its place; NONE if there is none or it can't be driven there -/
theorem rt_wordBetween (H : swH sh F P W rs cl op cu ar mg fF fc fo s h) (HE : geoE fo e) (HW : geoW fc mg wt) (hcu : cu ≤ 100) (hs : wIn s) (hs1 : s.1 ≤ 536870912) (hq : q < 2048) (R : RT rt pa ma e0 q T h) (hTv : ∀ x ∈ T, x.1 < 6 ∧ x.2 < 2048)
    {E A B : List (Nat × Nat)} (hT : T = E ++ (A ++ B)) :
    mW (mRo L xs) mTab 145 0 [some (.ref sh), some (.ref rt), some (.int (Int32.ofNat E.length)), some (.int (Int32.ofNat (E.length + A.length))), none, none, none, none, none, none] [] h k =
      some (.inl (some (.int (if s.2.1 = 0 then -1 else match Sho.fol (drE e) (Sho.fin q E) (wMv s) with | none => -1 | some Q => Int32.ofNat (mvW wt (tcN cu) (Sho.lst none E) (Sho.fin q E) Q + tcN cu (Sho.lst (Sho.lst none E) Q) (Sho.hd B))))), h, k) := by
  have rkW : kR (mCell h W) 9 = true := kR_eq H.2.2.2.2
  have rkR := kR_eq R.2.choose_spec.choose_spec.1.1
  have hE : ∀ y ∈ E, y.1 < 6 ∧ y.2 < 2048 := fun y hy => hTv y (by rw [hT]; exact List.mem_append_left _ hy)
  have hB : ∀ y ∈ B, y.1 < 6 ∧ y.2 < 2048 := fun y hy => hTv y (by rw [hT]; exact List.mem_append_right _ (List.mem_append_right _ hy))
  rw [e145_0, e145_1, kF_eq H.1 (v := .ref W) rfl, e145_4 rkW (by simp), c_costOrNone H.2.2.2.2 hs]
  simp only [mAft, Option.toList_some, List.cons_append, List.nil_append]
  rw [e145_7, e145_8]
  by_cases h0 : s.2.1 = 0
  · rw [if_pos h0, if_pos h0, if_neg (fun z => z rfl), e145_11, e145_12]
  · have n1 : ¬ Int32.ofNat s.1 = -1 := fun z => by
      have := congrArg Int32.toInt z
      rw [oi_int (by omega)] at this
      have h2 : (-1 : Int32).toInt = -1 := rfl
      omega
    rw [if_neg h0, if_neg h0, if_pos n1, e145_13, e145_14, e145_16, e145_17, e145_18 rkR (by simp [Value.category]), rt_poseE R hT]
    simp only [mAft, Option.toList_some, List.cons_append, List.nil_append]
    rw [e145_21, e145_23, e145_24, e145_25, e145_26, e145_27 rkR (by simp [Value.category]), rt_prev R hT]
    simp only [mAft, Option.toList_some, List.cons_append, List.nil_append]
    rw [e145_30, e145_32, e145_33]
    have := wb_loop (L := L) (xs := xs) (k := k) (l2 := some (.int (Int32.ofNat E.length))) H HE HW hcu hs hq R (E := E ++ A) (B := B) (by rw [hT, List.append_assoc]) hB (wMv s) 0 0 (Sho.fin q E) (Sho.lst none E) none none (by simp) (fin_lt hq hE) (lst_lt hE) (Nat.zero_le _)
    rw [List.length_append] at this
    simp only [Nat.zero_add] at this
    exact this
end
