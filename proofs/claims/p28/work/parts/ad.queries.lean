section
def nSeg : Option Nat → List (Nat × Nat) → Nat
  | _, [] => 0
  | l, b :: B => (if l = some b.1 then 0 else 1) + nSeg (some b.1) B
def nCus : Option Nat → List (Nat × Nat) → Nat
  | _, [] => 0
  | l, b :: B => (if tcN 1 l (some b.1) = 0 then 0 else 1) + nCus (some b.1) B
/-- where the segment begins behind c of them, from a place on -/
def sgA (i : Nat) : Option Nat → List (Nat × Nat) → Nat → Nat → Option Nat
  | _, [], _, _ => none
  | l, b :: B, c, at' => if c + (if l = some b.1 then 0 else 1) = i + 1 then some at' else sgA i (some b.1) B (c + (if l = some b.1 then 0 else 1)) (at' + 1)
def alk (m : Nat) : List (Nat × Nat) → Nat
  | [] => 0
  | b :: B => if b.1 = m then alk m B + 1 else 0
theorem oI_inj {a b : Option Nat} (ha : ∀ m, a = some m → m < 6) (hb : ∀ m, b = some m → m < 6) : (oI a = oI b) ↔ a = b := by
  refine ⟨fun z => ?_, fun z => by rw [z]⟩
  cases a with
  | none =>
    cases b with
    | none => rfl
    | some b => exact absurd z.symm (oI_ne (hb b rfl))
  | some a =>
    cases b with
    | none => exact absurd z (oI_ne (ha a rfl))
    | some b =>
      have := congrArg Int32.toInt z
      rw [show oI (some a) = Int32.ofNat a from rfl, show oI (some b) = Int32.ofNat b from rfl, oi_int (by have := ha a rfl; omega), oi_int (by have := hb b rfl; omega)] at this
      congr 1
      omega
variable {L : Nat} {xs : Nat → Int32} {k : Nat} {h : List mCel} {rt pa ma e0 q : Nat} {T : List (Nat × Nat)}
theorem rt_l17 (R : RT rt pa ma e0 q T h) : T.length < 131072 := by
  have := R.1
  have := pow_le R.1.1
  omega
theorem rt_isCusp (R : RT rt pa ma e0 q T h) (hTv : ∀ x ∈ T, x.1 < 6 ∧ x.2 < 2048) {E B : List (Nat × Nat)} (hT : T = E ++ B) : mW (mRo L xs) mTab 133 0 [some (.ref rt), some (.int (Int32.ofNat E.length))] [] h k = some (.inl (some (.int (if tcN 1 (Sho.lst none E) (Sho.hd B) = 0 then 0 else 1))), h, k) := by
  have rk := kR_eq R.2.choose_spec.choose_spec.1.1
  have hE : ∀ y ∈ E, y.1 < 6 ∧ y.2 < 2048 := fun y hy => hTv y (by rw [hT]; exact List.mem_append_left _ hy)
  have hB : ∀ y ∈ B, y.1 < 6 ∧ y.2 < 2048 := fun y hy => hTv y (by rw [hT]; exact List.mem_append_right _ hy)
  rw [e133_0, e133_1, e133_2, e133_3, e133_4 rk (by simp [Value.category]), rt_prev R hT]
  simp only [mAft, Option.toList_some, List.cons_append, List.nil_append]
  rw [e133_7, e133_8, e133_9 rk (by simp [Value.category]), rt_next R hT]
  simp only [mAft, Option.toList_some, List.cons_append, List.nil_append]
  rw [e133_12 (by simp [Value.category]), c_isCuspN (lst_lt hE) (hd_lt hB)]
  simp only [mAft, Option.toList_some, List.cons_append, List.nil_append]
  rw [e133_15 (by split <;> simp)]
theorem cusp_loop (R : RT rt pa ma e0 q T h) (hTv : ∀ x ∈ T, x.1 < 6 ∧ x.2 < 2048) : ∀ (B E : List (Nat × Nat)) (c : Nat), T = E ++ B → mW (mRo L xs) mTab 129 4 [some (.ref rt), some (.int (Int32.ofNat c)), some (.int (Int32.ofNat E.length))] [] h k = some (.inl (some (.int (Int32.ofNat (c + nCus (Sho.lst none E) B)))), h, k) := by
  have hl := rt_l17 R
  have t := R.2.choose_spec.choose_spec.1
  intro B
  induction B with
  | nil =>
    intro E c hT
    rw [List.append_nil] at hT
    rw [e129_4, e129_5, e129_6, kF_eq t.1 (v := .int (Int32.ofNat T.length)) rfl, e129_9, if_pos (by rw [hT]; exact Int32.le_refl _), e129_34, e129_35]
    rfl
  | cons b B IH =>
    intro E c hT
    have hTl : T.length = E.length + (B.length + 1) := by rw [hT, List.length_append, List.length_cons]
    have := IH (E ++ [b]) (c + (if tcN 1 (Sho.lst none E) (some b.1) = 0 then 0 else 1)) (by rw [hT]; simp)
    rw [List.length_append, List.length_singleton, lst_end, Nat.add_assoc] at this
    rw [e129_4, e129_5, e129_6, kF_eq t.1 (v := .int (Int32.ofNat T.length)) rfl, e129_9, if_neg (by rw [oi_le (by omega) (by omega)]; omega), e129_12, e129_13, e129_14, e129_15 (kR_eq t.1) (by simp [Value.category]), rt_isCusp R hTv hT]
    simp only [mAft, Option.toList_some, List.cons_append, List.nil_append]
    rw [e129_18]
    show (if (if tcN 1 (Sho.lst none E) (some b.1) = 0 then (0 : Int32) else 1) = 0 then _ else _) = _
    unfold nCus
    by_cases z : tcN 1 (Sho.lst none E) (some b.1) = 0
    · simp only [if_pos z] at this ⊢
      rw [if_pos trivial, e129_25, e129_26, show (0 : Int32) = Int32.ofNat 0 from rfl, ← oi_add, e129_27, e129_28, oi_succ, e129_31, this]
    · simp only [if_neg z] at this ⊢
      rw [if_neg (by decide), e129_21, e129_22, e129_26, show (1 : Int32) = Int32.ofNat 1 from rfl, ← oi_add, e129_27, e129_28, show (1 : Int32) = Int32.ofNat 1 from rfl, ← oi_add, e129_31, this]
theorem rt_cuspCount (R : RT rt pa ma e0 q T h) (hTv : ∀ x ∈ T, x.1 < 6 ∧ x.2 < 2048) : mW (mRo L xs) mTab 129 0 [some (.ref rt), none, none] [] h k = some (.inl (some (.int (Int32.ofNat (nCus none T)))), h, k) := by
  have t := R.2.choose_spec.choose_spec.1
  rw [e129_0, e129_1, e129_2, e129_3, show (0 : Int32) = Int32.ofNat 0 from rfl]
  cases T with
  | nil =>
    rw [e129_4, e129_5, e129_6, kF_eq t.1 (v := .int (Int32.ofNat ([] : List (Nat × Nat)).length)) rfl, e129_9, if_pos (by decide), e129_34, e129_35]
    rfl
  | cons b B =>
    have := cusp_loop (L := L) (xs := xs) (k := k) R hTv B [b] 0 rfl
    rw [Nat.zero_add] at this
    exact this.trans (by rw [show Sho.lst none [b] = some b.1 from rfl, nCus, show tcN 1 none (some b.1) = 0 from rfl, if_pos rfl, Nat.zero_add])
theorem ofn_add1 (c : Nat) : Int32.ofNat c + 1 = Int32.ofNat (c + 1) := oi_succ c
theorem seg_loop (R : RT rt pa ma e0 q T h) (hTv : ∀ x ∈ T, x.1 < 6 ∧ x.2 < 2048) : ∀ (B E : List (Nat × Nat)) (c : Nat), T = E ++ B → mW (mRo L xs) mTab 139 4 [some (.ref rt), some (.int (Int32.ofNat c)), some (.int (Int32.ofNat E.length))] [] h k = some (.inl (some (.int (Int32.ofNat (c + nSeg (Sho.lst none E) B)))), h, k) := by
  have hl := rt_l17 R
  have t := R.2.choose_spec.choose_spec.1
  intro B
  induction B with
  | nil =>
    intro E c hT
    rw [List.append_nil] at hT
    rw [e139_4, e139_5, e139_6, kF_eq t.1 (v := .int (Int32.ofNat T.length)) rfl, e139_9, if_pos (by rw [hT]; exact Int32.le_refl _), e139_41, e139_42]
    rfl
  | cons b B IH =>
    intro E c hT
    have hTl : T.length = E.length + (B.length + 1) := by rw [hT, List.length_append, List.length_cons]
    have hE : ∀ y ∈ E, y.1 < 6 ∧ y.2 < 2048 := fun y hy => hTv y (by rw [hT]; exact List.mem_append_left _ hy)
    have hb : b.1 < 6 := (hTv b (by rw [hT]; simp)).1
    have inj : (oI (Sho.lst none E) = oI (some b.1)) ↔ Sho.lst none E = some b.1 := oI_inj (lst_lt hE) (fun m hm => by cases hm; exact hb)
    have := IH (E ++ [b]) (c + (if Sho.lst none E = some b.1 then 0 else 1)) (by rw [hT]; simp)
    rw [List.length_append, List.length_singleton, lst_end, Nat.add_assoc] at this
    rw [e139_4, e139_5, e139_6, kF_eq t.1 (v := .int (Int32.ofNat T.length)) rfl, e139_9, if_neg (by rw [oi_le (by omega) (by omega)]; omega), e139_12, e139_13, e139_14, e139_15, e139_16, e139_17 (kR_eq t.1) (by simp [Value.category]), rt_prev R hT]
    simp only [mAft, Option.toList_some, List.cons_append, List.nil_append]
    rw [e139_20, e139_21, e139_22 (kR_eq t.1) (by simp [Value.category]), rt_next R hT]
    simp only [mAft, Option.toList_some, List.cons_append, List.nil_append]
    rw [e139_25, show Sho.hd (b :: B) = some b.1 from rfl]
    unfold nSeg
    by_cases z : Sho.lst none E = some b.1
    · rw [if_pos z] at this ⊢
      rw [if_pos (inj.mpr z), e139_32, e139_33, show (0 : Int32) = Int32.ofNat 0 from rfl, ← oi_add, e139_34, e139_35, ofn_add1, e139_38, this]
    · rw [if_neg z] at this ⊢
      rw [if_neg (fun y => z (inj.mp y)), e139_28, e139_29, e139_33, ofn_add1, e139_34, e139_35, ofn_add1, e139_38, this]
theorem rt_segCount (R : RT rt pa ma e0 q T h) (hTv : ∀ x ∈ T, x.1 < 6 ∧ x.2 < 2048) : mW (mRo L xs) mTab 139 0 [some (.ref rt), none, none] [] h k = some (.inl (some (.int (Int32.ofNat (nSeg none T)))), h, k) := by
  have := seg_loop (L := L) (xs := xs) (k := k) R hTv T [] 0 rfl
  rw [Nat.zero_add] at this
  rw [e139_0, e139_1, e139_2, e139_3]
  exact this
theorem pred_oi (c : Nat) : Int32.ofNat c + (-1) + 1 = Int32.ofNat (c + 1) + (-1) := by
  rw [oi_add, Int32.add_assoc, Int32.add_comm (-1), ← Int32.add_assoc]; rfl
theorem start_loop (R : RT rt pa ma e0 q T h) (hTv : ∀ x ∈ T, x.1 < 6 ∧ x.2 < 2048) {i : Nat} (hi : i < 1000000) : ∀ (B E : List (Nat × Nat)) (c : Nat), T = E ++ B → c ≤ E.length → mW (mRo L xs) mTab 140 4 [some (.ref rt), some (.int (Int32.ofNat i)), some (.int (Int32.ofNat c + (-1))), some (.int (Int32.ofNat E.length))] [] h k =
    some (.inl (some (.int (match sgA i (Sho.lst none E) B c E.length with | some a => Int32.ofNat a | none => -1))), h, k) := by
  have hl := rt_l17 R
  have t := R.2.choose_spec.choose_spec.1
  intro B
  induction B with
  | nil =>
    intro E c hT hc
    rw [List.append_nil] at hT
    rw [e140_4, e140_5, e140_6, kF_eq t.1 (v := .int (Int32.ofNat T.length)) rfl, e140_9, if_pos (by rw [hT]; exact Int32.le_refl _), e140_48, e140_49]
    rfl
  | cons b B IH =>
    intro E c hT hc
    have hTl : T.length = E.length + (B.length + 1) := by rw [hT, List.length_append, List.length_cons]
    have hE : ∀ y ∈ E, y.1 < 6 ∧ y.2 < 2048 := fun y hy => hTv y (by rw [hT]; exact List.mem_append_left _ hy)
    have hb : b.1 < 6 := (hTv b (by rw [hT]; simp)).1
    have inj : (oI (Sho.lst none E) = oI (some b.1)) ↔ Sho.lst none E = some b.1 := oI_inj (lst_lt hE) (fun m hm => by cases hm; exact hb)
    have := fun c' (hc' : c' ≤ E.length + 1) => IH (E ++ [b]) c' (by rw [hT]; simp) (by rw [List.length_append, List.length_singleton]; exact hc')
    simp only [List.length_append, List.length_singleton, lst_end] at this
    have eqI : ∀ c', c' ≤ E.length + 1 → ((Int32.ofNat c' + (-1) = Int32.ofNat i) ↔ c' = i + 1) := fun c' hc' => by
      rw [← oi_pred i]
      refine ⟨fun z => ?_, fun z => by rw [z]⟩
      have z2 : Int32.ofNat c' + (-1) + 1 = Int32.ofNat (i + 1) + (-1) + 1 := by rw [z]
      rw [Int32.add_assoc, Int32.add_assoc, show (-1 : Int32) + 1 = 0 by decide, Int32.add_zero, Int32.add_zero] at z2
      have z3 := congrArg Int32.toInt z2
      rw [oi_int (by omega), oi_int (by omega)] at z3
      omega
    rw [e140_4, e140_5, e140_6, kF_eq t.1 (v := .int (Int32.ofNat T.length)) rfl, e140_9, if_neg (by rw [oi_le (by omega) (by omega)]; omega), e140_12, e140_13, e140_14, e140_15, e140_16, e140_17 (kR_eq t.1) (by simp [Value.category]), rt_prev R hT]
    simp only [mAft, Option.toList_some, List.cons_append, List.nil_append]
    rw [e140_20, e140_21, e140_22 (kR_eq t.1) (by simp [Value.category]), rt_next R hT]
    simp only [mAft, Option.toList_some, List.cons_append, List.nil_append]
    rw [e140_25, show Sho.hd (b :: B) = some b.1 from rfl]
    have rest : ∀ c', c' ≤ E.length + 1 → mW (mRo L xs) mTab 140 35 [some (.ref rt), some (.int (Int32.ofNat i)), some (.int (Int32.ofNat c' + (-1))), some (.int (Int32.ofNat E.length))] [] h k =
        some (.inl (some (.int (match (if c' = i + 1 then some E.length else sgA i (some b.1) B c' (E.length + 1)) with | some a => Int32.ofNat a | none => -1))), h, k) := by
      intro c' hc'
      rw [e140_35, e140_36, e140_37]
      by_cases z : c' = i + 1
      · rw [if_pos z, if_neg (not_not_intro ((eqI c' hc').mpr z)), e140_40, e140_41]
      · rw [if_neg z, if_pos (fun y => z ((eqI c' hc').mp y)), e140_42, ofn_add1, e140_45, this c' hc']
    unfold sgA
    by_cases z : Sho.lst none E = some b.1
    · simp only [if_pos z]
      rw [if_pos (inj.mpr z), e140_32, e140_33, e140_34, Int32.add_zero, rest c (by omega)]
      rfl
    · simp only [if_neg z]
      rw [if_neg (fun y => z (inj.mp y)), e140_28, e140_29, e140_33, e140_34, pred_oi, rest (c + 1) (by omega)]
theorem rt_segStart (R : RT rt pa ma e0 q T h) (hTv : ∀ x ∈ T, x.1 < 6 ∧ x.2 < 2048) {i : Nat} (hi : i < 1000000) : mW (mRo L xs) mTab 140 0 [some (.ref rt), some (.int (Int32.ofNat i)), none, none] [] h k = some (.inl (some (.int (match sgA i none T 0 0 with | some a => Int32.ofNat a | none => -1))), h, k) := by
  have := start_loop (L := L) (xs := xs) (k := k) R hTv hi T [] 0 rfl (Nat.le_refl _)
  rw [e140_0, e140_1, e140_2, e140_3]
  exact this
theorem alike_loop (R : RT rt pa ma e0 q T h) (hTv : ∀ x ∈ T, x.1 < 6 ∧ x.2 < 2048) {E0 B0 : List (Nat × Nat)} {b0 : Nat × Nat} (hT0 : T = E0 ++ b0 :: B0) : ∀ (B E : List (Nat × Nat)) (c : Nat), T = E ++ B → mW (mRo L xs) mTab 126 4 [some (.ref rt), some (.int (Int32.ofNat E0.length)), some (.int (Int32.ofNat c)), some (.int (Int32.ofNat E.length))] [] h k = some (.inl (some (.int (Int32.ofNat (c + alk b0.1 B)))), h, k) := by
  have hl := rt_l17 R
  have t := R.2.choose_spec.choose_spec.1
  intro B
  induction B with
  | nil =>
    intro E c hT
    rw [List.append_nil] at hT
    rw [e126_4, e126_5, e126_6, kF_eq t.1 (v := .int (Int32.ofNat T.length)) rfl, e126_9, if_pos (by rw [hT]; exact Int32.le_refl _), e126_34, e126_35]
    rfl
  | cons b B IH =>
    intro E c hT
    have hTl : T.length = E.length + (B.length + 1) := by rw [hT, List.length_append, List.length_cons]
    have hb : b.1 < 6 := (hTv b (by rw [hT]; simp)).1
    have hb0 : b0.1 < 6 := (hTv b0 (by rw [hT0]; simp)).1
    have inj : (oI (some b.1) = oI (some b0.1)) ↔ some b.1 = some b0.1 := oI_inj (fun m hm => by cases hm; exact hb) (fun m hm => by cases hm; exact hb0)
    have := IH (E ++ [b]) (c + 1) (by rw [hT]; simp)
    rw [List.length_append, List.length_singleton, Nat.add_assoc, Nat.add_comm 1] at this
    rw [e126_4, e126_5, e126_6, kF_eq t.1 (v := .int (Int32.ofNat T.length)) rfl, e126_9, if_neg (by rw [oi_le (by omega) (by omega)]; omega), e126_12, e126_13, e126_14 (kR_eq t.1) (by simp [Value.category]), rt_next R hT]
    simp only [mAft, Option.toList_some, List.cons_append, List.nil_append]
    rw [e126_17, e126_18, e126_19 (kR_eq t.1) (by simp [Value.category]), rt_next R hT0]
    simp only [mAft, Option.toList_some, List.cons_append, List.nil_append]
    rw [e126_22, show Sho.hd (b :: B) = some b.1 from rfl, show Sho.hd (b0 :: B0) = some b0.1 from rfl]
    unfold alk
    by_cases z : b.1 = b0.1
    · rw [if_pos z, if_neg (not_not_intro (inj.mpr (by rw [z]))), e126_25, ofn_add1, e126_28, ofn_add1, e126_31, this]
    · rw [if_neg z, if_pos (fun y => z (Option.some.inj (inj.mp y))), e126_34, e126_35, Nat.add_zero]
theorem rt_alike (R : RT rt pa ma e0 q T h) (hTv : ∀ x ∈ T, x.1 < 6 ∧ x.2 < 2048) {E0 B0 : List (Nat × Nat)} {b0 : Nat × Nat} (hT0 : T = E0 ++ b0 :: B0) : mW (mRo L xs) mTab 126 0 [some (.ref rt), some (.int (Int32.ofNat E0.length)), none, none] [] h k = some (.inl (some (.int (Int32.ofNat (alk b0.1 (b0 :: B0))))), h, k) := by
  have := alike_loop (L := L) (xs := xs) (k := k) R hTv hT0 (b0 :: B0) E0 0 hT0
  rw [Nat.zero_add] at this
  rw [e126_0, e126_1, e126_2, e126_3]
  exact this
-- can a plan be driven
variable {o : Nat → Bool} {F op : Nat} {fF : List Value} {fo : Nat → Int32}
theorem can_loop (HE : geoE fo (eG o)) (hf : ∀ p, p < 2048 → (pOpen fo (Int32.ofNat p) ↔ o p = true)) (hq : q < 2048) (R : RT rt pa ma e0 q T h) (hTv : ∀ x ∈ T, x.1 < 6 ∧ x.2 < 2048) (hF : mCell h F = some (.inr (1, fF))) (h4 : fF[4]? = some (.ref op)) (hop : mCell h op = some (.inl (1, 2048, .inl fo))) :
    ∀ (B E : List (Nat × Nat)), T = E ++ B → Sho.Val (drE enN) (Sho.fin q E) B → mW (mRo L xs) mTab 8 8 [some (.ref F), some (.ref rt), some (.int (Int32.ofNat (Sho.fin q E))), some (.int (Int32.ofNat E.length))] [] h k =
      some (.inl (some (.int (@ite _ (o (Sho.fin q E) = true ∧ Sho.Val (drE (eG o)) (Sho.fin q E) B) (Classical.propDecidable _) 1 0))), h, k) := by
  have hl := rt_l17 R
  have t := R.2.choose_spec.choose_spec.1
  have rF := kR_eq hF
  have z01 : ∀ (P : Prop), (@ite _ P (Classical.propDecidable _) (1 : Int32) 0) = 0 ∨ (@ite _ P (Classical.propDecidable _) (1 : Int32) 0) = 1 := fun P => by
    by_cases z : P
    · rw [if_pos z]; exact Or.inr rfl
    · rw [if_neg z]; exact Or.inl rfl
  intro B
  induction B with
  | nil =>
    intro E hT hv
    rw [List.append_nil] at hT
    have hE : Sho.fin q E < 2048 := fin_lt hq (hT ▸ hTv)
    have e1 : (@ite _ (pOpen fo (Int32.ofNat (Sho.fin q E))) (Classical.propDecidable _) (1 : Int32) 0) = @ite _ (o (Sho.fin q E) = true ∧ Sho.Val (drE (eG o)) (Sho.fin q E) []) (Classical.propDecidable _) 1 0 := by
      by_cases z : o (Sho.fin q E) = true
      · rw [if_pos ((hf _ hE).mpr z), if_pos ⟨z, trivial⟩]
      · rw [if_neg (fun y => z ((hf _ hE).mp y)), if_neg (fun y => z y.1)]
    rw [e8_8, e8_9, e8_10 (kR_eq t.1) (by simp [Value.category]), rt_count R]
    simp only [mAft, Option.toList_some, List.cons_append, List.nil_append]
    rw [e8_13, if_pos (by rw [hT]; exact Int32.le_refl _), e8_38, e8_39, e8_40 rF (by simp [Value.category]), c_isOpen hF h4 hop]
    simp only [mAft, Option.toList_some, List.cons_append, List.nil_append]
    rw [e8_43 (z01 _), e1]
  | cons b B IH =>
    intro E hT hv
    have hTl : T.length = E.length + (B.length + 1) := by rw [hT, List.length_append, List.length_cons]
    have hE : Sho.fin q E < 2048 := fin_lt hq (fun y hy => hTv y (by rw [hT]; exact List.mem_append_left _ hy))
    have hb := hTv b (by rw [hT]; simp)
    obtain ⟨v1, v2⟩ := hv
    have en := drN_some v1
    have np : ¬ Int32.ofNat (Sho.fin q E) = -1 := fun z => by
      have := congrArg Int32.toInt z
      rw [oi_int (by omega)] at this
      have h2 : (-1 : Int32).toInt = -1 := rfl
      omega
    obtain ⟨E1, E2⟩ := HE (Sho.fin q E) b.1 hE hb.1
    have go : mW (mRo L xs) mTab 8 8 [some (.ref F), some (.ref rt), some (.int (Int32.ofNat (Sho.fin q E))), some (.int (Int32.ofNat E.length))] [] h k = mW (mRo L xs) mTab 8 8 [some (.ref F), some (.ref rt), some (.int (qDec 1 (eG o (Sho.fin q E) b.1))), some (.int (Int32.ofNat (E.length + 1)))] [] h k := by
      rw [e8_8, e8_9, e8_10 (kR_eq t.1) (by simp [Value.category]), rt_count R]
      simp only [mAft, Option.toList_some, List.cons_append, List.nil_append]
      rw [e8_13, if_neg (by rw [oi_le (by omega) (by omega)]; omega), e8_16, e8_17, e8_18, if_neg np, e8_21, e8_22, e8_23, e8_24, e8_25 (kR_eq t.1) (by simp [Value.category]), rt_next R hT]
      simp only [mAft, Option.toList_some, List.cons_append, List.nil_append]
      rw [show oI (Sho.hd (b :: B)) = Int32.ofNat b.1 from rfl, e8_28 rF (by simp [Value.category]), c_driven hF h4 hop, E1]
      simp only [mAft, Option.toList_some, List.cons_append, List.nil_append]
      rw [e8_31, e8_32, ofn_add1, e8_35]
    rw [go]
    by_cases z : eG o (Sho.fin q E) b.1 = 0
    · -- it can't
      have nv : ¬ (o (Sho.fin q E) = true ∧ Sho.Val (drE (eG o)) (Sho.fin q E) (b :: B)) := fun y => by
        have := y.2.1
        unfold drE at this
        rw [if_pos z] at this
        cases this
      rw [z, enc_zero, if_neg nv, e8_8, e8_9, e8_10 (kR_eq t.1) (by simp [Value.category]), rt_count R]
      simp only [mAft, Option.toList_some, List.cons_append, List.nil_append]
      have out : mW (mRo L xs) mTab 8 38 [some (.ref F), some (.ref rt), some (.int (-1)), some (.int (Int32.ofNat (E.length + 1)))] [] h k = some (.inl (some (.int 0)), h, k) := by
        rw [e8_38, e8_39, e8_40 rF (by simp [Value.category]), c_isOpen hF h4 hop]
        simp only [mAft, Option.toList_some, List.cons_append, List.nil_append]
        rw [e8_43 (z01 _), if_neg open_neg]
      rw [e8_13]
      by_cases w : Int32.ofNat T.length ≤ Int32.ofNat (E.length + 1)
      · rw [if_pos w]; exact out
      · rw [if_neg w, e8_16, e8_17, e8_18, if_pos rfl]; exact out
    · obtain ⟨s1, s2, s3⟩ := eG_some z
      have ex : eG o (Sho.fin q E) b.1 = b.2 + 1 := s2.trans en
      have := IH (E ++ [b]) (by rw [hT]; simp) (by rw [Sho.fin_app]; exact v2)
      rw [List.length_append, List.length_singleton, show Sho.fin q (E ++ [b]) = b.2 by rw [Sho.fin_app]; rfl] at this
      rw [ex, enc_succ, this]
      have e1 : (o b.2 = true ∧ Sho.Val (drE (eG o)) b.2 B) ↔ (o (Sho.fin q E) = true ∧ Sho.Val (drE (eG o)) (Sho.fin q E) (b :: B)) := by
        refine ⟨fun y => ⟨s1, by unfold drE; rw [if_neg z, ex, Nat.add_sub_cancel], y.2⟩, fun y => ⟨?_, y.2.2⟩⟩
        rw [en, Nat.add_sub_cancel] at s3
        exact s3
      by_cases y : o b.2 = true ∧ Sho.Val (drE (eG o)) b.2 B
      · rw [if_pos y, if_pos (e1.mp y)]
      · rw [if_neg y, if_neg (fun w => y (e1.mpr w))]
theorem rt_canDrive (HE : geoE fo (eG o)) (hf : ∀ p, p < 2048 → (pOpen fo (Int32.ofNat p) ↔ o p = true)) (hq : q < 2048) (R : RT rt pa ma e0 q T h) (hTv : ∀ x ∈ T, x.1 < 6 ∧ x.2 < 2048) (hv : Sho.Val (drE enN) q T) (hF : mCell h F = some (.inr (1, fF))) (h4 : fF[4]? = some (.ref op)) (hop : mCell h op = some (.inl (1, 2048, .inl fo))) :
    mW (mRo L xs) mTab 8 0 [some (.ref F), some (.ref rt), none, none] [] h k = some (.inl (some (.int (@ite _ (o q = true ∧ Sho.Val (drE (eG o)) q T) (Classical.propDecidable _) 1 0))), h, k) := by
  have t := R.2.choose_spec.choose_spec.1
  have := can_loop (L := L) (xs := xs) (k := k) HE hf hq R hTv hF h4 hop T [] rfl hv
  have p0 := rt_poseAt (L := L) (xs := xs) (k := k) R (i := 0) (Nat.zero_le _)
  rw [e8_0, e8_1, e8_2 (kR_eq t.1) (by simp [Value.category]), show (0 : Int32) = Int32.ofNat 0 from rfl, p0]
  simp only [mAft, Option.toList_some, List.cons_append, List.nil_append]
  rw [e8_5, e8_6, e8_7]
  exact this
end
