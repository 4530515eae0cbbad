section
variable {L : Nat} {xs : Nat → Int32} {k : Nat} {h : List mCel} {rt pa ma e q : Nat} {T : List (Nat × Nat)}
/-- a move, or that there is none -/
def oI : Option Nat → Int32
  | none => -1
  | some m => Int32.ofNat m
def tcN (cu : Nat) : Option Nat → Option Nat → Nat
  | some a, some b => if decide (a < 3) = decide (b < 3) then 0 else cu
  | _, _ => 0
theorem tcN_le {cu : Nat} {a b : Option Nat} : tcN cu a b ≤ cu := by
  unfold tcN
  split
  · split
    · exact Nat.zero_le _
    · exact Nat.le_refl _
  · exact Nat.zero_le _
def mvW (wt : Nat → Nat → Nat → Nat) (tu : Option Nat → Option Nat → Nat) : Option Nat → Nat → List (Nat × Nat) → Nat
  | _, _, [] => 0
  | l, q, a :: T => wt q a.1 a.2 + tu l (some a.1) + mvW wt tu (some a.1) a.2 T
theorem oI_ne {m : Nat} (hm : m < 6) : ¬ Int32.ofNat m = -1 := by
  intro z
  have := congrArg Int32.toInt z
  rw [oi_int (by omega)] at this
  have h2 : (-1 : Int32).toInt = -1 := rfl
  omega
theorem c_isCuspN {a b : Option Nat} (ha : ∀ m, a = some m → m < 6) (hb : ∀ m, b = some m → m < 6) : mW (mRo L xs) mTab 75 0 [some (.int (oI a)), some (.int (oI b))] [] h k = some (.inl (some (.int (if tcN 1 a b = 0 then 0 else 1))), h, k) := by
  cases a with
  | none => rw [show oI none = -1 from rfl, e75_0, e75_1, e75_2, if_pos rfl, e75_25, e75_26 (Or.inl rfl)]; rfl
  | some m =>
    have hm := ha m rfl
    cases b with
    | none => rw [show oI (some m) = Int32.ofNat m from rfl, show oI none = -1 from rfl, e75_0, e75_1, e75_2, if_neg (oI_ne hm), e75_5, e75_6, e75_7, if_pos rfl, e75_25, e75_26 (Or.inl rfl)]; rfl
    | some n =>
      have hn := hb n rfl
      rw [show oI (some m) = Int32.ofNat m from rfl, show oI (some n) = Int32.ofNat n from rfl, e75_0, e75_1, e75_2, if_neg (oI_ne hm), e75_5, e75_6, e75_7, if_neg (oI_ne hn), e75_10, e75_11 (by simp), c_isBack]
      simp only [mAft, Option.toList_some, List.cons_append, List.nil_append]
      rw [e75_14, e75_15 (by simp [Value.category]), c_isBack]
      simp only [mAft, Option.toList_some, List.cons_append, List.nil_append]
      rw [e75_18]
      simp only [oi_lt3 (show m < 2 ^ 31 by omega), oi_lt3 (show n < 2 ^ 31 by omega)]
      by_cases h1 : m < 3 <;> by_cases h2 : n < 3 <;> simp [h1, h2, tcN, e75_25, e75_21, e75_22, e75_26]
/-- the cells of the prices -/
def pcH (P F cl cu : Nat) (mg : Int32) (fF : List Value) (fc : Nat → Int32) (h : List mCel) : Prop :=
  mCell h P = some (.inr (4, [.ref F, .int (Int32.ofNat cu), .int mg])) ∧ mCell h F = some (.inr (1, fF)) ∧ fF[3]? = some (.ref cl) ∧ mCell h cl = some (.inl (0, 256, .inl fc))
variable {P F cl cu : Nat} {mg : Int32} {fF : List Value} {fc : Nat → Int32} {wt : Nat → Nat → Nat → Nat}
theorem c_tcN {a b : Option Nat} (ha : ∀ m, a = some m → m < 6) (hb : ∀ m, b = some m → m < 6) (H : pcH P F cl cu mg fF fc h) : mW (mRo L xs) mTab 115 0 [some (.ref P), some (.int (oI a)), some (.int (oI b))] [] h k = some (.inl (some (.int (Int32.ofNat (tcN cu a b)))), h, k) := by
  rw [e115_0, e115_1, e115_2 (by simp), c_isCuspN ha hb]
  simp only [mAft, Option.toList_some, List.cons_append, List.nil_append]
  rw [e115_5]
  have key : tcN cu a b = if tcN 1 a b = 0 then 0 else cu := by
    unfold tcN
    split
    · split
      · rw [if_pos rfl]
      · rw [if_neg (by decide)]
    · rw [if_pos rfl]
  by_cases h0 : tcN 1 a b = 0
  · rw [if_pos h0, if_pos rfl, e115_15, e115_16, key, if_pos h0]; rfl
  · rw [if_neg h0, if_neg (by decide), e115_8, e115_9, kF_eq H.1 (v := .int (Int32.ofNat cu)) rfl, e115_12, e115_16, key, if_neg h0]
theorem lst_end (E : List (Nat × Nat)) (l : Option Nat) (x : Nat × Nat) : Sho.lst l (E ++ [x]) = some x.1 := by
  rw [Sho.lst_app]; rfl
theorem rt_prev {E B : List (Nat × Nat)} (R : RT rt pa ma e q T h) (hT : T = E ++ B) : mW (mRo L xs) mTab 136 0 [some (.ref rt), some (.int (Int32.ofNat E.length - 1))] [] h k = some (.inl (some (.int (oI (Sho.lst none E)))), h, k) := by
  rcases List.eq_nil_or_concat E with rfl | ⟨E', x, rfl⟩
  · obtain ⟨_, fp, fm, t, _, _⟩ := R
    exact g_moveOut t (Or.inl (by decide))
  · rw [List.concat_eq_append] at hT ⊢
    rw [lst_end, List.length_append, List.length_singleton, oi_sub1 (by omega), Nat.add_sub_cancel]
    refine rt_moveAt R ?_
    rw [hT, List.append_assoc, List.getElem?_append_right (Nat.le_refl _), Nat.sub_self]
    rfl
theorem rt_next {E B : List (Nat × Nat)} (R : RT rt pa ma e q T h) (hT : T = E ++ B) : mW (mRo L xs) mTab 136 0 [some (.ref rt), some (.int (Int32.ofNat E.length))] [] h k = some (.inl (some (.int (oI (Sho.hd B)))), h, k) := by
  cases B with
  | nil =>
    obtain ⟨_, fp, fm, t, _, _⟩ := R
    refine g_moveOut t (Or.inr ?_)
    rw [hT, List.append_nil]
    exact Int32.le_refl _
  | cons x B =>
    refine rt_moveAt R ?_
    rw [hT, List.getElem?_append_right (Nat.le_refl _), Nat.sub_self]
    rfl
theorem rt_poseE {E B : List (Nat × Nat)} (R : RT rt pa ma e q T h) (hT : T = E ++ B) : mW (mRo L xs) mTab 137 0 [some (.ref rt), some (.int (Int32.ofNat E.length))] [] h k = some (.inl (some (.int (Int32.ofNat (Sho.fin q E)))), h, k) := by
  rw [rt_poseAt R (by rw [hT, List.length_append]; omega), hT, List.take_left]
theorem fin_lt {q : Nat} {E : List (Nat × Nat)} (hq : q < 2048) (hE : ∀ x ∈ E, x.1 < 6 ∧ x.2 < 2048) : Sho.fin q E < 2048 := by
  induction E generalizing q with
  | nil => exact hq
  | cons a E ih => exact ih (hE a (by simp)).2 (fun x hx => hE x (by simp [hx]))
theorem lst_lt {E : List (Nat × Nat)} (hE : ∀ x ∈ E, x.1 < 6 ∧ x.2 < 2048) : ∀ m, Sho.lst none E = some m → m < 6 := by
  intro m hm
  rcases List.eq_nil_or_concat E with rfl | ⟨E', x, rfl⟩
  · cases hm
  · rw [List.concat_eq_append] at hm hE
    rw [lst_end] at hm
    cases hm
    exact (hE x (by simp)).1
theorem hd_lt {B : List (Nat × Nat)} (hB : ∀ x ∈ B, x.1 < 6 ∧ x.2 < 2048) : ∀ m, Sho.hd B = some m → m < 6 := by
  intro m hm
  cases B with
  | nil => cases hm
  | cons x B => cases hm; exact (hB x (by simp)).1
theorem mvW_le (HW : geoW fc mg wt) (hcu : cu ≤ 100) : ∀ (A : List (Nat × Nat)) (l : Option Nat) (q : Nat), q < 2048 → (∀ x ∈ A, x.1 < 6 ∧ x.2 < 2048) → mvW wt (tcN cu) l q A ≤ 149 * A.length
  | [], _, _, _, _ => Nat.le_refl _
  | a :: A, l, q, hq, hA => by
    have h1 := (HW q a.1 a.2 hq (hA a (by simp)).1 (hA a (by simp)).2).2
    have h2 := tcN_le (cu := cu) (a := l) (b := some a.1)
    have h3 := mvW_le HW hcu A (some a.1) a.2 (hA a (by simp)).2 (fun x hx => hA x (by simp [hx]))
    simp only [mvW, List.length_cons]
    omega
theorem between_loop (H : pcH P F cl cu mg fF fc h) (HW : geoW fc mg wt) (hcu : cu ≤ 100) (hq : q < 2048) (R : RT rt pa ma e q T h) (hTv : ∀ x ∈ T, x.1 < 6 ∧ x.2 < 2048) {l2 : Option Value} {to : Nat} : ∀ (A E B : List (Nat × Nat)) (c : Nat) (l6 : Option Value),
    T = E ++ (A ++ B) → to = E.length + A.length → mW (mRo L xs) mTab 108 21 [some (.ref P), some (.ref rt), l2, some (.int (Int32.ofNat to)), some (.int (Int32.ofNat c)), some (.int (Int32.ofNat E.length)), l6] [] h k =
      some (.inl (some (.int (Int32.ofNat (c + mvW wt (tcN cu) (Sho.lst none E) (Sho.fin q E) A)))), h, k) := by
  have hlen : T.length < 131072 := by
    have := R.1
    have := pow_le R.1.1
    omega
  intro A
  induction A with
  | nil =>
    intro E B c l6 hT hto
    subst hto
    rw [e108_21, e108_23, e108_24, if_pos (by simp only [List.length_nil, Nat.add_zero]; exact Int32.le_refl _), e108_85, e108_87]
    rfl
  | cons x A IH =>
    intro E B c l6 hT hto
    subst hto
    have hTl : T.length = E.length + (A.length + 1 + B.length) := by rw [hT]; simp; omega
    have hE : ∀ y ∈ E, y.1 < 6 ∧ y.2 < 2048 := fun y hy => hTv y (by rw [hT]; simp [hy])
    have hx : x.1 < 6 ∧ x.2 < 2048 := hTv x (by rw [hT]; simp)
    have hfl := fin_lt hq hE
    have w := HW (Sho.fin q E) x.1 x.2 hfl hx.1 hx.2
    have n1 : ¬ Int32.ofNat (E.length + (x :: A).length) ≤ Int32.ofNat E.length := by
      rw [List.length_cons, oi_le (by omega) (by omega)]; omega
    have rk := kR_eq R.2.choose_spec.choose_spec.1.1
    have hT2 : T = (E ++ [x]) ++ (A ++ B) := by rw [hT]; simp
    have P2 := rt_poseE (L := L) (xs := xs) (k := k) R hT2
    rw [List.length_append, List.length_singleton, Sho.fin_app] at P2
    rw [e108_21, e108_23, e108_24, if_neg n1, e108_27, e108_28, e108_30 rk (by simp [Value.category]), rt_next R (E := E) (B := x :: A ++ B) hT]
    simp only [mAft, Option.toList_some, List.cons_append, List.nil_append]
    rw [show oI (Sho.hd (x :: (A ++ B))) = Int32.ofNat x.1 from rfl, e108_33, e108_35, e108_37, e108_38, e108_39, e108_41 rk (by simp [Value.category]), rt_poseE R hT]
    simp only [mAft, Option.toList_some, List.cons_append, List.nil_append]
    rw [e108_44, e108_46, e108_47, e108_49, e108_50, oi_succ, e108_51 rk (by simp [Value.category]), P2]
    simp only [mAft, Option.toList_some, List.cons_append, List.nil_append]
    rw [e108_54 (kR_eq H.1) (by simp [Value.category]), c_ofMove H.1 rfl rfl H.2.1 H.2.2.1 H.2.2.2]
    simp only [mAft, Option.toList_some, List.cons_append, List.nil_append]
    rw [show Sho.fin (Sho.fin q E) [x] = x.2 from rfl, w.1, e108_57, ← oi_add, e108_58, e108_60, e108_62, e108_63, e108_64, e108_66, e108_67, e108_68 rk (by simp [Value.category]), rt_prev R hT]
    simp only [mAft, Option.toList_some, List.cons_append, List.nil_append]
    rw [e108_71, e108_73 (kR_eq H.1) (by simp [Value.category]), show Int32.ofNat x.1 = oI (some x.1) from rfl, c_tcN (lst_lt hE) (fun m hm => by cases hm; exact hx.1) H]
    simp only [mAft, Option.toList_some, List.cons_append, List.nil_append]
    rw [e108_76, ← oi_add, e108_77, e108_79, oi_succ, e108_82]
    have := IH (E ++ [x]) B (c + wt (Sho.fin q E) x.1 x.2 + tcN cu (Sho.lst none E) (some x.1)) (some (.int (oI (some x.1)))) hT2 (by simp only [List.length_append, List.length_cons, List.length_nil]; omega)
    rw [List.length_append, List.length_singleton, lst_end, Sho.fin_app] at this
    refine this.trans ?_
    rw [show Sho.fin (Sho.fin q E) [x] = x.2 from rfl]
    simp only [mvW]
    rw [show c + wt (Sho.fin q E) x.1 x.2 + tcN cu (Sho.lst none E) (some x.1) + mvW wt (tcN cu) (some x.1) x.2 A = c + (wt (Sho.fin q E) x.1 x.2 + tcN cu (Sho.lst none E) (some x.1) + mvW wt (tcN cu) (some x.1) x.2 A) by omega]
end
