section
variable {L : Nat} {xs : Nat → Int32} {k : Nat} {h : List mCel}
/-- a route as a start pose and moves with the poses that they lead to; its rows have 64 * 2 ^ e places -/
def RT (rt pa ma e q : Nat) (T : List (Nat × Nat)) (h : List mCel) : Prop :=
  (e ≤ 11 ∧ T.length < 64 * 2 ^ e) ∧ ∃ fp fm, tG rt pa ma (64 * 2 ^ e) T.length fp fm h ∧ fp 0 = Int32.ofNat q ∧ ∀ i x, T[i]? = some x → fm i = Int32.ofNat x.1 ∧ fp (i + 1) = Int32.ofNat x.2
/-- cells kept but those of P, and new ones behind -/
def mExt (P : Nat → Prop) (h h' : List mCel) : Prop := h.length ≤ h'.length ∧ ∀ a, a < 8 + h.length → ¬ P a → mCell h' a = mCell h a
theorem ext_refl {P : Nat → Prop} {h : List mCel} : mExt P h h := ⟨Nat.le_refl _, fun _ _ _ => rfl⟩
theorem ext_trans {P : Nat → Prop} {h h' h'' : List mCel} (a : mExt P h h') (b : mExt P h' h'') : mExt P h h'' :=
  ⟨Nat.le_trans a.1 b.1, fun x hx hp => (b.2 x (by have := a.1; omega) hp).trans (a.2 x hx hp)⟩
theorem ext_mono {P Q : Nat → Prop} {h h' : List mCel} (a : mExt P h h') (hp : ∀ x, P x → Q x) : mExt Q h h' := ⟨a.1, fun x hx hq => a.2 x hx fun z => hq (hp x z)⟩
theorem ext_of {P : Nat → Prop} {h h' : List mCel} (K : mKeep P h h') : mExt P h h' := ⟨Nat.le_of_eq K.1.symm, fun a _ hp => K.2.2 a hp⟩
variable {rt pa ma e q : Nat} {T : List (Nat × Nat)}
theorem pow_le {e : Nat} (he : e ≤ 11) : 2 ^ e ≤ 2048 := by
  have := Nat.pow_le_pow_right (show 0 < 2 by decide) he
  simpa using this
theorem rt_cells (R : RT rt pa ma e q T h) : (8 ≤ rt ∧ rt < 8 + h.length) ∧ (8 ≤ pa ∧ pa < 8 + h.length) ∧ (8 ≤ ma ∧ ma < 8 + h.length) ∧ rt ≠ pa ∧ rt ≠ ma ∧ pa ≠ ma := by
  obtain ⟨_, fp, fm, ⟨t1, t2, t3, t4⟩, _, _⟩ := R
  have := cell_8 t1
  have := cell_8 t2
  have := cell_8 t3
  exact ⟨by omega, by omega, by omega, cell_ne t1 t2 (fun z => by cases z), cell_ne t1 t3 (fun z => by cases z), t4⟩
theorem rt_keep {h' : List mCel} {P : Nat → Prop} (R : RT rt pa ma e q T h) (K : mExt P h h') (h1 : ¬ P rt) (h2 : ¬ P pa) (h3 : ¬ P ma) : RT rt pa ma e q T h' := by
  have c := rt_cells R
  obtain ⟨r1, fp, fm, ⟨t1, t2, t3, t4⟩, r2, r3⟩ := R
  exact ⟨r1, fp, fm, ⟨(K.2 _ c.1.2 h1).trans t1, (K.2 _ c.2.1.2 h2).trans t2, (K.2 _ c.2.2.1.2 h3).trans t3, t4⟩, r2, r3⟩
theorem rt_poseAt (R : RT rt pa ma e q T h) {i : Nat} (hi : i ≤ T.length) : mW (mRo L xs) mTab 137 0 [some (.ref rt), some (.int (Int32.ofNat i))] [] h k = some (.inl (some (.int (Int32.ofNat (Sho.fin q (T.take i))))), h, k) := by
  obtain ⟨⟨r0, r1⟩, fp, fm, t, r2, r3⟩ := R
  have := pow_le r0
  rw [g_poseAt t (by omega) r1 hi]
  congr 6
  cases i with
  | zero => rw [List.take_zero]; exact r2
  | succ i =>
    have hl : i < T.length := hi
    rw [(r3 i _ (List.getElem?_eq_getElem hl)).2, List.take_succ_eq_append_getElem hl, Sho.fin_app]
    rfl
theorem rt_moveAt (R : RT rt pa ma e q T h) {i : Nat} {x : Nat × Nat} (hi : T[i]? = some x) : mW (mRo L xs) mTab 136 0 [some (.ref rt), some (.int (Int32.ofNat i))] [] h k = some (.inl (some (.int (Int32.ofNat x.1))), h, k) := by
  obtain ⟨⟨r0, r1⟩, fp, fm, t, r2, r3⟩ := R
  have := pow_le r0
  have hl := (List.getElem?_eq_some_iff.mp hi).1
  rw [g_moveAt t (by omega) r1 hl, (r3 i x hi).1]
theorem cpy_lt {f : Nat → Int32} {n i : Nat} (hi : i < n) : va_cpy f (fun _ => 0) 0 0 n i = f i := by
  unfold va_cpy
  simp [hi]
theorem kIS_int {a n : Nat} {f : Nat → Int32} {j : Int32} {q : Nat → (Nat → Int32) → Option mOut} (hc : mCell h a = some (.inl (0, n, .inl f))) (hj : 0 ≤ j.toInt ∧ j.toInt < n) : kIS h a j q = q n f := by
  unfold kIS
  rw [hc]
  exact if_pos hj
/-- a move added -/
theorem rt_add2 (R : RT rt pa ma e q T h) (hT : T.length + 1 < 131072) {m p : Nat} : ∃ h' pa' ma' e', mW (mRo L xs) mTab 124 0 [some (.ref rt), some (.int (Int32.ofNat m)), some (.int (Int32.ofNat p))] [] h k = some (.inl none, h', k) ∧
    RT rt pa' ma' e' q (T ++ [(m, p)]) h' ∧ e ≤ e' ∧ h'.length = h.length + 2 * (e' - e) ∧ hz h' + 256 * 2 ^ e = hz h + 256 * 2 ^ e' ∧ mExt (fun a => a = rt ∨ a = pa ∨ a = ma) h h' ∧
    (pa' = pa ∨ 8 + h.length ≤ pa') ∧ (ma' = ma ∨ 8 + h.length ≤ ma') ∧ (e' = e ∨ 64 * 2 ^ e ≤ T.length + 1 ∧ e' = e + 1) := by
  have cl := rt_cells R
  obtain ⟨⟨r0, r1⟩, fp, fm, t, r2, r3⟩ := R
  have hp2 := pow_le r0
  -- the grown route
  have key : ∃ h1 pa1 ma1 e1 fp1 fm1, mW (mRo L xs) mTab 131 0 [some (.ref rt)] [] h k = some (.inl none, h1, k) ∧ tG rt pa1 ma1 (64 * 2 ^ e1) T.length fp1 fm1 h1 ∧ e ≤ e1 ∧ e1 ≤ 11 ∧ T.length + 1 < 64 * 2 ^ e1 ∧
      h1.length = h.length + 2 * (e1 - e) ∧ hz h1 + 256 * 2 ^ e = hz h + 256 * 2 ^ e1 ∧ (∀ a, a < 8 + h.length → a ≠ rt → mCell h1 a = mCell h a) ∧ (pa1 = pa ∨ 8 + h.length ≤ pa1) ∧ (ma1 = ma ∨ 8 + h.length ≤ ma1) ∧
      (e1 = e ∨ 64 * 2 ^ e ≤ T.length + 1 ∧ e1 = e + 1) ∧ fp1 0 = Int32.ofNat q ∧ ∀ i x, T[i]? = some x → fm1 i = Int32.ofNat x.1 ∧ fp1 (i + 1) = Int32.ofNat x.2 := by
    by_cases hg : T.length + 1 < 64 * 2 ^ e
    · exact ⟨h, pa, ma, e, fp, fm, g_growNot t (by omega) hg, t, Nat.le_refl _, r0, hg, by omega, rfl, fun _ _ _ => rfl, Or.inl rfl, Or.inl rfl, Or.inl rfl, r2, r3⟩
    · have he : e < 11 := by
        rcases Nat.lt_or_ge e 11 with h0 | h0
        · exact h0
        · obtain rfl : e = 11 := by omega
          exact absurd (show T.length + 1 < 64 * 2 ^ 11 by omega) hg
      have hp3 : 2 ^ e ≤ 1024 := by
        have := Nat.pow_le_pow_right (show 0 < 2 by decide) (show e ≤ 10 by omega)
        simpa using this
      obtain ⟨h1, g1, g2, g3, g4, g5⟩ := g_grow (L := L) (xs := xs) (k := k) t (by omega) (show T.length + 1 = 64 * 2 ^ e by omega)
      have e2 : 2 * (64 * 2 ^ e) = 64 * 2 ^ (e + 1) := by rw [Nat.pow_succ]; omega
      rw [e2] at g2
      refine ⟨h1, _, _, e + 1, _, _, g1, g2, by omega, by omega, ?_, by omega, ?_, fun a h1 h2 => g5 a h1 h2, Or.inr (Nat.le_refl _), Or.inr (by omega), Or.inr ⟨by omega, rfl⟩, ?_, ?_⟩
      · rw [Nat.pow_succ]; omega
      · rw [g4, Nat.pow_succ]; omega
      · rw [cpy_lt (by omega)]; exact r2
      · intro i x hx
        have hl := (List.getElem?_eq_some_iff.mp hx).1
        rw [cpy_lt (by omega), cpy_lt (by omega)]
        exact r3 i x hx
  obtain ⟨h1, pa1, ma1, e1, fp1, fm1, k1, ⟨t1, t2, t3, t4⟩, k3, k4, k5, k6, k7, k8, k9, k10, k13, k11, k12⟩ := key
  have hp4 := pow_le k4
  have c1 := cell_8 t1
  have c2 := cell_8 t2
  have c3 := cell_8 t3
  have rp : rt ≠ pa1 := cell_ne t1 t2 (fun z => by cases z)
  have rm : rt ≠ ma1 := cell_ne t1 t3 (fun z => by cases z)
  have a0 : ¬ Int32.ofNat T.length < 0 := oi_nneg (by omega)
  have a1 : ¬ Int32.ofNat (64 * 2 ^ e1) ≤ Int32.ofNat T.length := by rw [oi_le (by omega) (by omega)]; omega
  have a2 : ¬ Int32.ofNat (64 * 2 ^ e1) ≤ Int32.ofNat (T.length + 1) := by rw [oi_le (by omega) (by omega)]; omega
  have j1 : 0 ≤ (Int32.ofNat (T.length + 1)).toInt ∧ (Int32.ofNat (T.length + 1)).toInt < (64 * 2 ^ e1 : Nat) := by rw [oi_int (by omega)]; omega
  have j2 : 0 ≤ (Int32.ofNat T.length).toInt ∧ (Int32.ofNat T.length).toInt < (64 * 2 ^ e1 : Nat) := by rw [oi_int (by omega)]; omega
  let P : mCel := .inl (0, 64 * 2 ^ e1, .inl (upd fp1 (T.length + 1) (Int32.ofNat p)))
  let M : mCel := .inl (0, 64 * 2 ^ e1, .inl (upd fm1 T.length (Int32.ofNat m)))
  let hA : List mCel := h1.set (pa1 - 8) P
  let hB : List mCel := hA.set (ma1 - 8) M
  have A1 : mCell hA rt = some (.inr (6, [.ref pa1, .ref ma1, .int (Int32.ofNat T.length)])) := (cell_setne (Ne.symm rp) c2.1).trans t1
  have A2 : mCell hA pa1 = some P := cell_set t2
  have A3 : mCell hA ma1 = some (.inl (0, 64 * 2 ^ e1, .inl fm1)) := (cell_setne t4 c2.1).trans t3
  have B1 : mCell hB rt = some (.inr (6, [.ref pa1, .ref ma1, .int (Int32.ofNat T.length)])) := (cell_setne (Ne.symm rm) c3.1).trans A1
  have B2 : mCell hB pa1 = some P := (cell_setne (Ne.symm t4) c3.1).trans A2
  have B3 : mCell hB ma1 = some M := cell_set A3
  refine ⟨hB.set (rt - 8) (.inr (6, [.ref pa1, .ref ma1, .int (Int32.ofNat (T.length + 1))])), pa1, ma1, e1, ?_, ⟨⟨k4, by rw [List.length_append]; exact k5⟩, upd fp1 (T.length + 1) (Int32.ofNat p), upd fm1 T.length (Int32.ofNat m), ⟨?_, (cell_setne rp c1.1).trans B2, (cell_setne rm c1.1).trans B3, t4⟩, ?_, ?_⟩, k3, ?_, ?_, ⟨?_, ?_⟩, k9, k10, k13⟩
  · rw [e124_0, e124_1 (kR_eq t.1) (by simp [Value.category]), k1]
    simp only [mAft, Option.toList_none, List.nil_append]
    rw [e124_4, e124_5, kF_eq t1 (v := .int (Int32.ofNat T.length)) rfl, e124_8, if_neg a0, e124_11, e124_12, kF_eq t1 (v := .int (Int32.ofNat T.length)) rfl, e124_15, e124_16, kF_eq t1 (v := .ref ma1) rfl, e124_19, kAL_int t3, e124_20, if_neg a1, e124_23, e124_24, kF_eq t1 (v := .int (Int32.ofNat T.length)) rfl, e124_27, e124_28, oi_succ, e124_29, e124_30, kF_eq t1 (v := .ref pa1) rfl, e124_33, kAL_int t2, e124_34, if_neg a2, e124_37, e124_38, kF_eq t1 (v := .ref pa1) rfl, e124_41, e124_42, kF_eq t1 (v := .int (Int32.ofNat T.length)) rfl, e124_45, e124_46, oi_succ, e124_47, e124_48, kIS_int t2 j1, oi_nat (show T.length + 1 < 2 ^ 31 by omega)]
    show mW (mRo L xs) mTab 124 49 _ [] hA k = _
    rw [e124_49, e124_50, kF_eq A1 (v := .ref ma1) rfl, e124_53, e124_54, kF_eq A1 (v := .int (Int32.ofNat T.length)) rfl, e124_57, e124_58, kIS_int A3 j2, oi_nat (show T.length < 2 ^ 31 by omega)]
    show mW (mRo L xs) mTab 124 59 _ [] hB k = _
    rw [e124_59, e124_60r, e124_61, kF_eq B1 (v := .int (Int32.ofNat T.length)) rfl, e124_64, e124_65, oi_succ, e124_66, kP_eq B1 (by simp), e124_69]
    rfl
  · rw [cell_set B1, List.length_append]; rfl
  · unfold upd; rw [if_neg (by omega)]; exact k11
  · intro i x hx
    rcases Nat.lt_or_ge i T.length with hi | hi
    · rw [List.getElem?_append_left hi] at hx
      have := k12 i x hx
      refine ⟨?_, ?_⟩
      · unfold upd; rw [if_neg (by omega)]; exact this.1
      · unfold upd; rw [if_neg (by omega)]; exact this.2
    · have hl := (List.getElem?_eq_some_iff.mp hx).1
      rw [List.length_append, List.length_singleton] at hl
      obtain rfl : i = T.length := by omega
      rw [List.getElem?_append_right (Nat.le_refl _), Nat.sub_self] at hx
      cases hx
      exact ⟨by unfold upd; rw [if_pos rfl], by unfold upd; rw [if_pos rfl]⟩
  · simp [hB, hA, k6]
  · have z1 := hz_set h1 (pa1 - 8) P _ (xW_cell (κ := id) (ρ := id) t2).2.2 rfl
    have z2 := hz_set hA (ma1 - 8) M _ (xW_cell (κ := id) (ρ := id) A3).2.2 rfl
    have z3 := hz_set hB (rt - 8) (.inr (6, [.ref pa1, .ref ma1, .int (Int32.ofNat (T.length + 1))])) _ (xW_cell (κ := id) (ρ := id) B1).2.2 rfl
    rw [z3, z2, z1]
    exact k7
  · simp [hB, hA, k6]
  · intro a ha hn
    have n1 : a ≠ rt := fun z => hn (Or.inl z)
    have n2 : a ≠ pa1 := fun z => by rcases k9 with w | w; exact hn (Or.inr (Or.inl (z.trans w))); omega
    have n3 : a ≠ ma1 := fun z => by rcases k10 with w | w; exact hn (Or.inr (Or.inr (z.trans w))); omega
    exact (cell_setne (Ne.symm n1) c1.1).trans ((cell_setne (Ne.symm n3) c3.1).trans ((cell_setne (Ne.symm n2) c2.1).trans (k8 a ha n1)))
theorem rt_add (R : RT rt pa ma e q T h) (hT : T.length + 1 < 131072) {m p : Nat} : ∃ h' pa' ma' e', mW (mRo L xs) mTab 124 0 [some (.ref rt), some (.int (Int32.ofNat m)), some (.int (Int32.ofNat p))] [] h k = some (.inl none, h', k) ∧
    RT rt pa' ma' e' q (T ++ [(m, p)]) h' ∧ e ≤ e' ∧ h'.length = h.length + 2 * (e' - e) ∧ hz h' + 256 * 2 ^ e = hz h + 256 * 2 ^ e' ∧ mExt (fun a => a = rt ∨ a = pa ∨ a = ma) h h' ∧
    (pa' = pa ∨ 8 + h.length ≤ pa') ∧ (ma' = ma ∨ 8 + h.length ≤ ma') := by
  obtain ⟨h', pa', ma', e', a1, a2, a3, a4, a5, a6, a7, a8, _⟩ := rt_add2 (L := L) (xs := xs) (k := k) R hT (m := m) (p := p)
  exact ⟨h', pa', ma', e', a1, a2, a3, a4, a5, a6, a7, a8⟩
end
