section
variable {fo : Nat → Int32}
theorem ended_eq {p m : Int32} (h : ¬ pDr fo p m = -1) : pEnded p m = pDr fo p m := by
  unfold pDr at h ⊢
  unfold pEnded
  by_cases c : ¬ pOpen fo p ∨ ¬ pOpen fo (pStepped p (pWay m))
  · rw [if_pos c] at h; exact absurd rfl h
  · rw [if_neg c] at h ⊢
    have c2 : pOpen fo (pStepped p (pWay m)) := Classical.byContradiction fun z => c (Or.inr z)
    have ne : ¬ pStepped p (pWay m) = -1 := fun z => by rw [z] at c2; exact open_neg c2
    have ew : (if m < 3 then (1 : Int32) else -1) = pWay m := rfl
    rw [ew]
    by_cases s : m = 0 ∨ m = 3
    · rw [if_pos s, if_pos (Or.inr s)]
    · rw [if_neg s] at h ⊢
      rw [if_neg (fun z => z.elim ne s)]
      by_cases o : pOpen fo (pTurned (pStepped p (pWay m)) m) ∧ pOpen fo (pStepped (pTurned (pStepped p (pWay m)) m) (pWay m))
      · rw [if_pos o]
      · rw [if_neg o] at h; exact absurd rfl h
end
section
variable {L : Nat} {xs : Nat → Int32} {k : Nat} {h : List mCel} {rt pa ma e0 q : Nat} {T : List (Nat × Nat)}
variable {F P W rs sh ar : Nat} {fo : Nat → Int32} {e : Nat → Nat → Nat} {s : wS}
theorem rt_lastPose (R : RT rt pa ma e0 q T h) : mW (mRo L xs) mTab 135 0 [some (.ref rt)] [] h k = some (.inl (some (.int (Int32.ofNat (Sho.fin q T)))), h, k) := by
  have t := R.2.choose_spec.choose_spec.1
  rw [e135_0, e135_1, e135_2, kF_eq t.1 (v := .int (Int32.ofNat T.length)) rfl, e135_5 (kR_eq t.1) (by simp), rt_poseAt R (Nat.le_refl _), List.take_length]
  simp only [mAft, Option.toList_some, List.cons_append, List.nil_append]
  rw [e135_8]
theorem put_loop (HE : geoE fo e) (hs : wIn s) (hq : q < 2048) {l2 l3 : Option Value} : ∀ (ws : List Nat) (i : Nat) (T1 Q : List (Nat × Nat)) (pa ma e1 : Nat) (h : List mCel) (l5 : Option Value),
    (wMv s).drop i = ws → i ≤ (wMv s).length → RT rt pa ma e1 q T1 h → (∀ x ∈ T1, x.1 < 6 ∧ x.2 < 2048) → Sho.fol (drE e) (Sho.fin q T1) ws = some Q → T1.length + Q.length < 131072 →
    mCell h sh = some (.inr (7, [.ref F, .ref P, .ref W, .ref rs])) → mCell h W = some (wC ar s) → sh ≠ rt ∧ sh ≠ pa ∧ sh ≠ ma ∧ W ≠ rt ∧ W ≠ pa ∧ W ≠ ma →
    ∃ h' pa' ma' e' l5', mW (mRo L xs) mTab 142 29 [some (.ref sh), some (.ref rt), l2, l3, some (.int (Int32.ofNat i)), l5] [] h k = mW (mRo L xs) mTab 142 73 [some (.ref sh), some (.ref rt), l2, l3, some (.int (Int32.ofNat (wMv s).length)), l5'] [] h' k ∧
      RT rt pa' ma' e' q (T1 ++ Q) h' ∧ e1 ≤ e' ∧ h'.length = h.length + 2 * (e' - e1) ∧ hz h' + 256 * 2 ^ e1 = hz h + 256 * 2 ^ e' ∧ mExt (fun a => a = rt ∨ a = pa ∨ a = ma) h h' ∧
      (pa' = pa ∨ 8 + h.length ≤ pa') ∧ (ma' = ma ∨ 8 + h.length ≤ ma') := by
  have hwl : (wMv s).length ≤ 29 := by
    unfold wMv
    obtain ⟨_, b2, b3, b4⟩ := hs
    split
    · simp
    · simp only [List.length_append, List.length_replicate]; omega
  intro ws
  induction ws with
  | nil =>
    intro i T1 Q pa ma e1 h l5 hd hi R hT1 hQ hlen Hs HW hne
    have hi2 : i = (wMv s).length := by
      have := congrArg List.length hd
      simp only [List.length_drop, List.length_nil] at this
      omega
    subst hi2
    simp only [Sho.fol, Option.some.injEq] at hQ
    subst hQ
    refine ⟨h, pa, ma, e1, l5, ?_, by rw [List.append_nil]; exact R, Nat.le_refl _, by omega, rfl, ext_refl, Or.inl rfl, Or.inl rfl⟩
    rw [e142_29, e142_31, e142_32, kF_eq Hs (v := .ref W) rfl, e142_35 (kR_eq HW) (by simp [Value.category]), c_wLen HW hs]
    simp only [mAft, Option.toList_some, List.cons_append, List.nil_append]
    rw [e142_38, if_pos (Int32.le_refl _)]
  | cons m ws IH =>
    intro i T1 Q pa ma e1 h l5 hd hi R hT1 hQ hlen Hs HW hne
    have him : (wMv s)[i]? = some m := by
      have := congrArg (fun z => z[0]?) hd
      simpa [List.getElem?_drop] using this
    have hil := (List.getElem?_eq_some_iff.mp him).1
    have hm3 : m < 3 := wMv_fw m (List.mem_of_getElem? him)
    have n1 : ¬ Int32.ofNat (wMv s).length ≤ Int32.ofNat i := by rw [oi_le (by omega) (by omega)]; omega
    have hp := fin_lt hq hT1
    have g := HE (Sho.fin q T1) m hp (by omega)
    have hz : e (Sho.fin q T1) m ≠ 0 := by
      intro z
      simp only [Sho.fol, drE, if_pos z] at hQ
      cases hQ
    simp only [Sho.fol, drE, if_neg hz] at hQ
    have hx : e (Sho.fin q T1) m - 1 < 2048 := by omega
    obtain ⟨Q', hQ', rfl⟩ : ∃ Q', Sho.fol (drE e) (e (Sho.fin q T1) m - 1) ws = some Q' ∧ (m, e (Sho.fin q T1) m - 1) :: Q' = Q := by
      cases hf : Sho.fol (drE e) (e (Sho.fin q T1) m - 1) ws with
      | none => rw [hf] at hQ; cases hQ
      | some Q' => rw [hf] at hQ; cases hQ; exact ⟨Q', rfl, rfl⟩
    have hen : pEnded (Int32.ofNat (Sho.fin q T1)) (Int32.ofNat m) = Int32.ofNat (e (Sho.fin q T1) m - 1) := by
      rw [ended_eq (fo := fo) (by rw [g.1]; exact fun z => hz ((enc_eq (by omega)).mp z)), g.1]
      obtain ⟨y, hy⟩ : ∃ y, e (Sho.fin q T1) m = y + 1 := ⟨e (Sho.fin q T1) m - 1, by omega⟩
      rw [hy]; unfold qDec; rw [if_neg (by decide), oi_pred, Nat.add_sub_cancel]
    have rk := kR_eq R.2.choose_spec.choose_spec.1.1
    have cl := rt_cells R
    rw [List.length_cons] at hlen
    obtain ⟨h1, pa1, ma1, e2, A1, A2, A3, A4, A5, A6, A7, A8⟩ := rt_add (L := L) (xs := xs) (k := k) R (m := m) (p := e (Sho.fin q T1) m - 1) (by omega)
    have s8 := cell_8 Hs
    have w8 := cell_8 HW
    have Hs1 := (A6.2 sh (by omega) (fun z => by rcases z with z | z | z <;> omega)).trans Hs
    have HW1 := (A6.2 W (by omega) (fun z => by rcases z with z | z | z <;> omega)).trans HW
    have hd2 : (wMv s).drop (i + 1) = ws := by
      have := congrArg List.tail hd
      rwa [List.tail_drop] at this
    have hT2 : ∀ x ∈ T1 ++ [(m, e (Sho.fin q T1) m - 1)], x.1 < 6 ∧ x.2 < 2048 := by
      intro x hx'
      rcases List.mem_append.mp hx' with h9 | h9
      · exact hT1 x h9
      · rw [List.mem_singleton.mp h9]; exact ⟨by show m < 6; omega, hx⟩
    have ne2 : sh ≠ rt ∧ sh ≠ pa1 ∧ sh ≠ ma1 ∧ W ≠ rt ∧ W ≠ pa1 ∧ W ≠ ma1 := by
      rcases A7 with w | w <;> rcases A8 with w2 | w2 <;> omega
    obtain ⟨h2, pa3, ma3, e3, l9, B1, B2, B3, B4, B5, B6, B7, B8⟩ := IH (i + 1) (T1 ++ [(m, e (Sho.fin q T1) m - 1)]) Q' pa1 ma1 e2 h1 (some (.int (Int32.ofNat m))) hd2 (by omega) A2 hT2 (by rw [Sho.fin_app]; exact hQ') (by rw [List.length_append, List.length_singleton]; omega) Hs1 HW1 ne2
    refine ⟨h2, pa3, ma3, e3, l9, ?_, by rw [List.append_assoc] at B2; exact B2, by omega, by omega, by omega, ⟨Nat.le_trans A6.1 B6.1, fun x hx' hp' => (B6.2 x (by have := A6.1; omega) (fun z => by
      rcases z with z | z | z
      · exact hp' (Or.inl z)
      · rcases A7 with w | w
        · exact hp' (Or.inr (Or.inl (z.trans w)))
        · omega
      · rcases A8 with w | w
        · exact hp' (Or.inr (Or.inr (z.trans w)))
        · omega)).trans (A6.2 x hx' hp')⟩, ?_, ?_⟩
    · rw [e142_29, e142_31, e142_32, kF_eq Hs (v := .ref W) rfl, e142_35 (kR_eq HW) (by simp [Value.category]), c_wLen HW hs]
      simp only [mAft, Option.toList_some, List.cons_append, List.nil_append]
      rw [e142_38, if_neg n1, e142_41, e142_42, kF_eq Hs (v := .ref W) rfl, e142_45, e142_47 (kR_eq HW) (by simp [Value.category]), c_wMove HW hs him]
      simp only [mAft, Option.toList_some, List.cons_append, List.nil_append]
      rw [e142_50, e142_52, e142_53, e142_55, e142_56 rk (by simp [Value.category]), rt_lastPose R]
      simp only [mAft, Option.toList_some, List.cons_append, List.nil_append]
      rw [e142_59, e142_61 (by simp [Value.category]), c_ended, hen]
      simp only [mAft, Option.toList_some, List.cons_append, List.nil_append]
      rw [e142_64 rk (by simp), A1]
      simp only [mAft, Option.toList_none, List.nil_append]
      rw [e142_67, oi_succ, e142_70]
      exact B1
    · have := A6.1; rcases B7 with w | w
      · rw [w]; exact A7
      · exact Or.inr (by omega)
    · have := A6.1; rcases B8 with w | w
      · rw [w]; exact A8
      · exact Or.inr (by omega)
end
