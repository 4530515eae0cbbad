section
variable {L : Nat} {xs : Nat → Int32} {k : Nat} {rt pa ma e0 q : Nat} {T : List (Nat × Nat)}
variable {F P W rs sh ar ax ay cl op cu pr mr er qr : Nat} {Tr : List (Nat × Nat)} {fF : List Value} {fc fo fX fY : Nat → Int32} {mg : Int32} {wt : Nat → Nat → Nat → Nat} {e : Nat → Nat → Nat}
theorem sv_kept {X : List (Nat × Nat)} {h h' : List mCel} {pa' ma' e' pr' mr' er' qr' : Nat} {Tr' : List (Nat × Nat)} {s' : wS} {c : mCel} (V : svO rt pa ma e0 q rs pr mr er W ar X h h' pa' ma' e' pr' mr' er' qr' Tr' s') {x : Nat} (hx : mCell h x = some c)
    (h1 : ∀ a, a ∈ [rt, pa, ma, rs, pr, mr] → a ≠ x) (h2 : W ≠ x) : mCell h' x = some c := by
  have x8 := cell_8 hx
  refine (V.2.2.2.2.2.2.1.2 x (by omega) (fun z => ?_)).trans hx
  rcases z with (z | z) | z
  · rcases z with z | z | z <;> exact h1 _ (by simp) z.symm
  · rcases z with z | z | z <;> exact h1 _ (by simp) z.symm
  · exact h2 z.symm
theorem c_saveOn (HE : geoE fo e) (HW0 : geoW fc mg wt) (hcu : cu ≤ 100) (hq : q < 2048) (S : ShoH (drE e) wWd (ocE e wt) (tcN cu)) (nW : Dj [W] [sh, F, P, cl, op, ar, ax, ay]) {h : List mCel} {s : wS}
    (hTv : ∀ x ∈ T, x.1 < 6 ∧ x.2 < 2048) (hV : Sho.Val (drE e) q T) (D1 : rs ≠ rt ∧ rs ≠ pa ∧ rs ≠ ma ∧ pr ≠ rt ∧ pr ≠ pa ∧ pr ≠ ma ∧ mr ≠ rt ∧ mr ≠ pa ∧ mr ≠ ma) (D2 : Dj [rt, pa, ma, rs, pr, mr] [sh, W, F, P, cl, op, ar, ax, ay])
    (R : RT rt pa ma e0 q T h) (Rs : RT rs pr mr er qr Tr h) (H : swH sh F P W rs cl op cu ar mg fF fc fo s h) (A : aH ar ax ay fX fY h) (hs : wIn s) (hs1 : s.1 ≤ 536870912)
    (hpk : ∀ n, Sho.pk (drE e) wWd (ocE e wt) (tcN cu) n 0 none q T < 131072) :
    ∃ n X h' pa' ma' e' pr' mr' er' qr' Tr' s', mW (mRo L xs) mTab 144 0 [some (.ref sh), some (.ref rt), none, none] [] h k = some (.inl (some (.int (Int32.ofNat (mvW wt (tcN cu) none q T - mvW wt (tcN cu) none q X)))), h', k) ∧
      svO rt pa ma e0 q rs pr mr er W ar X h h' pa' ma' e' pr' mr' er' qr' Tr' s' ∧ X = Sho.shr (drE e) wWd (ocE e wt) (tcN cu) n none q T ∧
      Sho.Val (drE e) q X ∧ (∀ x ∈ X, x.1 < 6 ∧ x.2 < 2048) ∧ Sho.fin q X = Sho.fin q T ∧ mvW wt (tcN cu) none q X ≤ mvW wt (tcN cu) none q T := by
  obtain ⟨n, X, h', pa', ma', e', pr', mr', er', qr', Tr', s', v, a1, a2, a3, a4, a5, a6, a7⟩ := save_on (L := L) (xs := xs) (k := k) HE HW0 hcu hq S nW (Int32.ofNat (mvW wt (tcN cu) none q T)) 131072 [] T T h s pa ma e0 pr mr er qr Tr (by simp) (by simp) hTv hV D1 D2 R Rs H A hs hs1 hpk
  rw [Sho.cw, Sho.cw, tcN_none, tcN_none, Nat.add_zero, Nat.add_zero, ← mv_eq X _ _ a4, ← mv_eq T _ _ hV] at a7
  refine ⟨n, X, h', pa', ma', e', pr', mr', er', qr', Tr', s', ?_, a2, a3, a4, a5, a6, a7⟩
  have kp : ∀ x c, x ∈ [sh, F, P, cl, op, ar, ax, ay] → mCell h x = some c → mCell h' x = some c := fun x c hx hc => sv_kept a2 hc (fun a ha => D2 a ha x (by simp only [List.mem_cons, List.not_mem_nil, or_false] at hx ⊢; omega)) (nW W (by simp) x hx)
  have H' : pcH P F cl cu mg fF fc h' := ⟨kp _ _ (by simp) H.2.1.1, kp _ _ (by simp) H.2.1.2.1, H.2.1.2.2.1, kp _ _ (by simp) H.2.1.2.2.2⟩
  have c1 := rt_cost (L := L) (xs := xs) (k := k) H.2.1 HW0 hcu hq R hTv
  have c2 := rt_cost (L := L) (xs := xs) (k := k) H' HW0 hcu hq a2.1 a5
  rw [e144_0, e144_1, kF_eq H.1 (v := .ref P) rfl, e144_4, e144_5 (kR_eq H.2.1.1) (by simp [Value.category]), c1]
  simp only [mAft, Option.toList_some, List.cons_append, List.nil_append]
  rw [e144_8, e144_9, e144_10]
  refine a1.trans ?_
  rw [e144_37, e144_38, e144_39, kF_eq (kp _ _ (by simp) H.1) (v := .ref P) rfl, e144_42, e144_43 (kR_eq H'.1) (by simp [Value.category]), c2]
  simp only [mAft, Option.toList_some, List.cons_append, List.nil_append]
  rw [e144_46, e144_47]
  have hsub : Int32.ofNat (mvW wt (tcN cu) none q T) - Int32.ofNat (mvW wt (tcN cu) none q X) = Int32.ofNat (mvW wt (tcN cu) none q T - mvW wt (tcN cu) none q X) := by
    have e1 : mvW wt (tcN cu) none q T = (mvW wt (tcN cu) none q T - mvW wt (tcN cu) none q X) + mvW wt (tcN cu) none q X := by omega
    conv => lhs; rw [e1, oi_add]
    exact Int32.add_sub_cancel _ _
  rw [hsub]
end
