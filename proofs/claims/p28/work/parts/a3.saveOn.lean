section
variable {L : Nat} {xs : Nat → Int32} {k : Nat} {rt pa ma e0 q : Nat} {T : List (Nat × Nat)}
variable {F P W rs sh ar ax ay cl op cu pr mr er qr : Nat} {Tr : List (Nat × Nat)} {fF : List Value} {fc fo fX fY : Nat → Int32} {mg : Int32} {wt : Nat → Nat → Nat → Nat} {e : Nat → Nat → Nat}
/-- what words and moves are to each other -/
def ShoH (dr : Nat → Nat → Option Nat) (wd : Nat → Nat → Option (List Nat)) (oc : Nat → Nat → Nat) (tu : Option Nat → Option Nat → Nat) : Prop :=
  (∀ q, wd q q = some []) ∧ (∀ a c m, tu a c ≤ tu a (some m) + tu (some m) c) ∧ (∀ q m, 0 < oc q m) ∧ (∀ q m e, dr q m = some e → e ≠ q) ∧ (∀ q p ws P, wd q p = some ws → Sho.fol dr q ws = some P → Sho.fin q P = p)
theorem stp_more {dr : Nat → Nat → Option Nat} {wd : Nat → Nat → Option (List Nat)} {oc : Nat → Nat → Nat} {tu : Option Nat → Option Nat → Nat} (S : ShoH dr wd oc tu) (l : Option Nat) (q : Nat) (T : List (Nat × Nat)) (hV : Sho.Val dr q T) :
    Sho.Val dr q (Sho.stp dr wd oc tu l q T) ∧ Sho.fin q (Sho.stp dr wd oc tu l q T) = Sho.fin q T ∧ Sho.cw oc tu l q (Sho.stp dr wd oc tu l q T) none ≤ Sho.cw oc tu l q T none := by
  obtain ⟨R0, R1, U1, hR, hT, E1, E2, E3, E4, E5, hk⟩ := Sho.step_facts dr wd oc tu S.1 S.2.1 S.2.2.1 S.2.2.2.1 S.2.2.2.2 l q [] T hV
  rw [List.nil_append] at hT E1
  rw [hT, hR]
  refine ⟨E5, ?_, ?_⟩
  · rw [Sho.fin_app, Sho.fin_app, E1]
  · have := E2 R1 [] (by simp)
    rw [List.nil_append] at this
    exact this
theorem tcN_none {cu : Nat} (a : Option Nat) : tcN cu a none = 0 := by cases a <;> rfl
theorem stp_stJ {e : Nat → Nat → Nat} {wt : Nat → Nat → Nat → Nat} {cu : Nat} {l : Option Nat} {q : Nat} {A0 : List (Nat × Nat)} : stJ e wt cu l q A0 A0.length = Sho.stp (drE e) wWd (ocE e wt) (tcN cu) l q A0 := by
  unfold stJ Sho.stp
  rfl
theorem val_ok {fo : Nat → Int32} (HE : geoE fo e) : ∀ (A : List (Nat × Nat)) (q : Nat), q < 2048 → Sho.Val (drE e) q A → (∀ x ∈ A, x.1 < 6) → ∀ x ∈ A, x.1 < 6 ∧ x.2 < 2048
  | [], _, _, _, _ => fun x hx => (List.not_mem_nil hx).elim
  | a :: A, q, hq, hv, hm => by
    obtain ⟨h1, h2⟩ := hv
    have h6 := hm a List.mem_cons_self
    have g := (HE q a.1 hq h6).2
    have h3 : a.2 < 2048 := by
      unfold drE at h1
      split at h1
      · cases h1
      · have := Option.some.inj h1
        omega
    intro x hx
    rcases List.mem_cons.mp hx with z | z
    · rw [z]; exact ⟨h6, h3⟩
    · exact val_ok HE A a.2 h3 h2 (fun y hy => hm y (List.mem_cons_of_mem _ hy)) x z
/-- moves of what a step leaves -/
theorem stp_moves {dr : Nat → Nat → Option Nat} {oc : Nat → Nat → Nat} {tu : Option Nat → Option Nat → Nat} (l : Option Nat) (q : Nat) (T : List (Nat × Nat)) (hT : ∀ x ∈ T, x.1 < 6) : ∀ x ∈ Sho.stp dr wWd oc tu l q T, x.1 < 6 := by
  rcases Sho.stp_cases dr wWd oc tu l q T with ⟨h1, _⟩ | ⟨A, B, P, h1, h2, h3, h4, _⟩
  · rw [h1]; exact hT
  · rw [h4]
    obtain ⟨ws, g1, g2, _⟩ := Sho.tryW_some h3
    have g3 := (Sho.fol_val dr q ws P g2).2
    intro x hx
    rcases List.mem_append.mp hx with z | z
    · have : x.1 ∈ ws := by rw [g3]; exact List.mem_map_of_mem z
      unfold wWd at g1
      split at g1
      · cases g1
      · rw [← Option.some.inj g1] at this
        exact Nat.lt_trans (wMv_fw _ this) (by decide)
    · exact hT x (by rw [h1]; exact List.mem_append_right _ z)
theorem save_on (HE : geoE fo e) (HW0 : geoW fc mg wt) (hcu : cu ≤ 100) (hq : q < 2048) (S : ShoH (drE e) wWd (ocE e wt) (tcN cu)) (nW : Dj [W] [sh, F, P, cl, op, ar, ax, ay]) (l2 : Int32) :
    ∀ (d : Nat) (E A0 : List (Nat × Nat)) (T : List (Nat × Nat)) (h : List mCel) (s : wS) (pa ma e0 pr mr er qr : Nat) (Tr : List (Nat × Nat)), E.length + d = 131072 → T = E ++ A0 → (∀ x ∈ T, x.1 < 6 ∧ x.2 < 2048) → Sho.Val (drE e) q T →
      rs ≠ rt ∧ rs ≠ pa ∧ rs ≠ ma ∧ pr ≠ rt ∧ pr ≠ pa ∧ pr ≠ ma ∧ mr ≠ rt ∧ mr ≠ pa ∧ mr ≠ ma → Dj [rt, pa, ma, rs, pr, mr] [sh, W, F, P, cl, op, ar, ax, ay] →
      RT rt pa ma e0 q T h → RT rs pr mr er qr Tr h → swH sh F P W rs cl op cu ar mg fF fc fo s h → aH ar ax ay fX fY h → wIn s → s.1 ≤ 536870912 →
      (∀ n, Sho.pk (drE e) wWd (ocE e wt) (tcN cu) n E.length (Sho.lst none E) (Sho.fin q E) A0 < 131072) →
      ∃ n X h' pa' ma' e' pr' mr' er' qr' Tr' s' v, mW (mRo L xs) mTab 144 11 [some (.ref sh), some (.ref rt), some (.int l2), some (.int (Int32.ofNat E.length))] [] h k = mW (mRo L xs) mTab 144 37 [some (.ref sh), some (.ref rt), some (.int l2), some v] [] h' k ∧
        svO rt pa ma e0 q rs pr mr er W ar X h h' pa' ma' e' pr' mr' er' qr' Tr' s' ∧ X = E ++ Sho.shr (drE e) wWd (ocE e wt) (tcN cu) n (Sho.lst none E) (Sho.fin q E) A0 ∧
        Sho.Val (drE e) q X ∧ (∀ x ∈ X, x.1 < 6 ∧ x.2 < 2048) ∧ Sho.fin q X = Sho.fin q T ∧ Sho.cw (ocE e wt) (tcN cu) none q X none ≤ Sho.cw (ocE e wt) (tcN cu) none q T none := by
  intro d
  induction d with
  | zero =>
    intro E A0 T h s pa ma e0 pr mr er qr Tr hd hT hTv hV D1 D2 R Rs H A hs hs1 hpk
    have := hpk 0
    rw [Sho.pk] at this
    omega
  | succ d IH =>
    intro E A0 T h s pa ma e0 pr mr er qr Tr hd hT hTv hV D1 D2 R Rs H A hs hs1 hpk
    have nrt : ∀ a, a ∈ [rt, pa, ma, rs, pr, mr] → ¬ a = W := fun a ha => D2 a ha W (by simp)
    have hTl : T.length < 131072 := by have := R.1; have := pow_le R.1.1; omega
    have hEl : T.length = E.length + A0.length := by rw [hT, List.length_append]
    have mi : (1000000 : Int32) = Int32.ofNat 1000000 := rfl
    have n1 : ¬ (1000000 : Int32) ≤ Int32.ofNat E.length := by rw [mi, oi_le (by decide) (by omega)]; omega
    have rk := kR_eq R.2.choose_spec.choose_spec.1.1
    have cnt := rt_count (L := L) (xs := xs) (k := k) R
    by_cases hA : A0 = []
    · subst hA
      rw [List.append_nil] at hT
      refine ⟨0, T, h, pa, ma, e0, pr, mr, er, qr, Tr, s, .int (Int32.ofNat E.length), ?_, sv_refl R Rs keep_refl H.2.2.2.2 hs hs1 (nrt _ (by simp)) (nrt _ (by simp)) (nrt _ (by simp)) (nrt _ (by simp)) (nrt _ (by simp)) (nrt _ (by simp)) ⟨D1.2.2.2.2.1, D1.2.2.2.2.2.1, D1.2.2.2.2.2.2.2.1, D1.2.2.2.2.2.2.2.2⟩, by rw [Sho.shr, List.append_nil]; exact hT, hV, hTv, rfl, Nat.le_refl _⟩
      rw [e144_11, e144_12, e144_14, if_neg n1, e144_17, e144_18, e144_19 rk (by simp [Value.category]), cnt]
      simp only [mAft, Option.toList_some, List.cons_append, List.nil_append]
      rw [e144_22, if_pos (by rw [oi_le (by omega) (by omega)]; rw [hT]; exact Nat.le_refl _)]
    have hA1 : 0 < A0.length := List.length_pos_iff.mpr hA
    have hVE := (Sho.val_app (drE e) q E A0).1 (hT ▸ hV)
    obtain ⟨sv1, sv2, sv3⟩ := stp_more S (Sho.lst none E) (Sho.fin q E) A0 hVE.2
    have sv4 := stp_moves (dr := drE e) (oc := ocE e wt) (tu := tcN cu) (Sho.lst none E) (Sho.fin q E) A0 (fun x hx => (hTv x (by rw [hT]; exact List.mem_append_right _ hx)).1)
    have hE : ∀ y ∈ E, y.1 < 6 ∧ y.2 < 2048 := fun y hy => hTv y (by rw [hT]; exact List.mem_append_left _ hy)
    have q0 : Sho.fin q E < 2048 := fin_lt hq hE
    have p1 := hpk 1
    have p2 : ∀ n, Sho.pk (drE e) wWd (ocE e wt) (tcN cu) (n + 1) E.length (Sho.lst none E) (Sho.fin q E) A0 < 131072 := fun n => hpk (n + 1)
    have sh2 : ∀ n, Sho.shr (drE e) wWd (ocE e wt) (tcN cu) (n + 1) (Sho.lst none E) (Sho.fin q E) A0 = (match Sho.stp (drE e) wWd (ocE e wt) (tcN cu) (Sho.lst none E) (Sho.fin q E) A0 with
      | [] => []
      | a :: T' => a :: Sho.shr (drE e) wWd (ocE e wt) (tcN cu) n (some a.1) a.2 T') := fun n => by rw [Sho.shr]; rfl
    unfold Sho.pk at p1 p2
    have hsl : E.length + (Sho.stp (drE e) wWd (ocE e wt) (tcN cu) (Sho.lst none E) (Sho.fin q E) A0).length < 131072 := by
      revert p1
      generalize Sho.stp (drE e) wWd (ocE e wt) (tcN cu) (Sho.lst none E) (Sho.fin q E) A0 = Z
      intro p1
      cases Z with
      | nil => rw [List.length_nil]; omega
      | cons a Z => dsimp only at p1; rw [List.length_cons]; exact Nat.lt_of_le_of_lt (Nat.le_max_left _ _) p1
    obtain ⟨h1, pa1, ma1, e1, pr1, mr1, er1, q1, T1, s1, b1, b2⟩ := save_loop (L := L) (xs := xs) (k := k) HE HW0 hcu hq hT hTv hVE.2 D1 (fun a ha b hb => D2 a ha b (by
        rcases List.mem_cons.mp hb with z | z
        · rw [z]; simp
        · rw [List.mem_singleton.mp z]; simp)) nW A0.length h s none (Nat.le_refl _) R Rs H A hs hs1 (by rw [stp_stJ]; exact hsl)
    rw [stp_stJ] at b2
    revert b2 sv1 sv2 sv3 sv4 p2 sh2
    generalize Sho.stp (drE e) wWd (ocE e wt) (tcN cu) (Sho.lst none E) (Sho.fin q E) A0 = Z
    intro sv1 sv2 sv3 sv4 sh2 p2 b2
    have call : mW (mRo L xs) mTab 144 11 [some (.ref sh), some (.ref rt), some (.int l2), some (.int (Int32.ofNat E.length))] [] h k = mW (mRo L xs) mTab 144 11 [some (.ref sh), some (.ref rt), some (.int l2), some (.int (Int32.ofNat (E.length + 1)))] [] h1 k := by
      rw [e144_11, e144_12, e144_14, if_neg n1, e144_17, e144_18, e144_19 rk (by simp [Value.category]), cnt]
      simp only [mAft, Option.toList_some, List.cons_append, List.nil_append]
      rw [e144_22, if_neg (by rw [oi_le (by omega) (by omega)]; omega), e144_25, e144_26, e144_27, e144_28 (kR_eq H.1) (by simp [Value.category]), e143_0, e143_1 rk (by simp [Value.category]), cnt]
      simp only [mAft, Option.toList_some, List.cons_append, List.nil_append]
      rw [e143_4, hEl]
      rw [b1]
      simp only [mAft, Option.toList_none, List.nil_append]
      rw [e144_31, oi_succ, e144_34]
    have n2 : E.length + 1 ≤ 131072 → ¬ (1000000 : Int32) ≤ Int32.ofNat (E.length + 1) := fun z => by rw [mi, oi_le (by decide) (by omega)]; omega
    have b2' := b2
    obtain ⟨R1, Rs1, ⟨HW1, w1, w2⟩, le1, ln1, hz1, x1, ad1, ad2, dj1⟩ := b2'
    have cwE : ∀ Z, Sho.cw (ocE e wt) (tcN cu) none q (E ++ Z) none = Sho.mv (ocE e wt) (tcN cu) none q E + Sho.cw (ocE e wt) (tcN cu) (Sho.lst none E) (Sho.fin q E) Z none := fun Z => by
      rw [Sho.cw, Sho.cw, tcN_none, tcN_none, Sho.mv_app, Nat.add_zero, Nat.add_zero]
    have vZ : Sho.Val (drE e) q (E ++ Z) := (Sho.val_app (drE e) q E Z).2 ⟨hVE.1, sv1⟩
    have okZ : ∀ x ∈ E ++ Z, x.1 < 6 ∧ x.2 < 2048 := val_ok HE _ q hq vZ (fun x hx => (List.mem_append.mp hx).elim (fun z => (hE x z).1) (sv4 x))
    have fZ : Sho.fin q (E ++ Z) = Sho.fin q T := by rw [hT, Sho.fin_app, Sho.fin_app, sv2]
    have cZ : Sho.cw (ocE e wt) (tcN cu) none q (E ++ Z) none ≤ Sho.cw (ocE e wt) (tcN cu) none q T none := by
      rw [hT, cwE, cwE]
      exact Nat.add_le_add_left sv3 _
    cases Z with
    | nil =>
      have cnt1 := rt_count (L := L) (xs := xs) (k := k) R1
      refine ⟨1, E ++ [], h1, pa1, ma1, e1, pr1, mr1, er1, q1, T1, s1, .int (Int32.ofNat (E.length + 1)), ?_, b2, by rw [sh2 0], vZ, okZ, fZ, cZ⟩
      rw [call, e144_11, e144_12, e144_14, if_neg (n2 (by omega)), e144_17, e144_18, e144_19 (kR_eq R1.2.choose_spec.choose_spec.1.1) (by simp [Value.category]), cnt1]
      simp only [mAft, Option.toList_some, List.cons_append, List.nil_append]
      rw [e144_22, if_pos (by rw [oi_le (by rw [List.length_append, List.length_nil]; omega) (by omega), List.length_append, List.length_nil]; omega)]
    | cons a Z =>
      have eZ : E ++ a :: Z = (E ++ [a]) ++ Z := by simp
      have old : ∀ x, (∀ a, a ∈ [rt, pa, ma, rs, pr, mr] → a ≠ x) → x < 8 + h.length → (∀ a, a ∈ [rt, pa1, ma1, rs, pr1, mr1] → a ≠ x) := by
        intro x hx h8 b hb
        simp only [List.mem_cons, List.not_mem_nil, or_false] at hb
        rcases hb with z | z | z | z | z | z
        · rw [z]; exact hx _ (by simp)
        · rw [z]; exact ne_new ad1.1 (hx _ (by simp)) h8
        · rw [z]; exact ne_new ad1.2 (hx _ (by simp)) h8
        · rw [z]; exact hx _ (by simp)
        · rw [z]; exact ne_new ad2.1 (hx _ (by simp)) h8
        · rw [z]; exact ne_new ad2.2 (hx _ (by simp)) h8
      have st8 : ∀ x, x ∈ [sh, W, F, P, cl, op, ar, ax, ay] → x < 8 + h.length := by
        intro x hx
        have c : ∃ c, mCell h x = some c := by
          simp only [List.mem_cons, List.not_mem_nil, or_false] at hx
          rcases hx with z | z | z | z | z | z | z | z | z <;> rw [z]
          · exact ⟨_, H.1⟩
          · exact ⟨_, H.2.2.2.2⟩
          · exact ⟨_, H.2.1.2.1⟩
          · exact ⟨_, H.2.1.1⟩
          · exact ⟨_, H.2.1.2.2.2⟩
          · exact ⟨_, H.2.2.2.1⟩
          · exact ⟨_, A.1⟩
          · exact ⟨_, A.2.1⟩
          · exact ⟨_, A.2.2.1⟩
        obtain ⟨c, hc⟩ := c
        have := cell_8 hc
        omega
      have D2' : Dj [rt, pa1, ma1, rs, pr1, mr1] [sh, W, F, P, cl, op, ar, ax, ay] := fun b hb x hx => old x (fun a ha => D2 a ha x hx) (st8 x hx) b hb
      have kp : ∀ x, x ∈ [sh, F, P, cl, op, ar, ax, ay] → mCell h1 x = mCell h x := by
        intro x hx
        have hx' : x ∈ [sh, W, F, P, cl, op, ar, ax, ay] := by
          simp only [List.mem_cons, List.not_mem_nil, or_false] at hx ⊢
          omega
        exact x1.2 x (st8 x hx') (fun z => z.elim (fun z => z.elim (fun z => z.elim (fun z => D2 _ (by simp) x hx' z.symm) (fun z => z.elim (fun z => D2 _ (by simp) x hx' z.symm) (fun z => D2 _ (by simp) x hx' z.symm))) (fun z => z.elim (fun z => D2 _ (by simp) x hx' z.symm) (fun z => z.elim (fun z => D2 _ (by simp) x hx' z.symm) (fun z => D2 _ (by simp) x hx' z.symm)))) (fun z => nW W (by simp) x hx z.symm))
      have H1 : swH sh F P W rs cl op cu ar mg fF fc fo s1 h1 := ⟨(kp _ (by simp)).trans H.1, ⟨(kp _ (by simp)).trans H.2.1.1, (kp _ (by simp)).trans H.2.1.2.1, H.2.1.2.2.1, (kp _ (by simp)).trans H.2.1.2.2.2⟩, H.2.2.1, (kp _ (by simp)).trans H.2.2.2.1, HW1⟩
      have A1 : aH ar ax ay fX fY h1 := ⟨(kp _ (by simp)).trans A.1, (kp _ (by simp)).trans A.2.1, (kp _ (by simp)).trans A.2.2.1, A.2.2.2⟩
      have cl := rt_cells R
      have cr := rt_cells Rs
      have D1' : rs ≠ rt ∧ rs ≠ pa1 ∧ rs ≠ ma1 ∧ pr1 ≠ rt ∧ pr1 ≠ pa1 ∧ pr1 ≠ ma1 ∧ mr1 ≠ rt ∧ mr1 ≠ pa1 ∧ mr1 ≠ ma1 :=
        ⟨D1.1, Ne.symm (ne_new ad1.1 (Ne.symm D1.2.1) cr.1.2), Ne.symm (ne_new ad1.2 (Ne.symm D1.2.2.1) cr.1.2), ne_new ad2.1 D1.2.2.2.1 cl.1.2, dj1.1, dj1.2.1, ne_new ad2.2 D1.2.2.2.2.2.2.1 cl.1.2, dj1.2.2.1, dj1.2.2.2⟩
      have hEa : (E ++ [a]).length = E.length + 1 := by rw [List.length_append, List.length_singleton]
      have fa : Sho.fin q (E ++ [a]) = a.2 := by rw [Sho.fin_app]; rfl
      obtain ⟨n, X, h2, pa2, ma2, e2, pr2, mr2, er2, q2, T2, s2, v, c1, c2, c3, c4, c5, c6, c7⟩ := IH (E ++ [a]) Z (E ++ a :: Z) h1 s1 pa1 ma1 e1 pr1 mr1 er1 q1 T1 (by rw [hEa]; omega) eZ okZ vZ D1' D2' R1 Rs1 H1 A1 w1 w2 (by
        intro n
        have := p2 n
        dsimp only at this
        rw [hEa, lst_end, fa]
        exact Nat.lt_of_le_of_lt (Nat.le_max_right _ _) this)
      rw [hEa] at c1
      refine ⟨n + 1, X, h2, pa2, ma2, e2, pr2, mr2, er2, q2, T2, s2, v, call.trans c1, sv_trans b2 c2, ?_, c4, c5, c6.trans fZ, Nat.le_trans c7 cZ⟩
      rw [c3, sh2 n, lst_end, fa]
      simp
end
