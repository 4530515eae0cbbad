section
variable {L : Nat} {xs : Nat → Int32} {k : Nat} {rt pa ma e0 q : Nat} {T : List (Nat × Nat)}
variable {F P W rs sh ar ax ay cl op cu pr mr er qr : Nat} {Tr : List (Nat × Nat)} {fF : List Value} {fc fo fX fY : Nat → Int32} {mg : Int32} {wt : Nat → Nat → Nat → Nat} {e : Nat → Nat → Nat}
theorem sv_refl {X : List (Nat × Nat)} {h h' : List mCel} {s' : wS} (R : RT rt pa ma e0 q X h) (Rs : RT rs pr mr er qr Tr h) (K : mKeep (fun x => x = W) h h') (HW : mCell h' W = some (wC ar s')) (hs : wIn s') (hs1 : s'.1 ≤ 536870912)
    (n1 : ¬ rt = W) (n2 : ¬ pa = W) (n3 : ¬ ma = W) (n4 : ¬ rs = W) (n5 : ¬ pr = W) (n6 : ¬ mr = W) (dj : pr ≠ pa ∧ pr ≠ ma ∧ mr ≠ pa ∧ mr ≠ ma) :
    svO rt pa ma e0 q rs pr mr er W ar X h h' pa ma e0 pr mr er qr Tr s' :=
  ⟨rt_keep R (ext_of K) n1 n2 n3, rt_keep Rs (ext_of K) n4 n5 n6, ⟨HW, hs, hs1⟩, ⟨Nat.le_refl _, Nat.le_refl _⟩, by rw [Nat.sub_self, Nat.sub_self]; exact K.1, by rw [K.2.1], ext_mono (ext_of K) (fun x z => Or.inr z), ⟨Or.inl rfl, Or.inl rfl⟩, ⟨Or.inl rfl, Or.inl rfl⟩, dj⟩
/-- what the search of a step leaves -/
def stJ (e : Nat → Nat → Nat) (wt : Nat → Nat → Nat → Nat) (cu : Nat) (l : Option Nat) (q : Nat) (A0 : List (Nat × Nat)) (j : Nat) : List (Nat × Nat) :=
  match Sho.srch (drE e) wWd (ocE e wt) (tcN cu) l q A0 j with
  | none => A0
  | some (P, B) => P ++ B
theorem srch_ss (dr : Nat → Nat → Option Nat) (wd : Nat → Nat → Option (List Nat)) (oc : Nat → Nat → Nat) (tu : Option Nat → Option Nat → Nat) (l : Option Nat) (q : Nat) (T : List (Nat × Nat)) (j : Nat) :
    Sho.srch dr wd oc tu l q T (j + 1 + 1) = (match Sho.tryW dr wd oc tu l q (T.take (j + 2)) (T.drop (j + 2)) with | some P => some (P, T.drop (j + 2)) | none => Sho.srch dr wd oc tu l q T (j + 1)) := rfl
theorem stJ_0 {e : Nat → Nat → Nat} {wt : Nat → Nat → Nat → Nat} {cu : Nat} {l : Option Nat} {q : Nat} {A0 : List (Nat × Nat)} : stJ e wt cu l q A0 0 = A0 := by unfold stJ Sho.srch; rfl
theorem stJ_1 {e : Nat → Nat → Nat} {wt : Nat → Nat → Nat → Nat} {cu : Nat} {l : Option Nat} {q : Nat} {A0 : List (Nat × Nat)} : stJ e wt cu l q A0 (0 + 1) = A0 := by unfold stJ Sho.srch; rfl
theorem stJ_ss {e : Nat → Nat → Nat} {wt : Nat → Nat → Nat → Nat} {cu : Nat} {l : Option Nat} {q : Nat} {A0 : List (Nat × Nat)} {j : Nat} : stJ e wt cu l q A0 (j + 1 + 1) = (match Sho.tryW (drE e) wWd (ocE e wt) (tcN cu) l q (A0.take (j + 2)) (A0.drop (j + 2)) with
        | some P => P ++ A0.drop (j + 2) | none => stJ e wt cu l q A0 (j + 1)) := by
  unfold stJ
  rw [srch_ss]
  generalize Sho.tryW (drE e) wWd (ocE e wt) (tcN cu) l q (A0.take (j + 2)) (A0.drop (j + 2)) = z
  cases z <;> rfl
theorem fol_ok {e : Nat → Nat → Nat} {fo : Nat → Int32} (HE : geoE fo e) : ∀ (ws : List Nat) (p : Nat) (Q : List (Nat × Nat)), p < 2048 → (∀ m ∈ ws, m < 6) → Sho.fol (drE e) p ws = some Q → (∀ x ∈ Q, x.1 < 6 ∧ x.2 < 2048) ∧ Q.length = ws.length
  | [], _, Q, _, _, h => by cases h; exact ⟨fun x hx => (List.not_mem_nil hx).elim, rfl⟩
  | m :: ws, p, Q, hp, hm, h => by
    unfold Sho.fol at h
    have g := (HE p m hp (hm m List.mem_cons_self)).2
    by_cases hz : e p m = 0
    · rw [show drE e p m = none from if_pos hz] at h; cases h
    · rw [show drE e p m = some (e p m - 1) from if_neg hz] at h
      dsimp only at h
      have hx : e p m - 1 < 2048 := by omega
      cases hf : Sho.fol (drE e) (e p m - 1) ws with
      | none => rw [hf] at h; cases h
      | some Q' =>
        rw [hf] at h
        cases h
        obtain ⟨i1, i2⟩ := fol_ok HE ws _ Q' hx (fun m' h' => hm m' (List.mem_cons_of_mem _ h')) hf
        exact ⟨fun x hx' => (List.mem_cons.mp hx').elim (fun z => z ▸ ⟨hm m List.mem_cons_self, hx⟩) (i1 x), by rw [List.length_cons, List.length_cons, i2]⟩
theorem save_loop (HE : geoE fo e) (HW0 : geoW fc mg wt) (hcu : cu ≤ 100) (hq : q < 2048) {E A0 : List (Nat × Nat)} (hT : T = E ++ A0) (hTv : ∀ x ∈ T, x.1 < 6 ∧ x.2 < 2048) (hV : Sho.Val (drE e) (Sho.fin q E) A0)
    (D1 : rs ≠ rt ∧ rs ≠ pa ∧ rs ≠ ma ∧ pr ≠ rt ∧ pr ≠ pa ∧ pr ≠ ma ∧ mr ≠ rt ∧ mr ≠ pa ∧ mr ≠ ma)
    (D2 : Dj [rt, pa, ma, rs, pr, mr] [sh, W]) (nW : Dj [W] [sh, F, P, cl, op, ar, ax, ay]) :
    ∀ (j : Nat) (h : List mCel) (s : wS) (l4 : Option Value), j ≤ A0.length → RT rt pa ma e0 q T h → RT rs pr mr er qr Tr h → swH sh F P W rs cl op cu ar mg fF fc fo s h → aH ar ax ay fX fY h → wIn s → s.1 ≤ 536870912 →
      E.length + (stJ e wt cu (Sho.lst none E) (Sho.fin q E) A0 j).length < 131072 →
      ∃ h' pa' ma' e' pr' mr' er' qr' Tr' s', mW (mRo L xs) mTab 143 5 [some (.ref sh), some (.ref rt), some (.int (Int32.ofNat E.length)), some (.int (Int32.ofNat (E.length + j))), l4] [] h k = some (.inl none, h', k) ∧
        svO rt pa ma e0 q rs pr mr er W ar (E ++ stJ e wt cu (Sho.lst none E) (Sho.fin q E) A0 j) h h' pa' ma' e' pr' mr' er' qr' Tr' s' := by
  have two : (2 : Int32) = Int32.ofNat 2 := rfl
  have nrt : ∀ a, a ∈ [rt, pa, ma, rs, pr, mr] → ¬ a = W := fun a ha => D2 a ha W (by simp)
  have nsh : ∀ a, a ∈ [sh, F, P, cl, op, ar, ax, ay] → ¬ a = W := fun a ha z => nW W (by simp) a ha z.symm
  have hE : ∀ y ∈ E, y.1 < 6 ∧ y.2 < 2048 := fun y hy => hTv y (by rw [hT]; exact List.mem_append_left _ hy)
  intro j
  induction j with
  | zero =>
    intro h s l4 hj R Rs H A hs hs1 hlen
    have hTl : T.length < 131072 := by have := R.1; have := pow_le R.1.1; omega
    have hEl : E.length ≤ T.length := by rw [hT, List.length_append]; omega
    refine ⟨h, pa, ma, e0, pr, mr, er, qr, Tr, s, ?_, sv_refl (by rw [stJ_0, ← hT]; exact R) Rs keep_refl H.2.2.2.2 hs hs1 (nrt _ (by simp)) (nrt _ (by simp)) (nrt _ (by simp)) (nrt _ (by simp)) (nrt _ (by simp)) (nrt _ (by simp)) ⟨D1.2.2.2.2.1, D1.2.2.2.2.2.1, D1.2.2.2.2.2.2.2.1, D1.2.2.2.2.2.2.2.2⟩⟩
    rw [e143_5, e143_6, e143_7, e143_8, e143_9, if_pos (by rw [two, ← oi_add, oi_lt (by omega) (by omega)]; omega), e143_73]
  | succ j IH =>
    intro h s l4 hj R Rs H A hs hs1 hlen
    have hTl : T.length < 131072 := by have := R.1; have := pow_le R.1.1; omega
    have hEl : T.length = E.length + A0.length := by rw [hT, List.length_append]
    by_cases j1 : j = 0
    · subst j1
      refine ⟨h, pa, ma, e0, pr, mr, er, qr, Tr, s, ?_, sv_refl (by rw [stJ_1, ← hT]; exact R) Rs keep_refl H.2.2.2.2 hs hs1 (nrt _ (by simp)) (nrt _ (by simp)) (nrt _ (by simp)) (nrt _ (by simp)) (nrt _ (by simp)) (nrt _ (by simp)) ⟨D1.2.2.2.2.1, D1.2.2.2.2.2.1, D1.2.2.2.2.2.2.2.1, D1.2.2.2.2.2.2.2.2⟩⟩
      rw [e143_5, e143_6, e143_7, e143_8, e143_9, if_pos (by rw [two, ← oi_add, oi_lt (by omega) (by omega)]; omega), e143_73]
    obtain ⟨j, rfl⟩ : ∃ i, j = i + 1 := ⟨j - 1, by omega⟩
    -- the elder stretch that is looked at
    have hAB : A0 = A0.take (j + 2) ++ A0.drop (j + 2) := (List.take_append_drop _ _).symm
    have hA : (A0.take (j + 2)).length = j + 2 := by rw [List.length_take]; omega
    rw [stJ_ss] at hlen ⊢
    generalize A0.take (j + 2) = A1 at *
    generalize A0.drop (j + 2) = B at *
    have hT1 : T = E ++ (A1 ++ B) := by rw [hT, ← hAB]
    have hT2 : T = (E ++ A1) ++ B := by rw [hT1, List.append_assoc]
    have hA1 : ∀ y ∈ A1, y.1 < 6 ∧ y.2 < 2048 := fun y hy => hTv y (by rw [hT1]; exact List.mem_append_right _ (List.mem_append_left _ hy))
    have q0 : Sho.fin q E < 2048 := fin_lt hq hE
    have q1 : Sho.fin (Sho.fin q E) A1 < 2048 := fin_lt q0 hA1
    have rk := kR_eq R.2.choose_spec.choose_spec.1.1
    have pe := rt_poseE (L := L) (xs := xs) (k := k) R hT2
    rw [List.length_append, hA, Sho.fin_app] at pe
    -- the word is sought
    obtain ⟨h1, F1, F2, F3⟩ := c_find (L := L) (xs := xs) (k := k) q0 q1 A H.2.2.2.2
    have F3' : mCell h1 W = some (wC ar (wFd (Sho.fin q E) (Sho.fin (Sho.fin q E) A1) s.2.2)) := F3
    have hw := wFd_in (Sho.fin q E) (Sho.fin (Sho.fin q E) A1) (r := s.2.2) hs.2
    have we := wWd_eq (Sho.fin q E) (Sho.fin (Sho.fin q E) A1) s.2.2
    clear F3
    generalize wFd (Sho.fin q E) (Sho.fin (Sho.fin q E) A1) s.2.2 = s1 at *
    obtain ⟨w1, w2, w3⟩ := hw
    have R1 := rt_keep R (ext_of F2) (nrt _ (by simp)) (nrt _ (by simp)) (nrt _ (by simp))
    have Rs1 := rt_keep Rs (ext_of F2) (nrt _ (by simp)) (nrt _ (by simp)) (nrt _ (by simp))
    have H1 : swH sh F P W rs cl op cu ar mg fF fc fo s1 h1 := ⟨(F2.2.2 _ (nsh _ (by simp))).trans H.1, ⟨(F2.2.2 _ (nsh _ (by simp))).trans H.2.1.1, (F2.2.2 _ (nsh _ (by simp))).trans H.2.1.2.1, H.2.1.2.2.1, (F2.2.2 _ (nsh _ (by simp))).trans H.2.1.2.2.2⟩, H.2.2.1, (F2.2.2 _ (nsh _ (by simp))).trans H.2.2.2.1, F3'⟩
    have A2 := a_keep A F2 (nsh _ (by simp)) (nsh _ (by simp)) (nsh _ (by simp))
    have rk1 := kR_eq R1.2.choose_spec.choose_spec.1.1
    have wb := rt_wordBetween (L := L) (xs := xs) (k := k) H1 HE HW0 hcu w1 w2 hq R1 hTv hT1
    have bt := rt_between (L := L) (xs := xs) (k := k) H1.2.1 HW0 hcu hq R1 hTv hT1
    rw [hA] at wb bt
    have head : ∀ l4, mW (mRo L xs) mTab 143 5 [some (.ref sh), some (.ref rt), some (.int (Int32.ofNat E.length)), some (.int (Int32.ofNat (E.length + (j + 1 + 1)))), l4] [] h k =
        mW (mRo L xs) mTab 143 38 [some (.ref sh), some (.ref rt), some (.int (Int32.ofNat E.length)), some (.int (Int32.ofNat (E.length + (j + 2)))), some (.int (if s1.2.1 = 0 then -1 else match Sho.fol (drE e) (Sho.fin q E) (wMv s1) with | none => -1 | some Q => Int32.ofNat (mvW wt (tcN cu) (Sho.lst none E) (Sho.fin q E) Q + tcN cu (Sho.lst (Sho.lst none E) Q) (Sho.hd B))))] [] h1 k := by
      intro l4
      rw [e143_5, e143_6, e143_7, e143_8, e143_9, if_neg (by rw [two, ← oi_add, oi_lt (by omega) (by omega)]; omega), e143_12, e143_13, kF_eq H.1 (v := .ref W) rfl, e143_16, e143_17, e143_18 rk (by simp [Value.category]), rt_poseE R hT1]
      simp only [mAft, Option.toList_some, List.cons_append, List.nil_append]
      rw [e143_21, e143_22, e143_23 rk (by simp [Value.category]), pe]
      simp only [mAft, Option.toList_some, List.cons_append, List.nil_append]
      rw [e143_26 (kR_eq H.2.2.2.2) (by simp [Value.category]), F1]
      simp only [mAft, Option.toList_none, List.nil_append]
      rw [e143_29, e143_30, e143_31, e143_32, e143_33 (kR_eq H1.1) (by simp [Value.category]), wb]
      simp only [mAft, Option.toList_some, List.cons_append, List.nil_append]
      rw [e143_36]
      rfl
    -- the next elder pose
    have back : ∀ v, mW (mRo L xs) mTab 143 67 [some (.ref sh), some (.ref rt), some (.int (Int32.ofNat E.length)), some (.int (Int32.ofNat (E.length + (j + 2)))), some v] [] h1 k = mW (mRo L xs) mTab 143 5 [some (.ref sh), some (.ref rt), some (.int (Int32.ofNat E.length)), some (.int (Int32.ofNat (E.length + (j + 1)))), some v] [] h1 k := by
      intro v
      rw [e143_67, show E.length + (j + 2) = E.length + (j + 1) + 1 from rfl, oi_pred, e143_70]
    have cont : ∀ v, E.length + (stJ e wt cu (Sho.lst none E) (Sho.fin q E) A0 (j + 1)).length < 131072 → ∃ h' pa' ma' e' pr' mr' er' qr' Tr' s', mW (mRo L xs) mTab 143 67 [some (.ref sh), some (.ref rt), some (.int (Int32.ofNat E.length)), some (.int (Int32.ofNat (E.length + (j + 2)))), some v] [] h1 k = some (.inl none, h', k) ∧
        svO rt pa ma e0 q rs pr mr er W ar (E ++ stJ e wt cu (Sho.lst none E) (Sho.fin q E) A0 (j + 1)) h h' pa' ma' e' pr' mr' er' qr' Tr' s' := by
      intro v hl
      obtain ⟨h2, pa', ma', e', pr', mr', er', qr', Tr', s', c1, c2⟩ := IH h1 s1 (some v) (by omega) R1 Rs1 H1 A2 w1 w2 hl
      exact ⟨h2, pa', ma', e', pr', mr', er', qr', Tr', s', (back v).trans c1, sv_trans (sv_refl R Rs F2 F3' w1 w2 (nrt _ (by simp)) (nrt _ (by simp)) (nrt _ (by simp)) (nrt _ (by simp)) (nrt _ (by simp)) (nrt _ (by simp)) ⟨D1.2.2.2.2.1, D1.2.2.2.2.2.1, D1.2.2.2.2.2.2.2.1, D1.2.2.2.2.2.2.2.2⟩) c2⟩
    rw [head l4]
    clear head
    unfold Sho.tryW at hlen ⊢
    rw [we] at hlen ⊢
    by_cases h0 : s1.2.1 = 0
    · rw [if_pos h0] at hlen ⊢
      rw [if_pos h0, e143_38, e143_40, e143_41, if_pos rfl]
      exact cont _ hlen
    rw [if_neg h0] at hlen ⊢
    rw [if_neg h0]
    dsimp only at hlen ⊢
    cases hf : Sho.fol (drE e) (Sho.fin q E) (wMv s1) with
    | none =>
      rw [hf] at hlen
      dsimp only at hlen ⊢
      rw [e143_38, e143_40, e143_41, if_pos rfl]
      exact cont _ hlen
    | some Q =>
      rw [hf] at hlen
      dsimp only at hlen ⊢
      have hws : (wMv s1).length ≤ 29 := by
        unfold wMv
        obtain ⟨_, b2, b3, b4⟩ := w1
        split
        · simp
        · simp only [List.length_append, List.length_replicate]; omega
      obtain ⟨f1, f2⟩ := fol_ok HE _ _ _ q0 (fun m hm => Nat.lt_trans (wMv_fw m hm) (by decide)) hf
      have hQV := (Sho.fol_val (drE e) _ _ _ hf).1
      have hAV : Sho.Val (drE e) (Sho.fin q E) A1 := ((Sho.val_app (drE e) _ A1 B).1 (hAB ▸ hV)).1
      have m1 := mvW_le (wt := wt) HW0 hcu Q (Sho.lst none E) (Sho.fin q E) q0 f1
      have m2 := mvW_le (wt := wt) HW0 hcu A1 (Sho.lst none E) (Sho.fin q E) q0 hA1
      have t1 := tcN_le (cu := cu) (a := Sho.lst (Sho.lst none E) Q) (b := Sho.hd B)
      have t2 := tcN_le (cu := cu) (a := Sho.lst none (E ++ A1)) (b := Sho.hd B)
      have hAl : A1.length < 131072 := by omega
      have v1 : mvW wt (tcN cu) (Sho.lst none E) (Sho.fin q E) Q + tcN cu (Sho.lst (Sho.lst none E) Q) (Sho.hd B) < 2 ^ 31 := by omega
      have v2 : tcN cu (Sho.lst none (E ++ A1)) (Sho.hd B) + mvW wt (tcN cu) (Sho.lst none E) (Sho.fin q E) A1 < 2 ^ 31 := by omega
      have c1 : Sho.cw (ocE e wt) (tcN cu) (Sho.lst none E) (Sho.fin q E) Q (Sho.hd B) = mvW wt (tcN cu) (Sho.lst none E) (Sho.fin q E) Q + tcN cu (Sho.lst (Sho.lst none E) Q) (Sho.hd B) := by
        rw [Sho.cw, mv_eq Q _ _ hQV]
      have c2 : Sho.cw (ocE e wt) (tcN cu) (Sho.lst none E) (Sho.fin q E) A1 (Sho.hd B) = tcN cu (Sho.lst none (E ++ A1)) (Sho.hd B) + mvW wt (tcN cu) (Sho.lst none E) (Sho.fin q E) A1 := by
        rw [Sho.cw, mv_eq A1 _ _ hAV, Sho.lst_app, Nat.add_comm]
      have n1 : ¬ Int32.ofNat (mvW wt (tcN cu) (Sho.lst none E) (Sho.fin q E) Q + tcN cu (Sho.lst (Sho.lst none E) Q) (Sho.hd B)) = -1 := fun z => by
        have := congrArg Int32.toInt z
        rw [oi_int v1] at this
        have h2 : (-1 : Int32).toInt = -1 := rfl
        omega
      have test : mW (mRo L xs) mTab 143 38 [some (.ref sh), some (.ref rt), some (.int (Int32.ofNat E.length)), some (.int (Int32.ofNat (E.length + (j + 2)))), some (.int (Int32.ofNat (mvW wt (tcN cu) (Sho.lst none E) (Sho.fin q E) Q + tcN cu (Sho.lst (Sho.lst none E) Q) (Sho.hd B))))] [] h1 k =
          mW (mRo L xs) mTab 143 56 [some (.ref sh), some (.ref rt), some (.int (Int32.ofNat E.length)), some (.int (Int32.ofNat (E.length + (j + 2)))), some (.int (Int32.ofNat (mvW wt (tcN cu) (Sho.lst none E) (Sho.fin q E) Q + tcN cu (Sho.lst (Sho.lst none E) Q) (Sho.hd B))))]
            [.int (Int32.ofNat (tcN cu (Sho.lst none (E ++ A1)) (Sho.hd B) + mvW wt (tcN cu) (Sho.lst none E) (Sho.fin q E) A1)), .int (Int32.ofNat (mvW wt (tcN cu) (Sho.lst none E) (Sho.fin q E) Q + tcN cu (Sho.lst (Sho.lst none E) Q) (Sho.hd B)))] h1 k := by
        rw [e143_38, e143_40, e143_41, if_neg n1, e143_44, e143_46, e143_47, kF_eq H1.1 (v := .ref P) rfl, e143_50, e143_51, e143_52, e143_53 (kR_eq H1.2.1.1) (by simp [Value.category]), bt]
        simp only [mAft, Option.toList_some, List.cons_append, List.nil_append]
      rw [test]
      rw [c1, c2] at hlen ⊢
      rw [e143_56]
      by_cases lt : mvW wt (tcN cu) (Sho.lst none E) (Sho.fin q E) Q + tcN cu (Sho.lst (Sho.lst none E) Q) (Sho.hd B) < tcN cu (Sho.lst none (E ++ A1)) (Sho.hd B) + mvW wt (tcN cu) (Sho.lst none E) (Sho.fin q E) A1
      · rw [if_pos lt] at hlen ⊢
        rw [if_neg (fun z => Nat.not_le.mpr lt ((oi_le v2 v1).mp z))]
        dsimp only at hlen ⊢
        rw [List.length_append] at hlen
        obtain ⟨h2, pa', ma', e', pr', mr', er', p1, p2, p3, p4, p5, p6, p7, p8, p9, p10⟩ := rt_put (L := L) (xs := xs) (k := k) HE w1 hq R1 Rs1 hTv hT1 hf hlen H1.1 F3' ⟨D1, ⟨Ne.symm (D2 _ (by simp) _ (by simp)), Ne.symm (D2 _ (by simp) _ (by simp)), Ne.symm (D2 _ (by simp) _ (by simp)), Ne.symm (D2 _ (by simp) _ (by simp)), Ne.symm (D2 _ (by simp) _ (by simp)), Ne.symm (D2 _ (by simp) _ (by simp))⟩, ⟨Ne.symm (D2 _ (by simp) _ (by simp)), Ne.symm (D2 _ (by simp) _ (by simp)), Ne.symm (D2 _ (by simp) _ (by simp)), Ne.symm (D2 _ (by simp) _ (by simp)), Ne.symm (D2 _ (by simp) _ (by simp)), Ne.symm (D2 _ (by simp) _ (by simp))⟩⟩
        rw [hA] at p1
        refine ⟨h2, pa', ma', e', pr', mr', er', Sho.fin q (E ++ A1), B, s1, ?_, sv_trans (sv_refl R Rs F2 F3' w1 w2 (nrt _ (by simp)) (nrt _ (by simp)) (nrt _ (by simp)) (nrt _ (by simp)) (nrt _ (by simp)) (nrt _ (by simp)) ⟨D1.2.2.2.2.1, D1.2.2.2.2.2.1, D1.2.2.2.2.2.2.2.1, D1.2.2.2.2.2.2.2.2⟩)
          ⟨p2, p3, ⟨(p7.2 W (cell_8 F3' |>.2 |> fun z => by have := (cell_8 F3').1; omega) (fun z => z.elim (fun z => z.elim (fun z => nrt _ (by simp) z.symm) (fun z => z.elim (fun z => nrt _ (by simp) z.symm) (fun z => nrt _ (by simp) z.symm))) (fun z => z.elim (fun z => nrt _ (by simp) z.symm) (fun z => z.elim (fun z => nrt _ (by simp) z.symm) (fun z => nrt _ (by simp) z.symm))))).trans F3', w1, w2⟩, p4, p5, p6, ext_mono p7 (fun x z => Or.inl z), p8, p9, p10⟩⟩
        rw [e143_59, e143_60, e143_61, e143_62, e143_63 (kR_eq H1.1) (by simp [Value.category]), p1]
        simp only [mAft, Option.toList_none, List.nil_append]
        rw [e143_66]
      · rw [if_neg lt] at hlen ⊢
        rw [if_pos ((oi_le v2 v1).mpr (Nat.not_lt.mp lt))]
        exact cont _ hlen
end
