section
variable {L : Nat} {xs : Nat → Int32} {k : Nat} {h : List mCel} {rt pa ma e0 q : Nat} {T : List (Nat × Nat)}
/-- addFrom, the whole method -/
theorem rt_addFromM {rt2 pa2 ma2 e2 q2 i : Nat} {T2 : List (Nat × Nat)} (R2 : RT rt2 pa2 ma2 e2 q2 T2 h) (R : RT rt pa ma e0 q T h) (hi : i ≤ T2.length)
    (hd : rt ≠ rt2 ∧ rt ≠ pa2 ∧ rt ≠ ma2 ∧ pa ≠ rt2 ∧ pa ≠ pa2 ∧ pa ≠ ma2 ∧ ma ≠ rt2 ∧ ma ≠ pa2 ∧ ma ≠ ma2) (hT : T.length + (T2.length - i) < 131072) :
    ∃ h' pa' ma' e', mW (mRo L xs) mTab 125 0 [some (.ref rt), some (.ref rt2), some (.int (Int32.ofNat i)), none, none] [] h k = some (.inl none, h', k) ∧
      RT rt pa' ma' e' q (T ++ T2.drop i) h' ∧ e0 ≤ e' ∧ h'.length = h.length + 2 * (e' - e0) ∧ hz h' + 256 * 2 ^ e0 = hz h + 256 * 2 ^ e' ∧ mExt (fun a => a = rt ∨ a = pa ∨ a = ma) h h' ∧
      (pa' = pa ∨ 8 + h.length ≤ pa') ∧ (ma' = ma ∨ 8 + h.length ≤ ma') := by
  obtain ⟨h1, pa1, ma1, e1, B1, B2⟩ := rt_addFrom (L := L) (xs := xs) (k := k) (T2.length - i) i T pa ma e0 h (some (.int (Int32.ofNat i))) (by omega) R2 R hd hT
  refine ⟨h1, pa1, ma1, e1, ?_, B2⟩
  rw [e125_0, e125_1 (kR_eq R2.2.choose_spec.choose_spec.1.1) (by simp [Value.category]), rt_count R2]
  simp only [mAft, Option.toList_some, List.cons_append, List.nil_append]
  rw [e125_4, e125_5, e125_6]
  exact B1
theorem put_hz {a0 a1 a2 a3 a4 a5 p0 p4 p5 r0 r2 : Nat} (z1 : a1 = a0) (b : a2 + r0 = a1 + r2) (z3 : a3 = a2) (d : a4 + p0 = a3 + p4) (g : a5 + p4 = a4 + p5) : a5 + p0 + r0 = a0 + p5 + r2 := by omega
theorem put_len {l0 l1 l2 l3 l4 l5 e0 e4 e5 r0 r2 : Nat} (z1 : l1 = l0) (b : l2 = l1 + 2 * (r2 - r0)) (z3 : l3 = l2) (d : l4 = l3 + 2 * (e4 - e0)) (g : l5 = l4 + 2 * (e5 - e4)) (h1 : e0 ≤ e4) (h2 : e4 ≤ e5) :
    l5 = l0 + 2 * (e5 - e0) + 2 * (r2 - r0) ∧ l0 ≤ l5 ∧ l0 ≤ l3 ∧ l0 ≤ l4 := by omega
theorem put_ad {p p4 p5 l0 l3 l4 : Nat} (h1 : l0 ≤ l3) (h2 : l0 ≤ l4) (d : p4 = p ∨ 8 + l3 ≤ p4) (g : p5 = p4 ∨ 8 + l4 ≤ p5) : p5 = p ∨ 8 + l0 ≤ p5 := by
  rcases g with w | w
  · rcases d with w2 | w2 <;> omega
  · omega
theorem ne_new {x x' y N : Nat} (w : x' = x ∨ N ≤ x') (h : x ≠ y) (hy : y < N) : x' ≠ y := by rcases w with w | w <;> omega
theorem ni {a x y z : Nat} (h1 : a ≠ x) (h2 : a ≠ y) (h3 : a ≠ z) : ¬ (a = x ∨ a = y ∨ a = z) := fun w => w.elim h1 (fun w => w.elim h2 h3)
variable {F P W rs sh ar pr mr er qr : Nat} {Tr : List (Nat × Nat)} {fo : Nat → Int32} {e : Nat → Nat → Nat} {s : wS}
theorem rt_put (HE : geoE fo e) (hs : wIn s) (hq : q < 2048) (R : RT rt pa ma e0 q T h) (Rs : RT rs pr mr er qr Tr h) (hTv : ∀ x ∈ T, x.1 < 6 ∧ x.2 < 2048) {E A B Q : List (Nat × Nat)} (hT : T = E ++ (A ++ B))
    (hQ : Sho.fol (drE e) (Sho.fin q E) (wMv s) = some Q) (hlen : E.length + (Q.length + B.length) < 131072) (Hs : mCell h sh = some (.inr (7, [.ref F, .ref P, .ref W, .ref rs]))) (HW : mCell h W = some (wC ar s))
    (hd : (rs ≠ rt ∧ rs ≠ pa ∧ rs ≠ ma ∧ pr ≠ rt ∧ pr ≠ pa ∧ pr ≠ ma ∧ mr ≠ rt ∧ mr ≠ pa ∧ mr ≠ ma) ∧ (sh ≠ rt ∧ sh ≠ pa ∧ sh ≠ ma ∧ W ≠ rt ∧ W ≠ pa ∧ W ≠ ma) ∧ (sh ≠ rs ∧ sh ≠ pr ∧ sh ≠ mr ∧ W ≠ rs ∧ W ≠ pr ∧ W ≠ mr)) :
    ∃ h' pa' ma' e' pr' mr' er', mW (mRo L xs) mTab 142 0 [some (.ref sh), some (.ref rt), some (.int (Int32.ofNat E.length)), some (.int (Int32.ofNat (E.length + A.length))), none, none] [] h k = some (.inl none, h', k) ∧
      RT rt pa' ma' e' q (E ++ (Q ++ B)) h' ∧ RT rs pr' mr' er' (Sho.fin q (E ++ A)) B h' ∧ (e0 ≤ e' ∧ er ≤ er') ∧ h'.length = h.length + 2 * (e' - e0) + 2 * (er' - er) ∧
      hz h' + 256 * 2 ^ e0 + 256 * 2 ^ er = hz h + 256 * 2 ^ e' + 256 * 2 ^ er' ∧ mExt (fun a => (a = rt ∨ a = pa ∨ a = ma) ∨ (a = rs ∨ a = pr ∨ a = mr)) h h' ∧
      ((pa' = pa ∨ 8 + h.length ≤ pa') ∧ (ma' = ma ∨ 8 + h.length ≤ ma')) ∧ ((pr' = pr ∨ 8 + h.length ≤ pr') ∧ (mr' = mr ∨ 8 + h.length ≤ mr')) ∧ (pr' ≠ pa' ∧ pr' ≠ ma' ∧ mr' ≠ pa' ∧ mr' ≠ ma') := by
  obtain ⟨hd1, hd2, hd3⟩ := hd
  obtain ⟨r1, r2, r3, r4, r5, r6, r7, r8, r9⟩ := id hd1
  obtain ⟨s1, s2, s3, w1, w2, w3⟩ := id hd2
  obtain ⟨s4, s5, s6, w4, w5, w6⟩ := id hd3
  have cl := rt_cells R
  have cr := rt_cells Rs
  have s8 := cell_8 Hs
  have w8 := cell_8 HW
  have hT2 : T = (E ++ A) ++ B := by rw [hT, List.append_assoc]
  have hTl : T.length = E.length + A.length + B.length := by rw [hT2, List.length_append, List.length_append]
  have hT131 : T.length < 131072 := by
    have := R.1
    have := pow_le R.1.1
    omega
  have rk := kR_eq R.2.choose_spec.choose_spec.1.1
  -- the rest begins anew
  obtain ⟨h1, A1, A2, A3⟩ := rt_restart (L := L) (xs := xs) (k := k) Rs (p := Sho.fin q (E ++ A))
  have R1 := rt_keep R (ext_of A3) (ni (Ne.symm r1) (Ne.symm r4) (Ne.symm r7)) (ni (Ne.symm r2) (Ne.symm r5) (Ne.symm r8)) (ni (Ne.symm r3) (Ne.symm r6) (Ne.symm r9))
  have Hs1 := (A3.2.2 sh (ni s4 s5 s6)).trans Hs
  have HW1 := (A3.2.2 W (ni w4 w5 w6)).trans HW
  -- and takes what is behind
  obtain ⟨h2, pr2, mr2, er2, B1, B2, B3, B4, B5, B6, B7, B8⟩ := rt_addFromM (L := L) (xs := xs) (k := k) R1 A2 (i := E.length + A.length) (by omega) hd1 (by rw [List.length_nil]; omega)
  have hdrop : T.drop (E.length + A.length) = B := by
    rw [hT2, show E.length + A.length = (E ++ A).length by simp, List.drop_left]
  rw [hdrop, List.nil_append] at B2
  have l1 := A3.1
  have N1 : 8 + h1.length = 8 + h.length := by rw [l1]
  rw [N1] at B7 B8
  have R2 := rt_keep R1 B6 (ni (Ne.symm r1) (Ne.symm r4) (Ne.symm r7)) (ni (Ne.symm r2) (Ne.symm r5) (Ne.symm r8)) (ni (Ne.symm r3) (Ne.symm r6) (Ne.symm r9))
  have Hs2 := (B6.2 sh (by omega) (ni s4 s5 s6)).trans Hs1
  have HW2 := (B6.2 W (by omega) (ni w4 w5 w6)).trans HW1
  -- the route is cut
  obtain ⟨h3, C1, C2, C3⟩ := rt_cut (L := L) (xs := xs) (k := k) R2 (i := E.length) (by omega)
  have htake : T.take E.length = E := by rw [hT, List.take_left]
  rw [htake] at C2
  have p1 := ne_new B7 r4 cl.1.2
  have p2 := ne_new B7 r5 cl.2.1.2
  have p3 := ne_new B7 r6 cl.2.2.1.2
  have m1 := ne_new B8 r7 cl.1.2
  have m2 := ne_new B8 r8 cl.2.1.2
  have m3 := ne_new B8 r9 cl.2.2.1.2
  have Rs3 := rt_keep B2 (ext_of C3) (ni r1 r2 r3) (ni p1 p2 p3) (ni m1 m2 m3)
  have Hs3 := (C3.2.2 sh (ni s1 s2 s3)).trans Hs2
  have HW3 := (C3.2.2 W (ni w1 w2 w3)).trans HW2
  have hEv : ∀ x ∈ E, x.1 < 6 ∧ x.2 < 2048 := fun x hx => hTv x (by rw [hT]; exact List.mem_append_left _ hx)
  -- the word's moves
  obtain ⟨h4, pa4, ma4, e4, l9, D1, D2, D3, D4, D5, D6, D7, D8⟩ := put_loop (L := L) (xs := xs) (k := k) (F := F) (P := P) (rs := rs) (l2 := some (.int (Int32.ofNat E.length))) (l3 := some (.int (Int32.ofNat (E.length + A.length)))) HE hs hq (wMv s) 0 E Q pa ma e0 h3 none (by simp) (Nat.zero_le _) C2 hEv hQ (by omega) Hs3 HW3 hd2
  have l3 := C3.1
  have cr3 := rt_cells Rs3
  have Rs4 := rt_keep Rs3 D6 (ni r1 r2 r3) (ni p1 p2 p3) (ni m1 m2 m3)
  have Hs4 := (D6.2 sh (by omega) (ni s1 s2 s3)).trans Hs3
  -- what is behind again
  have dd : rt ≠ rs ∧ rt ≠ pr2 ∧ rt ≠ mr2 ∧ pa4 ≠ rs ∧ pa4 ≠ pr2 ∧ pa4 ≠ mr2 ∧ ma4 ≠ rs ∧ ma4 ≠ pr2 ∧ ma4 ≠ mr2 := by
    have c3 := cr3
    exact ⟨Ne.symm r1, Ne.symm p1, Ne.symm m1, ne_new D7 (Ne.symm r2) c3.1.2, ne_new D7 (Ne.symm p2) c3.2.1.2, ne_new D7 (Ne.symm m2) c3.2.2.1.2, ne_new D8 (Ne.symm r3) c3.1.2, ne_new D8 (Ne.symm p3) c3.2.1.2, ne_new D8 (Ne.symm m3) c3.2.2.1.2⟩
  obtain ⟨h5, pa5, ma5, e5, G1, G2, G3, G4, G5, G6, G7, G8⟩ := rt_addFromM (L := L) (xs := xs) (k := k) Rs4 D2 (i := 0) (Nat.zero_le _) dd (by rw [List.length_append]; omega)
  rw [List.drop_zero, List.append_assoc] at G2
  have Rs5 := rt_keep Rs4 G6 (ni (Ne.symm dd.1) (Ne.symm dd.2.2.2.1) (Ne.symm dd.2.2.2.2.2.2.1)) (ni (Ne.symm dd.2.1) (Ne.symm dd.2.2.2.2.1) (Ne.symm dd.2.2.2.2.2.2.2.1)) (ni (Ne.symm dd.2.2.1) (Ne.symm dd.2.2.2.2.2.1) (Ne.symm dd.2.2.2.2.2.2.2.2))
  have PL := put_len A3.1 B4 C3.1 D4 G4 D3 G3
  refine ⟨h5, pa5, ma5, e5, pr2, mr2, er2, ?_, G2, Rs5, ⟨Nat.le_trans D3 G3, B3⟩, ?_, ?_, ⟨?_, fun a ha hp => ?_⟩, ⟨?_, ?_⟩, ⟨B7, B8⟩, ?_⟩
  · have pe := rt_poseE (L := L) (xs := xs) (k := k) R hT2
    rw [List.length_append] at pe
    rw [e142_0, e142_1, kF_eq Hs (v := .ref rs) rfl, e142_4, e142_5, e142_6 rk (by simp [Value.category]), pe]
    simp only [mAft, Option.toList_some, List.cons_append, List.nil_append]
    rw [e142_9 (kR_eq Rs.2.choose_spec.choose_spec.1.1) (by simp), A1]
    simp only [mAft, Option.toList_none, List.nil_append]
    rw [e142_12, e142_13, kF_eq Hs1 (v := .ref rs) rfl, e142_16, e142_17, e142_18 (kR_eq A2.2.choose_spec.choose_spec.1.1) (by simp), B1]
    simp only [mAft, Option.toList_none, List.nil_append]
    rw [e142_21, e142_22, e142_23 (kR_eq R2.2.choose_spec.choose_spec.1.1) (by simp), C1]
    simp only [mAft, Option.toList_none, List.nil_append]
    rw [e142_26, e142_27]
    refine D1.trans ?_
    rw [e142_73, e142_74, e142_75, kF_eq Hs4 (v := .ref rs) rfl, e142_78, e142_79 (kR_eq D2.2.choose_spec.choose_spec.1.1) (by simp)]
    rw [show mW (mRo L xs) mTab 125 0 [some (.ref rt), some (.ref rs), some (.int 0), none, none] [] h4 k = _ from G1]
    simp only [mAft, Option.toList_none, List.nil_append]
    rw [e142_82]
  · exact PL.1
  · exact put_hz A3.2.1 B5 C3.2.1 D5 G5
  · exact PL.2.1
  · have f1 := A3.2.2 a (fun z => hp (Or.inr z))
    have f2 := B6.2 a (by rw [N1]; exact ha) (fun z => hp (Or.inr z))
    have f3 := C3.2.2 a (fun z => hp (Or.inl z))
    have f4 := D6.2 a (Nat.lt_of_lt_of_le ha (Nat.add_le_add_left PL.2.2.1 8)) (fun z => hp (Or.inl z))
    have f5 := G6.2 a (Nat.lt_of_lt_of_le ha (Nat.add_le_add_left PL.2.2.2 8)) (ni (fun z => hp (Or.inl (Or.inl z)))
      (fun z => by rcases D7 with w | w
                   · exact hp (Or.inl (Or.inr (Or.inl (z.trans w))))
                   · exact absurd (Nat.lt_of_lt_of_le ha (Nat.add_le_add_left PL.2.2.1 8)) (by rw [z]; exact Nat.not_lt.mpr w))
      (fun z => by rcases D8 with w | w
                   · exact hp (Or.inl (Or.inr (Or.inr (z.trans w))))
                   · exact absurd (Nat.lt_of_lt_of_le ha (Nat.add_le_add_left PL.2.2.1 8)) (by rw [z]; exact Nat.not_lt.mpr w)))
    exact f5.trans (f4.trans (f3.trans (f2.trans f1)))
  · exact put_ad PL.2.2.1 PL.2.2.2 D7 G7
  · exact put_ad PL.2.2.1 PL.2.2.2 D8 G8
  · have c4 := rt_cells Rs4
    exact ⟨Ne.symm (ne_new G7 dd.2.2.2.2.1 c4.2.1.2), Ne.symm (ne_new G8 dd.2.2.2.2.2.2.2.1 c4.2.1.2), Ne.symm (ne_new G7 dd.2.2.2.2.2.1 c4.2.2.1.2), Ne.symm (ne_new G8 dd.2.2.2.2.2.2.2.2 c4.2.2.1.2)⟩
end
