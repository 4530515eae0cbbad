theorem arr_cls {args : Array Value} {s : State} {ty : FieldType} (h : (Jvm.Cond.arrayClass ty).before args s = true) (ho : ∀ C, ty ≠ .object C) : ∃ cA, ArrOfT s cA ty ∧ va_RA s cA ty := by
  obtain ⟨c, k, comp, h1, h2, h3⟩ := Cond.arrayClass_spec h
  refine ⟨c, fun n z => ⟨fun k h => (by cases h), k, h2, comp, h3⟩, ?_⟩
  cases ty <;> first | exact h1 | exact absurd rfl (ho _)
theorem arr_clsO {args : Array Value} {s : State} {C : String} (h : (Jvm.Cond.arrayOver (.object C)).before args s = true) : ∃ cA, ArrOfT s cA (.object C) ∧ va_RA s cA (.object C) := by
  obtain ⟨comp, c, k, h1, -, h2, h3, h4⟩ := Cond.arrayOver_spec h
  exact ⟨c, fun n z => ⟨fun k h => (by cases h), k, h2, comp, h3⟩, k, comp, h2, h3, h1, h4⟩
theorem tys_known {args : Array Value} {s : State} (hts : ∀ w ∈ lw_tbl, w.before args s = true) : ∃ κ : Nat → Nat, ∀ (k : Nat) (q : ClassId × FieldType), (tyl κ)[k]? = some q → ArrOfT s q.1 q.2 ∧ va_RA s q.1 q.2 := by
  have hp : ∀ t, t < 3 → ∃ cA, ArrOfT s cA (mTy t) ∧ va_RA s cA (mTy t) := fun t ht =>
    arr_cls (hts _ (gF_in _ (of_decide_eq_true (List.all_eq_true.mp ar_words t (List.mem_range.mpr ht))))) (fun C h => by
      rcases (show t = 0 ∨ t = 1 ∨ t = 2 by omega) with rfl | rfl | rfl <;> cases h)
  obtain ⟨c0, h0⟩ := hp 0 (by decide)
  obtain ⟨c1, h1⟩ := hp 1 (by decide)
  obtain ⟨c2, h2⟩ := hp 2 (by decide)
  obtain ⟨c5, h5⟩ := arr_clsO (hts (.arrayOver (.object "Swervewright$Polygon")) (by decide +kernel))
  obtain ⟨c6, h6⟩ := arr_clsO (hts (.arrayOver (.object "Swervewright$Route")) (by decide +kernel))
  refine ⟨fun t => match t with | 0 => c0 | 1 => c1 | 2 => c2 | 5 => c5 | _ => c6, fun k q hq => ?_⟩
  match k, hq with
  | 0, hq => cases hq; exact h0
  | 1, hq => cases hq; exact h1
  | 2, hq => cases hq; exact h2
  | 3, hq => cases hq; exact h5
  | 4, hq => cases hq; exact h6
  | k + 5, hq => cases hq
theorem wd_X (k : Nat) (X : vw_C) (h : vwCl[k]? = some X) : ∀ w ∈ u_ws X.1 X.2.1 X.2.2, w ∈ lw_tbl := by
  have hk : k < 11 := (List.getElem?_eq_some_iff.mp h).1
  rcases (show k = 0 ∨ k = 1 ∨ k = 2 ∨ k = 3 ∨ k = 4 ∨ k = 5 ∨ k = 6 ∨ k = 7 ∨ k = 8 ∨ k = 9 ∨ k = 10 by omega) with rfl | rfl | rfl | rfl | rfl | rfl | rfl | rfl | rfl | rfl | rfl <;> cases h
  · exact tf_X0
  · exact tf_X1
  · exact tf_X3
  · exact tf_X4
  · exact tf_X5
  · exact tf_X6
  · exact tf_X7
  · exact tf_X8
  · exact tf_X9
  · exact tf_X10
  · exact tf_X11
theorem cls_known {args : Array Value} {s : State} (hts : ∀ w ∈ lw_tbl, w.before args s = true) : ∃ D : va_G, ∀ (k : Nat) (q : vw_C), vwCl[k]? = some q → u_Kn s q.1 q.2.1 q.2.2 (D.1 k) (D.2 k) := by
  have hp : ∀ k : Nat, ∃ (x : ClassId × (Nat → Nat)), ∀ q : vw_C, vwCl[k]? = some q → u_Kn s q.1 q.2.1 q.2.2 x.1 x.2 := fun k => by
    cases h : vwCl[k]? with
    | none => exact ⟨(0, fun _ => 0), fun q z => by cases z⟩
    | some X =>
      have hw := List.all_eq_true.mp cl_words _ (List.mem_of_getElem? h)
      simp only [Bool.and_eq_true, decide_eq_true_eq] at hw
      obtain ⟨cC, iS, hK⟩ := u_known (C := X.1) (T := X.2.1) (N := X.2.2) (n := X.2.2) (ws := lw_tbl) hts (wd_X k X h) (hts _ (gF_in _ hw.1))
      exact ⟨(cC, iS), fun q z => by cases z; exact hK⟩
  exact ⟨(fun k => (Classical.choose (hp k)).1, fun k => (Classical.choose (hp k)).2), fun k q hq => Classical.choose_spec (hp k) q hq⟩
theorem row_known {s : State} {b : Nat} {C n : String} {l : List Int32} {A : Nat → Prop} (hN : l.length < 2 ^ 31) (harr : (Jvm.Cond.arrayOf (.static C n "[I") .int).before #[Value.ref b] s = true) (hlen : (Jvm.Cond.eq (.length (.static C n "[I")) (.int (Int32.ofNat l.length))).before #[Value.ref b] s = true)
    (hel : ∀ j : Nat, j < l.length → (Jvm.Cond.eq (.elem (.static C n "[I") (.int (Int32.ofNat j))) (.int (l.getD j 0))).before #[Value.ref b] s = true) (hA : ∀ a : Nat, a < s.heap.size → ¬ A a)
    (hl : (Jvm.Cond.laysStatic C n "[I").before #[Value.ref b] s = true) (hini : (Jvm.Cond.initialized C).before #[Value.ref b] s = true) : ∃ t : Nat, va_T .int t l.length (fun j => .int (l.getD j 0)) A s s.heap ∧ va_Z C n "[I" (.ref t) A s s.heap := by
  obtain ⟨t, ht, hT⟩ := va_Tof hN harr (va_eqt hlen) (fun j hj => va_eqt (hel j hj)) hA
  exact ⟨t, hT, va_Zof hl hini ht hA⟩
theorem nest_in : ∀ w ∈ mNest, w ∈ lw_tbl := by decide +kernel
theorem strs_in : ∀ q ∈ mStrs, Jvm.Cond.stringRef RX11 q.1 q.2 ∈ lw_tbl := by decide +kernel
def gvF : List Jvm.Cond := flatC (Jvm.Cond.and given_1 narrow_1)
theorem row_1 {s : State} {b : Nat} {A : Nat → Prop} (hts : ∀ w ∈ lw_tbl, w.before #[Value.ref b] s = true) (hgv : ∀ w ∈ gvF, w.before #[Value.ref b] s = true) (hA : ∀ a : Nat, a < s.heap.size → ¬ A a) : ∃ t : Nat, va_T .int t 8 (fun j => .int (([1, 1, 0, -1, -1, -1, 0, 1] : List Int32).getD j 0)) A s s.heap ∧ va_Z "Swervewright$Lattice" "STEP_X" "[I" (.ref t) A s s.heap := by
  refine row_known (l := [1, 1, 0, -1, -1, -1, 0, 1]) (by decide) (hgv _ (by decide +kernel)) (hgv _ (by decide +kernel)) (fun j hj => ?_) hA (hts _ (by decide +kernel)) (hts _ (by decide +kernel))
  match j, hj with
  | 0, _ => exact hgv _ (by decide +kernel)
  | 1, _ => exact hgv _ (by decide +kernel)
  | 2, _ => exact hgv _ (by decide +kernel)
  | 3, _ => exact hgv _ (by decide +kernel)
  | 4, _ => exact hgv _ (by decide +kernel)
  | 5, _ => exact hgv _ (by decide +kernel)
  | 6, _ => exact hgv _ (by decide +kernel)
  | 7, _ => exact hgv _ (by decide +kernel)
  | j + 8, h => exact absurd h (by simp)
theorem row_2 {s : State} {b : Nat} {A : Nat → Prop} (hts : ∀ w ∈ lw_tbl, w.before #[Value.ref b] s = true) (hgv : ∀ w ∈ gvF, w.before #[Value.ref b] s = true) (hA : ∀ a : Nat, a < s.heap.size → ¬ A a) : ∃ t : Nat, va_T .int t 8 (fun j => .int (([0, 1, 1, 1, 0, -1, -1, -1] : List Int32).getD j 0)) A s s.heap ∧ va_Z "Swervewright$Lattice" "STEP_Y" "[I" (.ref t) A s s.heap := by
  refine row_known (l := [0, 1, 1, 1, 0, -1, -1, -1]) (by decide) (hgv _ (by decide +kernel)) (hgv _ (by decide +kernel)) (fun j hj => ?_) hA (hts _ (by decide +kernel)) (hts _ (by decide +kernel))
  match j, hj with
  | 0, _ => exact hgv _ (by decide +kernel)
  | 1, _ => exact hgv _ (by decide +kernel)
  | 2, _ => exact hgv _ (by decide +kernel)
  | 3, _ => exact hgv _ (by decide +kernel)
  | 4, _ => exact hgv _ (by decide +kernel)
  | 5, _ => exact hgv _ (by decide +kernel)
  | 6, _ => exact hgv _ (by decide +kernel)
  | 7, _ => exact hgv _ (by decide +kernel)
  | j + 8, h => exact absurd h (by simp)
theorem row_3 {s : State} {b : Nat} {A : Nat → Prop} (hts : ∀ w ∈ lw_tbl, w.before #[Value.ref b] s = true) (hgv : ∀ w ∈ gvF, w.before #[Value.ref b] s = true) (hA : ∀ a : Nat, a < s.heap.size → ¬ A a) : ∃ t : Nat, va_T .int t 8 (fun j => .int (([1, 2, 1, 2, 1, 2, -1, -1] : List Int32).getD j 0)) A s s.heap ∧ va_Z "Swervewright$Word" "FIRST" "[I" (.ref t) A s s.heap := by
  refine row_known (l := [1, 2, 1, 2, 1, 2, -1, -1]) (by decide) (hgv _ (by decide +kernel)) (hgv _ (by decide +kernel)) (fun j hj => ?_) hA (hts _ (by decide +kernel)) (hts _ (by decide +kernel))
  match j, hj with
  | 0, _ => exact hgv _ (by decide +kernel)
  | 1, _ => exact hgv _ (by decide +kernel)
  | 2, _ => exact hgv _ (by decide +kernel)
  | 3, _ => exact hgv _ (by decide +kernel)
  | 4, _ => exact hgv _ (by decide +kernel)
  | 5, _ => exact hgv _ (by decide +kernel)
  | 6, _ => exact hgv _ (by decide +kernel)
  | 7, _ => exact hgv _ (by decide +kernel)
  | j + 8, h => exact absurd h (by simp)
theorem row_4 {s : State} {b : Nat} {A : Nat → Prop} (hts : ∀ w ∈ lw_tbl, w.before #[Value.ref b] s = true) (hgv : ∀ w ∈ gvF, w.before #[Value.ref b] s = true) (hA : ∀ a : Nat, a < s.heap.size → ¬ A a) : ∃ t : Nat, va_T .int t 8 (fun j => .int (([0, 0, 0, 0, 2, 1, -1, -1] : List Int32).getD j 0)) A s s.heap ∧ va_Z "Swervewright$Word" "SECOND" "[I" (.ref t) A s s.heap := by
  refine row_known (l := [0, 0, 0, 0, 2, 1, -1, -1]) (by decide) (hgv _ (by decide +kernel)) (hgv _ (by decide +kernel)) (fun j hj => ?_) hA (hts _ (by decide +kernel)) (hts _ (by decide +kernel))
  match j, hj with
  | 0, _ => exact hgv _ (by decide +kernel)
  | 1, _ => exact hgv _ (by decide +kernel)
  | 2, _ => exact hgv _ (by decide +kernel)
  | 3, _ => exact hgv _ (by decide +kernel)
  | 4, _ => exact hgv _ (by decide +kernel)
  | 5, _ => exact hgv _ (by decide +kernel)
  | 6, _ => exact hgv _ (by decide +kernel)
  | 7, _ => exact hgv _ (by decide +kernel)
  | j + 8, h => exact absurd h (by simp)
theorem row_5 {s : State} {b : Nat} {A : Nat → Prop} (hts : ∀ w ∈ lw_tbl, w.before #[Value.ref b] s = true) (hgv : ∀ w ∈ gvF, w.before #[Value.ref b] s = true) (hA : ∀ a : Nat, a < s.heap.size → ¬ A a) : ∃ t : Nat, va_T .int t 8 (fun j => .int (([1, 2, 2, 1, 1, 2, -1, -1] : List Int32).getD j 0)) A s s.heap ∧ va_Z "Swervewright$Word" "THIRD" "[I" (.ref t) A s s.heap := by
  refine row_known (l := [1, 2, 2, 1, 1, 2, -1, -1]) (by decide) (hgv _ (by decide +kernel)) (hgv _ (by decide +kernel)) (fun j hj => ?_) hA (hts _ (by decide +kernel)) (hts _ (by decide +kernel))
  match j, hj with
  | 0, _ => exact hgv _ (by decide +kernel)
  | 1, _ => exact hgv _ (by decide +kernel)
  | 2, _ => exact hgv _ (by decide +kernel)
  | 3, _ => exact hgv _ (by decide +kernel)
  | 4, _ => exact hgv _ (by decide +kernel)
  | 5, _ => exact hgv _ (by decide +kernel)
  | 6, _ => exact hgv _ (by decide +kernel)
  | 7, _ => exact hgv _ (by decide +kernel)
  | j + 8, h => exact absurd h (by simp)
theorem sta_known {s : State} {b L : Nat} {xs : Nat → Int32} {A : Nat → Prop} (hts : ∀ w ∈ lw_tbl, w.before #[Value.ref b] s = true) (hgv : ∀ w ∈ gvF, w.before #[Value.ref b] s = true) (hA : ∀ a : Nat, a < s.heap.size → ¬ A a) (hX : va_X b L xs s s.heap) (hb : b < s.heap.size) (hcls : ∃ cid, s.vm.findClass RX11 = some cid) :
    ∃ ρ : Nat → Nat, (∀ j, 8 ≤ j → ρ j = s.heap.size + (j - 8)) ∧ ρ 0 = b ∧ mSta ρ (mRo L xs) A s s.heap := by
  obtain ⟨t1, T1, Z1⟩ := row_1 hts hgv hA
  obtain ⟨t2, T2, Z2⟩ := row_2 hts hgv hA
  obtain ⟨t3, T3, Z3⟩ := row_3 hts hgv hA
  obtain ⟨t4, T4, Z4⟩ := row_4 hts hgv hA
  obtain ⟨t5, T5, Z5⟩ := row_5 hts hgv hA
  refine ⟨fun j => match j with | 0 => b | 1 => t1 | 2 => t2 | 3 => t3 | 4 => t4 | 5 => t5 | 6 => 0 | 7 => 0 | j => s.heap.size + (j - 8), fun j hj => ?_, rfl, ⟨⟨hX, hb, hA b hb⟩, fun k h1 h2 => ?_⟩, fun k h1 h2 => ?_, ?_, ?_, fun w hw => ?_, fun q hq => ?_, ⟨fun E hE => ?_, fun y hy => ?_⟩, fun E E' h1 h2 h3 => ?_, ?_, ?_⟩
  · match j, hj with
    | j + 8, _ => rfl
  · match k, h1, h2 with
    | 1, _, _ => exact T1
    | 2, _, _ => exact T2
    | 3, _, _ => exact T3
    | 4, _, _ => exact T4
    | 5, _, _ => exact T5
  · match k, h1, h2 with
    | 1, _, _ => exact Z1
    | 2, _, _ => exact Z2
    | 3, _, _ => exact Z3
    | 4, _, _ => exact Z4
    | 5, _, _ => exact Z5
  · exact vx_Zqof (hts _ (by decide +kernel)) (hts _ (by decide +kernel)) (hgv _ (by decide +kernel)) hA
  · exact vx_Zqof (hts _ (by decide +kernel)) (hts _ (by decide +kernel)) (hgv _ (by decide +kernel)) hA
  · refine va_Nw.of ?_ (hts w (nest_in w hw))
    obtain ⟨a, i, x, o, rfl⟩ := mNest_m hw
    rfl
  · obtain ⟨cid, hcid⟩ := hcls
    have hw := hts _ (strs_in q hq)
    obtain ⟨k, cf, i, a, -, -, -, -, -, h9⟩ := Cond.stringRef_spec (o := none) (idx := []) hcid hw
    exact ⟨a, vk_R.of hw h9⟩
  · refine va_Nw.of rfl (hts _ ?_)
    rcases (show E = 0 ∨ E = 1 ∨ E = 2 by omega) with rfl | rfl | rfl <;> decide +kernel
  · refine va_Nw.of rfl (hts _ ?_)
    simp only [mDecl, List.mem_cons, List.not_mem_nil, or_false] at hy
    rcases hy with rfl | rfl | rfl <;> decide +kernel
  · refine va_Nc.of (hgv _ ?_)
    rcases (show E = 0 ∨ E = 1 ∨ E = 2 by omega) with rfl | rfl | rfl <;> rcases (show E' = 0 ∨ E' = 1 ∨ E' = 2 by omega) with rfl | rfl | rfl <;> first | exact absurd rfl h3 | decide +kernel
  · exact va_AO.of (hts _ (by decide +kernel))
  · exact va_AO.of (hts _ (by decide +kernel))
theorem law_ok : mTab[mLaw]? = some mMl := rfl
/-- the law's walk, out of the small machine's run -/
theorem glue {p : Program} {e : Env} {s : State} {m : MethodId} {below : List Frame} {meth : Method} {c : Code} (l : Launch) (hflags : l.flags = flags0) {b L : Nat} {xs : Nat → Int32} (C0 : lw_At p s m meth c b L xs) (hT : c.exceptionTable.toList = [])
    {n x1 : Nat} {h1 : List mCel} (hrun : rn (mRo L xs) mTab n mLaw 0 (mIn mMl [.ref 0]) [] [] 0 = some (.inl (some (.int 1)), h1, x1)) (hroom : h1.length + x1 ≤ 600064 ∧ hz h1 + 6 * x1 ≤ 7301640) :
    W p l e room_1 s m #[Value.ref b] below meth c s.heap [] 0 0 (lw_Z below #[Value.ref b] s) (entryFrame m ([Value.ref b] : List Value).toArray 7) := by
  obtain ⟨hx, hb, hr, hml, hown, hts, hX, hbl, hlocks, hgv⟩ := C0
  have hgv := flat_of_before _ hgv
  have hA : ∀ a : Nat, a < s.heap.size → ¬ (fun q : Nat => s.heap.size ≤ q) a := fun a h1 h2 => absurd h1 (Nat.not_lt.mpr h2)
  obtain ⟨κ, hκ⟩ := tys_known hts
  obtain ⟨D, hD⟩ := cls_known hts
  have hX11 := (hD 10 _ rfl).2.1
  obtain ⟨ρ, hρ, hρ0, hSt⟩ := sta_known (A := fun q : Nat => s.heap.size ≤ q) hts hgv hA hX hbl ⟨_, hX11⟩
  have hl : l.stackTraces = false := by unfold Launch.stackTraces; rw [hflags]; decide
  have C : mCtx p l s m #[Value.ref b] meth c mMl κ ρ D (mRo L xs) (fun q : Nat => s.heap.size ≤ q) := ⟨hx, hb, fun w hw => hts w (gF_in w hw), hown, ⟨hD, hκ⟩, hSt, fun _ h => h, hml, fun h => absurd h (by decide), hlocks, hl, fun k X hk w hw => hts w (wd_X k X hk w hw)⟩
  have hE : mL ρ (mMx mMl) (mIn mMl [.ref 0]) _ := mL_entry ρ [.ref 0] 7 (by decide) (fun v hv => by simp at hv; subst hv; rfl)
  rw [lg_entry_eq]
  have e0 : ([Value.ref 0].map (rv ρ)) = [Value.ref b] := by simp [rv, hρ0]
  rw [e0] at hE
  refine simW hl all_ok0 all_okc n law_ok hrun (in_ok (as := [.ref 0]) (sOk_cons.mpr ⟨Nat.succ_pos 7, sOk_nil⟩)) sOk_nil (fun c hc => absurd hc List.not_mem_nil) (R := room_1) (n0 := 8) (Nat.le_refl _) C ⟨by decide, by decide⟩ ⟨?_, ?_⟩ ?_ ?_ ρ s.heap [] _ (mAg_rf _ _) ⟨fun k q h => by simp [xWf] at h, ⟨fun i j p q h => by simp [xWf] at h, fun k q h => by simp [xWf] at h⟩, va_S.rf, fun j hj => ?_⟩ hE
  · show 0 + mC [] 0 h1 x1 ≤ 600064
    unfold mC; simp; omega
  · show 0 + mS [] 0 h1 x1 ≤ 7301640
    unfold mS; simp [hz]; have := hroom.2; unfold hz at this; omega
  · rw [hT]; rfl
  · intro i pc9 ρ' H locs ls hρ' hd hret hH
    rcases mRet_cases hret with ⟨r, rfl, hv, -⟩ | ⟨a, t, -, hv, -⟩ | ⟨a, -, hv, -⟩ | ⟨-, hv, -⟩
    · refine va_forget (fun q hq => hH.2.2.1.2.2 q hq) ?_
      refine W.widen (k := 600064) (n := 7301640) ?_ ?_ ?_
      · unfold mC; simp; omega
      · unfold mS; simp [hz]; have := hroom.2; unfold hz at this; omega
      · refine W.base ?_
        exact lw_ret (Drawn.sameBut.refl s.drawn lw_cs) hx hb hr hlocks hd
    · cases hv
    · cases hv
    · cases hv
  · simpa using hρ j (by simpa using hj)
