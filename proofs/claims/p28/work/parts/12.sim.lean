section SIM
variable {p : Program} {l : Launch} {e : Env} {R : Room} {s : State} {m : MethodId} {args : Array Value} {below : List Frame} {meth : Method} {c : Code} {M : mM} {κ ρ0 : Nat → Nat} {n0 : Nat} {D : va_G} {ro : Nat → Nat × (Nat → Int32)} {A : Nat → Prop} {Q : State → Prop}
variable {pc r1 r2 w len pc' : Nat} {lo lo' : List (Option Value)} {st st' : List Value} {h h' : List mCel} {cells slots : Nat}
theorem jmp {pc : Nat} {off : Int} (h : 0 ≤ (pc : Int) + off) : (pc : Int) + off = ((mTgt pc off : Nat) : Int) := by
  unfold mTgt
  exact (Int.toNat_of_nonneg h).symm
theorem vin {j : Int32} {n : Nat} (h : 0 ≤ j.toInt ∧ j.toInt < n) : vp_in j n := vp_in_iff.mpr h
/-- steps that leave the cells -/
theorem s_cmp (C : mCtx p l s m args meth c M κ ρ0 D ro A) {cc : Jvm.ClassFile.Cond} {off : Int} {x y : Int32} (hd : decode (mBy M) pc = .ok (.if_icmp cc off, 3)) (ht : 0 ≤ (pc : Int) + off)
    (kt : mCmp cc x y = true → mGo p l e R s m args below meth c M κ ρ0 n0 D A Q (mTgt pc off) lo st h cells slots) (kf : ¬ mCmp cc x y = true → mGo p l e R s m args below meth c M κ ρ0 n0 D A Q (pc + 3) lo st h cells slots) :
    mGo p l e R s m args below meth c M κ ρ0 n0 D A Q pc lo (.int y :: .int x :: st) h cells slots := by
  intro ρ H locs ls hρ hH hL
  cases cc
  · exact lv_icmp_eq C.1 C.2.1 hd (jmp ht) (fun q => kt (by simp [mCmp, q]) ρ H locs ls hρ hH hL) (fun q => kf (by simp [mCmp, q]) ρ H locs ls hρ hH hL)
  · exact lv_icmp_ne C.1 C.2.1 hd (jmp ht) (fun q => kt (by simp [mCmp, q]) ρ H locs ls hρ hH hL) (fun q => kf (by simpa [mCmp] using q) ρ H locs ls hρ hH hL)
  · exact lv_icmp_lt C.1 C.2.1 hd (jmp ht) (fun q => kt (by simp [mCmp, q]) ρ H locs ls hρ hH hL) (fun q => kf (by simp [mCmp, q]) ρ H locs ls hρ hH hL)
  · exact lv_icmp_ge C.1 C.2.1 hd (jmp ht) (fun q => kt (by simp [mCmp, q]) ρ H locs ls hρ hH hL) (fun q => kf (by simp [mCmp, q]) ρ H locs ls hρ hH hL)
  · exact lv_icmp_gt C.1 C.2.1 hd (jmp ht) (fun q => kt (by simp [mCmp, q]) ρ H locs ls hρ hH hL) (fun q => kf (by simp [mCmp, q]) ρ H locs ls hρ hH hL)
  · exact lv_icmp_le C.1 C.2.1 hd (jmp ht) (fun q => kt (by simp [mCmp, q]) ρ H locs ls hρ hH hL) (fun q => kf (by simp [mCmp, q]) ρ H locs ls hρ hH hL)
theorem s_if (C : mCtx p l s m args meth c M κ ρ0 D ro A) {cc : Jvm.ClassFile.Cond} {off : Int} {x : Int32} (hd : decode (mBy M) pc = .ok (.ifCond cc off, 3)) (ht : 0 ≤ (pc : Int) + off)
    (kt : mCmp cc x 0 = true → mGo p l e R s m args below meth c M κ ρ0 n0 D A Q (mTgt pc off) lo st h cells slots) (kf : ¬ mCmp cc x 0 = true → mGo p l e R s m args below meth c M κ ρ0 n0 D A Q (pc + 3) lo st h cells slots) :
    mGo p l e R s m args below meth c M κ ρ0 n0 D A Q pc lo (.int x :: st) h cells slots := by
  intro ρ H locs ls hρ hH hL
  cases cc
  · exact lv_if_eq C.1 C.2.1 hd (jmp ht) (fun q => kt (by simp [mCmp, q]) ρ H locs ls hρ hH hL) (fun q => kf (by simp [mCmp, q]) ρ H locs ls hρ hH hL)
  · exact lv_if_ne C.1 C.2.1 hd (jmp ht) (fun q => kt (by simp [mCmp, q]) ρ H locs ls hρ hH hL) (fun q => kf (by simpa [mCmp] using q) ρ H locs ls hρ hH hL)
  · exact lv_if_lt C.1 C.2.1 hd (jmp ht) (fun q => kt (by simp [mCmp, q]) ρ H locs ls hρ hH hL) (fun q => kf (by simp [mCmp, q]) ρ H locs ls hρ hH hL)
  · exact lv_if_ge C.1 C.2.1 hd (jmp ht) (fun q => kt (by simp [mCmp, q]) ρ H locs ls hρ hH hL) (fun q => kf (by simp [mCmp, q]) ρ H locs ls hρ hH hL)
  · exact lv_if_gt C.1 C.2.1 hd (jmp ht) (fun q => kt (by simp [mCmp, q]) ρ H locs ls hρ hH hL) (fun q => kf (by simp [mCmp, q]) ρ H locs ls hρ hH hL)
  · exact lv_if_le C.1 C.2.1 hd (jmp ht) (fun q => kt (by simp [mCmp, q]) ρ H locs ls hρ hH hL) (fun q => kf (by simp [mCmp, q]) ρ H locs ls hρ hH hL)
/-- one cell is written: the world behind it -/
theorem mHp_set {ρ : Nat → Nat} {a : Nat} {d c0 : mCel} {H H1 : Heap} {locs : List Loc} {k : Nat} (hH : mHp κ ρ D A s h H locs) (he : mCell h a = some d) (hat : va_at D vwCl (ρ a, rc κ ρ c0) H1) (z : H1.size = H.size) (oq : ∀ q : Nat, q ≠ ρ a → H1[q]? = H[q]?) : mHp κ ρ D A s (h.set (a - 8) c0) H1 (locs ++ [⟨ρ a, k⟩]) := by
  obtain ⟨hP, hD, hS, hN⟩ := hH
  obtain ⟨e1, e2, e3⟩ := xW_cell (κ := κ) (ρ := ρ) he
  have e4 : xW κ ρ (h.set (a - 8) c0) = (xW κ ρ h).set (a - 8) (ρ a, rc κ ρ c0) := by
    rw [show xW κ ρ (h.set (a - 8) c0) = _ from xWf_set κ ρ h 8 (a - 8) c0, show 8 + (a - 8) = a by omega]
  refine ⟨?_, ?_, hS.put z oq (hD.2 _ _ e1), ?_⟩
  · rw [e4]; exact hP.set hD e1 hat oq
  · rw [e4]; exact hD.set e1
  · intro j hj
    rw [List.length_set] at hj ⊢
    rw [z]; exact hN j hj
theorem K_ty (C : mCtx p l s m args meth c M κ ρ0 D ro A) {t : Nat} (ht : t < 3 ∨ t = 5 ∨ t = 6) : (tyl κ)[tI t]? = some (κ t, mTy t) := by
  rcases (show t = 0 ∨ t = 1 ∨ t = 2 ∨ t = 5 ∨ t = 6 by omega) with rfl | rfl | rfl | rfl | rfl <;> rfl
theorem s_ialoadR (C : mCtx p l s m args meth c M κ ρ0 D ro A) {a : Nat} {j : Int32} (hd : decode (mBy M) pc = .ok (.iaload, 1)) (ha : a < 6) (hj : 0 ≤ j.toInt ∧ j.toInt < (ro a).1)
    (kk : mGo p l e R s m args below meth c M κ ρ0 n0 D A Q (pc + 1) lo (.int ((ro a).2 j.toNatClampNeg) :: st) h cells slots) : mGo p l e R s m args below meth c M κ ρ0 n0 D A Q pc lo (.int j :: .ref a :: st) h cells slots := by
  intro ρ H locs ls hρ hH hL
  have hρa : ρ a = ρ0 a := hρ a (Or.inl (by omega))
  simp only [List.map_cons, rv, hρa]
  by_cases h0 : a = 0
  · subst h0
    obtain ⟨hX, hbl, hbA⟩ := C.2.2.2.2.2.1.1.1
    exact va_sld C.1 C.2.1 hX hbl hbA hH.2.2.1 (vin hj) hd (kk ρ H locs ls hρ hH hL)
  · exact va_ti C.1 C.2.1 (C.2.2.2.2.2.1.1.2 a (by omega) ha) hH.2.2.1 (vin hj) rfl hd (kk ρ H locs ls hρ hH hL)
theorem s_alenR (C : mCtx p l s m args meth c M κ ρ0 D ro A) {a : Nat} (hd : decode (mBy M) pc = .ok (.arraylength, 1)) (ha : a < 6)
    (kk : mGo p l e R s m args below meth c M κ ρ0 n0 D A Q (pc + 1) lo (.int (Int32.ofNat (ro a).1) :: st) h cells slots) : mGo p l e R s m args below meth c M κ ρ0 n0 D A Q pc lo (.ref a :: st) h cells slots := by
  intro ρ H locs ls hρ hH hL
  have hρa : ρ a = ρ0 a := hρ a (Or.inl (by omega))
  simp only [List.map_cons, rv, hρa]
  by_cases h0 : a = 0
  · subst h0
    obtain ⟨hX, hbl, hbA⟩ := C.2.2.2.2.2.1.1.1
    exact va_slen C.1 C.2.1 hX hbl hbA hH.2.2.1 hd (kk ρ H locs ls hρ hH hL)
  · exact va_tlen C.1 C.2.1 (C.2.2.2.2.2.1.1.2 a (by omega) ha) hH.2.2.1 rfl hd (kk ρ H locs ls hρ hH hL)
theorem s_iaload (C : mCtx p l s m args meth c M κ ρ0 D ro A) {a n : Nat} {f : Nat → Int32} {j : Int32} (hd : decode (mBy M) pc = .ok (.iaload, 1)) (he : mCell h a = some (.inl (0, n, .inl f))) (hj : 0 ≤ j.toInt ∧ j.toInt < n)
    (kk : mGo p l e R s m args below meth c M κ ρ0 n0 D A Q (pc + 1) lo (.int (f j.toNatClampNeg) :: st) h cells slots) : mGo p l e R s m args below meth c M κ ρ0 n0 D A Q pc lo (.int j :: .ref a :: st) h cells slots := by
  intro ρ H locs ls hρ hH hL
  exact va_iald C.1 C.2.1 C.2.2.2.2.1 hH.1 (a - 8) 0 (xW_cell he).1 rfl (vin hj) hd (kk ρ H locs ls hρ hH hL)
theorem s_baload (C : mCtx p l s m args meth c M κ ρ0 D ro A) {a n : Nat} {f : Nat → Int32} {j : Int32} (hd : decode (mBy M) pc = .ok (.baload, 1)) (he : mCell h a = some (.inl (1, n, .inl f))) (hj : 0 ≤ j.toInt ∧ j.toInt < n)
    (kk : mGo p l e R s m args below meth c M κ ρ0 n0 D A Q (pc + 1) lo (.int (f j.toNatClampNeg) :: st) h cells slots) : mGo p l e R s m args below meth c M κ ρ0 n0 D A Q pc lo (.int j :: .ref a :: st) h cells slots := by
  intro ρ H locs ls hρ hH hL
  exact va_zald C.1 C.2.1 C.2.2.2.2.1 hH.1 (a - 8) 1 (xW_cell he).1 rfl (vin hj) hd (kk ρ H locs ls hρ hH hL)
theorem s_faload (C : mCtx p l s m args meth c M κ ρ0 D ro A) {a n : Nat} {f : Nat → UInt32} {j : Int32} (hd : decode (mBy M) pc = .ok (.faload, 1)) (he : mCell h a = some (.inl (2, n, .inr (.inr (.inl f))))) (hj : 0 ≤ j.toInt ∧ j.toInt < n)
    (kk : mGo p l e R s m args below meth c M κ ρ0 n0 D A Q (pc + 1) lo (.float (f j.toNatClampNeg) :: st) h cells slots) : mGo p l e R s m args below meth c M κ ρ0 n0 D A Q pc lo (.int j :: .ref a :: st) h cells slots := by
  intro ρ H locs ls hρ hH hL
  exact va_fald C.1 C.2.1 C.2.2.2.2.1 hH.1 (a - 8) 2 (xW_cell he).1 rfl (vin hj) hd (kk ρ H locs ls hρ hH hL)
theorem s_fastore (C : mCtx p l s m args meth c M κ ρ0 D ro A) {a n : Nat} {f : Nat → UInt32} {j : Int32} {x : UInt32} (hd : decode (mBy M) pc = .ok (.fastore, 1)) (he : mCell h a = some (.inl (2, n, .inr (.inr (.inl f))))) (hj : 0 ≤ j.toInt ∧ j.toInt < n)
    (kk : mGo p l e R s m args below meth c M κ ρ0 n0 D A Q (pc + 1) lo st (h.set (a - 8) (.inl (2, n, .inr (.inr (.inl (vf_upd f j.toNatClampNeg x)))))) cells slots) : mGo p l e R s m args below meth c M κ ρ0 n0 D A Q pc lo (.float x :: .int j :: .ref a :: st) h cells slots := by
  intro ρ H locs ls hρ hH hL
  obtain ⟨e1, -, -⟩ := xW_cell (κ := κ) (ρ := ρ) he
  refine W.fast C.1 C.2.1 (hH.1 _ _ e1) ((C.2.2.2.2.1.2 2 _ rfl).1 n (fun j => .float (f j))) (fun q => by cases q) (by show ¬ (j < 0 ∨ (arrV _ _ _).slots.size ≤ _); rw [arrV_size]; exact vin hj) rfl rfl hd fun H1 z1 z oq => ?_
  refine kk ρ H1 _ ls hρ (mHp_set hH he ?_ z oq) hL
  show H1[ρ a]? = some (vp_cell _ _)
  rw [z1]
  rw [vp_cell_f, vp_cell_f, arrV_store]
  congr 2
  funext q
  by_cases hq : q = j.toNatClampNeg
  · subst hq
    simp [updV, vf_upd]
  · simp [updV, vf_upd, hq]
theorem s_copy (C : mCtx p l s m args meth c M κ ρ0 D ro A) (hn : n0 ≤ 8 + h.length) (ql : lOk (8 + h.length) lo) (qs : sOk (8 + h.length) st) (qh : hOk h) {a b n1 n2 k : Nat} {f g : Nat → Int32} {sp dp n : Int32} (hd : decode (mBy M) pc = .ok (.invokestatic k, 3)) (hl : Jvm.Cond.methodLink (mOwn M) k arraycopyName ∈ gF)
    (hb : mCell h b = some (.inl (0, n2, .inl f))) (ha : mCell h a = some (.inl (0, n1, .inl g))) (h1 : 0 ≤ sp.toInt ∧ 0 ≤ dp.toInt ∧ 0 ≤ n.toInt) (h4 : sp.toNatClampNeg + n.toNatClampNeg ≤ n2 ∧ dp.toNatClampNeg + n.toNatClampNeg ≤ n1) (hsum : (st.map Value.category).sum ≤ 8) (hR : 1 ≤ R.frames ∧ 26 ≤ R.locals)
    (kk : mGo p l e R s m args below meth c M κ ρ0 n0 D A Q (pc + 3) lo st (h.set (a - 8) (.inl (0, n1, .inl (va_cpy f g sp.toNatClampNeg dp.toNatClampNeg n.toNatClampNeg)))) cells slots) : mGo p l e R s m args below meth c M κ ρ0 n0 D A Q pc lo (.int n :: .int dp :: .ref a :: .int sp :: .ref b :: st) h cells slots := by
  intro ρ H locs ls hρ hH hL
  have e4 := xWf_set κ ρ h 8 (a - 8) (.inl (0, n1, .inl (va_cpy f g sp.toNatClampNeg dp.toNatClampNeg n.toNatClampNeg)))
  obtain ⟨e1, e2, e3⟩ := xW_cell (κ := κ) (ρ := ρ) ha
  obtain ⟨b1, b2, b3⟩ := xW_cell (κ := κ) (ρ := ρ) hb
  rw [show 8 + (a - 8) = a by omega] at e4
  have nn : ∀ z : Int32, 0 ≤ z.toInt → ¬ z < 0 := fun z hz q => by
    rw [Int32.lt_iff_toInt_lt] at q
    have : (0 : Int32).toInt = 0 := rfl
    omega
  have hml : c.maxLocals = ls.size := by rw [C.2.2.2.2.2.2.2.1, hL.1]
  have hcat : ((st.map (rv ρ)).map fun v => v.category).sum ≤ 8 := by
    have e : (st.map (rv ρ)).map (fun v => v.category) = st.map Value.category := by
      rw [List.map_map]
      exact List.map_congr_left fun v _ => rv_cat ρ v
    rw [e]; exact hsum
  have e9 : nativeFrameWords "java/lang/System" "arraycopy" 5 = 7 := by decide +kernel
  have q0 : hOk (h.set (a - 8) (.inl (0, n1, .inl (va_cpy f g sp.toNatClampNeg dp.toNatClampNeg n.toNatClampNeg)))) := hOk_set qh trivial
  refine va_copyi C.1 C.2.1 hml C.2.2.2.1 (C.2.2.1 _ hl) (C.2.2.1 _ cp_words.1) (C.2.2.1 _ cp_words.2.1) (C.2.2.1 _ cp_words.2.2) C.2.2.2.2.1 hH.1 hH.2.1 hH.2.2.1 (b - 8) (a - 8) 0 0 b1 e1 rfl rfl rfl (nn _ h1.1) (nn _ h1.2.1) (nn _ h1.2.2) h4.1 h4.2 (fun _ _ => rfl) hR.1 (by omega) hd fun H1 locs1 w1 w2 w3 => ?_
  have hag : mAg (8 + h.length) ρ (mSh (8 + h.length) H1.size ρ) := mSh_ag (by omega)
  have e5 := xW_ag (κ := κ) hag (by rw [List.length_set]; exact Nat.le_refl _) q0
  have k := kk (mSh (8 + h.length) H1.size ρ) H1 locs1 ls (mAg_tr hρ hag hn) ⟨?_, ?_, w3, ?_⟩ (mL_ag hag (Nat.le_refl _) ql hL)
  · rw [st_ag hag (Nat.le_refl _) qs] at k
    exact k
  · rw [e5, show xW κ ρ (h.set (a - 8) _) = _ from e4]; exact w1
  · rw [e5, show xW κ ρ (h.set (a - 8) _) = _ from e4]; exact w2
  · intro j hj
    rw [List.length_set] at hj ⊢
    exact mSh_at j hj
theorem s_iastore (C : mCtx p l s m args meth c M κ ρ0 D ro A) {a n : Nat} {f : Nat → Int32} {j x : Int32} (hd : decode (mBy M) pc = .ok (.iastore, 1)) (he : mCell h a = some (.inl (0, n, .inl f))) (hj : 0 ≤ j.toInt ∧ j.toInt < n)
    (kk : mGo p l e R s m args below meth c M κ ρ0 n0 D A Q (pc + 1) lo st (h.set (a - 8) (.inl (0, n, .inl (upd f j.toNatClampNeg x)))) cells slots) : mGo p l e R s m args below meth c M κ ρ0 n0 D A Q pc lo (.int x :: .int j :: .ref a :: st) h cells slots := by
  intro ρ H locs ls hρ hH hL
  obtain ⟨e1, -, -⟩ := xW_cell (κ := κ) (ρ := ρ) he
  refine W.iast C.1 C.2.1 (hH.1 _ _ e1) ((C.2.2.2.2.1.2 0 _ rfl).1 n (fun j => .int (f j))) (fun q => by cases q) (by show ¬ (j < 0 ∨ (arrV _ _ _).slots.size ≤ _); rw [arrV_size]; exact vin hj) rfl rfl hd fun H1 z1 z oq => ?_
  refine kk ρ H1 _ ls hρ (mHp_set hH he ?_ z oq) hL
  show H1[ρ a]? = some (vp_cell _ _)
  rw [z1]
  rw [vp_cell_i, vp_cell_i, arrV_store]
  congr 2
  funext q
  by_cases hq : q = j.toNatClampNeg
  · subst hq
    simp [updV, upd]
  · simp [updV, upd, hq]
theorem s_bastore (C : mCtx p l s m args meth c M κ ρ0 D ro A) {a n : Nat} {f : Nat → Int32} {j x : Int32} (hd : decode (mBy M) pc = .ok (.bastore, 1)) (he : mCell h a = some (.inl (1, n, .inl f))) (hj : 0 ≤ j.toInt ∧ j.toInt < n) (hx : x = 0 ∨ x = 1)
    (kk : mGo p l e R s m args below meth c M κ ρ0 n0 D A Q (pc + 1) lo st (h.set (a - 8) (.inl (1, n, .inl (upd f j.toNatClampNeg x)))) cells slots) : mGo p l e R s m args below meth c M κ ρ0 n0 D A Q pc lo (.int x :: .int j :: .ref a :: st) h cells slots := by
  intro ρ H locs ls hρ hH hL
  obtain ⟨e1, -, -⟩ := xW_cell (κ := κ) (ρ := ρ) he
  refine W.zast C.1 C.2.1 (hH.1 _ _ e1) ((C.2.2.2.2.1.2 1 _ rfl).1 n (fun j => .int (f j))) (fun q => by cases q) (by show ¬ (j < 0 ∨ (arrV _ _ _).slots.size ≤ _); rw [arrV_size]; exact vin hj) rfl rfl hd fun H1 z1 z oq => ?_
  refine kk ρ H1 _ ls hρ (mHp_set hH he ?_ z oq) hL
  show H1[ρ a]? = some (vp_cell _ _)
  have hn : narrow .boolean (.int x) = .int x := by rcases hx with rfl | rfl <;> rfl
  rw [hn] at z1
  rw [z1]
  rw [vp_cell_i, vp_cell_i, arrV_store]
  congr 2
  funext q
  by_cases hq : q = j.toNatClampNeg
  · subst hq
    simp [updV, upd]
  · simp [updV, upd, hq]
theorem mTy_obj {t : Nat} (ht : t = 5 ∨ t = 6) : ∃ C : String, mTy t = .object C := by rcases ht with rfl | rfl <;> exact ⟨_, rfl⟩
theorem s_aaload (C : mCtx p l s m args meth c M κ ρ0 D ro A) {a n t : Nat} {f : Nat → Option Nat} {j : Int32} (hd : decode (mBy M) pc = .ok (.aaload, 1)) (he : mCell h a = some (.inl (t, n, .inr (.inr (.inr (.inr f)))))) (ht : t = 5 ∨ t = 6) (hj : 0 ≤ j.toInt ∧ j.toInt < n)
    (kk : mGo p l e R s m args below meth c M κ ρ0 n0 D A Q (pc + 1) lo ((match f j.toNatClampNeg with | some b => .ref b | none => .null) :: st) h cells slots) : mGo p l e R s m args below meth c M κ ρ0 n0 D A Q pc lo (.int j :: .ref a :: st) h cells slots := by
  intro ρ H locs ls hρ hH hL
  obtain ⟨C9, hC9⟩ := mTy_obj ht
  refine va_aldq (C := C9) C.1 C.2.1 C.2.2.2.2.1 hH.1 (a - 8) (tI t) (xW_cell he).1 (by rw [← hC9]; exact K_ty C (by omega)) (vin hj) hd ?_
  have k1 := kk ρ H locs ls hρ hH hL
  cases e1 : f j.toNatClampNeg with
  | none => rw [e1] at k1; simpa [e1, va_rf, rv] using k1
  | some b => rw [e1] at k1; simpa [e1, va_rf, rv] using k1
theorem s_aastore (C : mCtx p l s m args meth c M κ ρ0 D ro A) {a n t b ci : Nat} {fs : List Value} {f : Nat → Option Nat} {j : Int32} (hd : decode (mBy M) pc = .ok (.aastore, 1)) (he : mCell h a = some (.inl (t, n, .inr (.inr (.inr (.inr f)))))) (hb : mCell h b = some (.inr (ci, fs))) (ht : (t = 5 ∧ ci = 3) ∨ (t = 6 ∧ ci = 6)) (hj : 0 ≤ j.toInt ∧ j.toInt < n)
    (kk : mGo p l e R s m args below meth c M κ ρ0 n0 D A Q (pc + 1) lo st (h.set (a - 8) (.inl (t, n, .inr (.inr (.inr (.inr (va_up f j.toNatClampNeg (some b)))))))) cells slots) : mGo p l e R s m args below meth c M κ ρ0 n0 D A Q pc lo (.ref b :: .int j :: .ref a :: st) h cells slots := by
  intro ρ H locs ls hρ hH hL
  obtain ⟨e1, -, -⟩ := xW_cell (κ := κ) (ρ := ρ) he
  obtain ⟨e2, -, -⟩ := xW_cell (κ := κ) (ρ := ρ) hb
  obtain ⟨r, hr, hty⟩ : ∃ r : vw_C, vwCl[ci]? = some r ∧ mTy t = .object r.1 := by
    rcases ht with ⟨rfl, rfl⟩ | ⟨rfl, rfl⟩
    · exact ⟨_, rfl, rfl⟩
    · exact ⟨_, rfl, rfl⟩
  have hlt : j.toNatClampNeg < n := Nat.not_le.mp fun q => vin hj (Or.inr q)
  have h0 : ¬ j < 0 := fun q => vin hj (Or.inl q)
  have hK := C.2.2.2.2.1
  have ht2 : (tyl κ)[tI t]? = some (κ t, .object r.1) := by rw [← hty]; exact K_ty C (by omega)
  obtain ⟨r', hr', cellV, g1, g2, g3, -⟩ := hH.1 _ _ e2
  have hcls := (hK.1 ci r hr).2
  obtain ⟨kA, comp, k1, k2, k3, -⟩ := (hK.2 (tI t) _ ht2).2
  have hcomp : comp = D.1 ci := Option.some.inj (k3.symm.trans hcls.1)
  subst hcomp
  obtain ⟨kC, hkC, -⟩ := hcls.2
  refine W.aast C.1 C.2.1 (hH.1 _ _ e1) (fun q h => by cases h) (fun h => by cases h) k1 k2 rfl hkC ⟨h0, by show _ < (arrV _ _ _).slots.size; rw [arrV_size]; exact hlt⟩ g1 (fun q h => by rw [g3] at h; cases h) (by rw [g2]; exact hkC) (by rw [g2]; exact va_assign hcls) rfl rfl hd fun H1 z1 z oq => ?_
  refine kk ρ H1 _ ls hρ (mHp_set hH he ?_ z oq) hL
  show H1[ρ a]? = some (vp_cell _ _)
  rw [z1]
  rw [vp_cell_q, vp_cell_q, arrV_store]
  congr 2
  funext q
  by_cases hq : q = j.toNatClampNeg
  · subst hq
    simp [updV, va_up, va_rf]
  · simp [updV, va_up, hq]
theorem s_aastoreN (C : mCtx p l s m args meth c M κ ρ0 D ro A) {a n t : Nat} {f : Nat → Option Nat} {j : Int32} (hd : decode (mBy M) pc = .ok (.aastore, 1)) (he : mCell h a = some (.inl (t, n, .inr (.inr (.inr (.inr f)))))) (ht : t = 5 ∨ t = 6) (hj : 0 ≤ j.toInt ∧ j.toInt < n)
    (kk : mGo p l e R s m args below meth c M κ ρ0 n0 D A Q (pc + 1) lo st (h.set (a - 8) (.inl (t, n, .inr (.inr (.inr (.inr (va_up f j.toNatClampNeg none))))))) cells slots) : mGo p l e R s m args below meth c M κ ρ0 n0 D A Q pc lo (.null :: .int j :: .ref a :: st) h cells slots := by
  intro ρ H locs ls hρ hH hL
  obtain ⟨e1, -, -⟩ := xW_cell (κ := κ) (ρ := ρ) he
  obtain ⟨C9, hC9⟩ := mTy_obj ht
  have hK := C.2.2.2.2.1
  have ht2 : (tyl κ)[tI t]? = some (κ t, .object C9) := by rw [← hC9]; exact K_ty C (by omega)
  refine va_WaastN (C := C9) C.1 C.2.1 (hH.1 _ _ e1) ((hK.2 (tI t) _ ht2).1 n (fun j => va_rf (f j))) (fun h => by cases h) (by show ¬ (j < 0 ∨ (arrV _ _ _).slots.size ≤ _); rw [arrV_size]; exact vin hj) rfl rfl hd fun H1 z1 z oq => ?_
  refine kk ρ H1 _ ls hρ (mHp_set hH he ?_ z oq) hL
  show H1[ρ a]? = some (vp_cell _ _)
  rw [z1]
  rw [vp_cell_q, vp_cell_q, arrV_store]
  congr 2
  funext q
  by_cases hq : q = j.toNatClampNeg
  · subst hq
    simp [updV, va_up, va_rf]
  · simp [updV, va_up, hq]
theorem s_alen (C : mCtx p l s m args meth c M κ ρ0 D ro A) {a n t : Nat} {x : (Nat → Int32) ⊕ (Nat → Int64) ⊕ (Nat → UInt32) ⊕ (Nat → UInt64) ⊕ (Nat → Option Nat)} (hd : decode (mBy M) pc = .ok (.arraylength, 1)) (he : mCell h a = some (.inl (t, n, x))) (ht : t < 3 ∨ t = 5 ∨ t = 6)
    (kk : mGo p l e R s m args below meth c M κ ρ0 n0 D A Q (pc + 1) lo (.int (Int32.ofNat n) :: st) h cells slots) : mGo p l e R s m args below meth c M κ ρ0 n0 D A Q pc lo (.ref a :: st) h cells slots := by
  intro ρ H locs ls hρ hH hL
  obtain ⟨e1, -, -⟩ := xW_cell (κ := κ) (ρ := ρ) he
  rcases x with f | f | f | f | f <;> exact va_alen C.1 C.2.1 C.2.2.2.2.1 hH.1 (a - 8) (tI t) e1 (K_ty C ht) rfl hd (kk ρ H locs ls hρ hH hL)
theorem s_getf (C : mCtx p l s m args meth c M κ ρ0 D ro A) {a k : Nat} {fs : List Value} {v : Value} {C9 : String} {T : u_T} {N : Nat} (hd : decode (mBy M) pc = .ok (.getfield k, 3)) (he : mCell h a = some (.inr (r1, fs))) (hv : fs[r2]? = some v)
    (hc : vwCl[r1]? = some (C9, T, N)) (hk : r2 < N) (hl : Jvm.Cond.fieldLink (mOwn M) k C9 (T r2).2.1 (T r2).2.2.1 ∈ gF) (h1 : (T r2).1 = C9)
    (kk : mGo p l e R s m args below meth c M κ ρ0 n0 D A Q (pc + 3) lo (v :: st) h cells slots) : mGo p l e R s m args below meth c M κ ρ0 n0 D A Q pc lo (.ref a :: st) h cells slots := by
  intro ρ H locs ls hρ hH hL
  exact va_get C.1 C.2.1 (C.2.2.2.2.2.2.2.2.2.2.2 r1 _ hc) (fun _ h => h) C.2.2.2.1 C.2.2.2.2.1 hH.1 (a - 8) (xW_cell he).1 hc r2 hk (C.2.2.1 _ hl) (fun x hx => by rw [h1] at hx; exact hx) (v := rv ρ v) (by rw [List.getElem?_map, hv]; rfl) hd (kk ρ H locs ls hρ hH hL)
theorem st_names {k N : Nat} {C9 : String} {T : u_T} (hc : vwCl[k]? = some (C9, T, N)) : (∀ a, a < N → ∀ b, b < N → a ≠ b → (T a).2.1 ≠ (T b).2.1) ∧ ∀ a, a < N → ∃ ty, parseFieldDescriptor (T a).2.2.1 = some ty := by
  have hk : k < 11 := (List.getElem?_eq_some_iff.mp hc).1
  have h1 := List.all_eq_true.mp st_okn k (List.mem_range.mpr hk)
  have h2 := List.all_eq_true.mp st_okt k (List.mem_range.mpr hk)
  simp only [hc] at h1 h2
  refine ⟨fun a ha b hb hab => ?_, fun a ha => ?_⟩
  · have h3 := List.all_eq_true.mp (List.all_eq_true.mp h1 a (List.mem_range.mpr ha)) b (List.mem_range.mpr hb)
    rcases of_decide_eq_true h3 with q | q
    · exact absurd q hab
    · exact q
  · exact Option.isSome_iff_exists.mp (List.all_eq_true.mp h2 a (List.mem_range.mpr ha))
theorem s_putf (C : mCtx p l s m args meth c M κ ρ0 D ro A) {a k ci : Nat} {fs : List Value} {v : Value} {C9 : String} {T : u_T} {N : Nat} {ty : FieldType} {fin : Bool} (hd : decode (mBy M) pc = .ok (.putfield k, 3)) (he : mCell h a = some (.inr (ci, fs))) (hl9 : r2 < fs.length)
    (hc : vwCl[ci]? = some (C9, T, N)) (hk : r2 < N) (hl : Jvm.Cond.fieldLink (mOwn M) k C9 (T r2).2.1 (T r2).2.2.1 ∈ gF) (h1 : (T r2).1 = C9) (hf : (T r2).2.2.2 = fin) (hf2 : fin = true → C9 = mOwn M ∧ (mY M).name = "<init>")
    (hty : parseFieldDescriptor (T r2).2.2.1 = some ty) (hn : ∀ ρ : Nat → Nat, narrow ty (rv ρ v) = rv ρ v) (hfit : ∀ ρ : Nat → Nat, fits ty (rv ρ v) = true)
    (kk : mGo p l e R s m args below meth c M κ ρ0 n0 D A Q (pc + 3) lo st (h.set (a - 8) (.inr (ci, fs.set r2 v))) cells slots) : mGo p l e R s m args below meth c M κ ρ0 n0 D A Q pc lo (v :: .ref a :: st) h cells slots := by
  intro ρ H locs ls hρ hH hL
  obtain ⟨e1, -, -⟩ := xW_cell (κ := κ) (ρ := ρ) he
  have hts := C.2.2.2.2.2.2.2.2.2.2.2 ci _ hc
  obtain ⟨hnm, hpf⟩ := st_names hc
  have hpf' : ∀ j, j < N → parseFieldDescriptor (T j).2.2.1 = some ((parseFieldDescriptor (T j).2.2.1).getD .int) := fun j hj => by
    obtain ⟨ty, h9⟩ := hpf j hj
    rw [h9]; rfl
  have hap := va_apart (own := mOwn M) hts (fun _ h => h) (fun j => (parseFieldDescriptor (T j).2.2.1).getD .int) hpf' hnm C.2.2.2.2.1 hc
  obtain ⟨r, g1, cell, q1, q2, q3, q4⟩ := hH.1 _ _ e1
  have hr : r = (C9, T, N) := Option.some.inj (g1.symm.trans hc)
  subst hr
  obtain ⟨hS, hfc, kC, hkC, hkind⟩ := C.2.2.2.2.1.1 ci _ hc
  obtain ⟨cf, kf, fi, f, hi, hsl⟩ := hS r2 hk
  have hlay := hts _ (u_in_lay hk)
  unfold u_lay at hlay
  have hst := (u_facts hfc hkC (u_lays hts (fun _ h => h) hk) hi).1
  have hsame : s.fieldFound? C9 (T r2).2.1 (T r2).2.2.1 = some (cf, kf, fi, f) := by rw [h1] at hi; exact hi
  have fin9 : ∀ H' : Heap, H'[ρ a]? = some (cell.setSlot f.slot (rv ρ v)) → H'.size = H.size → (∀ q, q ≠ ρ a → H'[q]? = H[q]?) → W p l e R s m args below meth c H' (locs ++ [⟨ρ a, f.slot⟩]) cells slots Q (F0 m (pc + 3) ls (st.map (rv ρ))) := fun H' z1 z2 z3 => by
    rw [hsl] at z1 ⊢
    refine kk ρ H' _ ls hρ (mHp_set hH he ?_ z2 z3) hL
    refine ⟨_, hc, ?_⟩
    rw [List.map_set]
    exact t_OB.to (V := updV (vp_V (fs.map (rv ρ))) r2 (rv ρ v)) ⟨_, z1, q2, q3, t_set q4 hap hk _⟩ (fun j _ => vp_updV_set (by rw [List.length_map]; exact hl9) _ j)
  cases fin with
  | false =>
    rw [if_neg (by rw [hf]; decide)] at hlay
    have h6 := u_store hfc hkC hkind hlay hi hty (hn ρ) (hfit ρ)
    exact W.putK C.1 C.2.1 (f := f) ⟨C.2.2.2.1, C.2.2.1 _ hl, ⟨_, _, _, hsame⟩, hst⟩ (by rw [q2]; exact h6) q1 q3 (by rw [hsl]; exact k2_hasslot (q4 r2 hk)) rfl rfl hd fin9
  | true =>
    obtain ⟨hC9, hin⟩ := hf2 rfl
    rw [if_pos hf] at hlay
    have hcf : m.cls = cf := by
      obtain ⟨_, _, c', _, _, _, -, -, hf', -, -, -, hown2, -⟩ := Cond.laysFinal_spec hlay
      have e1 : c' = cf := by have := hi.symm.trans hf'; simp at this; exact this.1.symm
      rw [h1, hC9] at hown2
      rw [← e1]; exact Option.some.inj (C.2.2.2.1.symm.trans hown2)
    have h6 := u_fits hfc hkC hkind (Or.inr hlay) hi hty (hn ρ) (hfit ρ)
    exact W.putFinK C.1 C.2.1 C.2.2.2.1 (C.2.2.1 _ hl) hsame hst hcf (C.2.2.2.2.2.2.2.2.1 hin) (by rw [q2]; exact h6) q1 q3 (by rw [hsl]; exact k2_hasslot (q4 r2 hk)) rfl rfl hd fin9
theorem s_gets (C : mCtx p l s m args meth c M κ ρ0 D ro A) {k : Nat} (hd : decode (mBy M) pc = .ok (.getstatic k, 3)) (hr1 : 1 ≤ r1) (hr2 : r1 < 6) (hl : Jvm.Cond.fieldLink (mOwn M) k (mSC r1).1 (mSC r1).2 "[I" ∈ gF)
    (kk : mGo p l e R s m args below meth c M κ ρ0 n0 D A Q (pc + 3) lo (.ref r1 :: st) h cells slots) : mGo p l e R s m args below meth c M κ ρ0 n0 D A Q pc lo st h cells slots := by
  intro ρ H locs ls hρ hH hL
  exact va_gets C.1 C.2.1 (C.2.2.2.2.2.1.2.1 r1 hr1 hr2) hH.2.2.1 C.2.2.2.1 (C.2.2.1 _ hl) (fun _ h => h) hd (by have := kk ρ H locs ls hρ hH hL; rw [List.map_cons, show rv ρ (.ref r1) = .ref (ρ0 r1) by rw [← hρ r1 (Or.inl (by omega))]; rfl] at this; exact this)
/-- a cell more: the world behind it -/
theorem mHp_new {ρ : Nat → Nat} {c0 : mCel} {H H1 : Heap} {locs : List Loc} (C : mCtx p l s m args meth c M κ ρ0 D ro A) (hH : mHp κ ρ D A s h H locs) (hat : va_at D vwCl (H.size, rc κ ρ c0) H1) (z : H1.size = H.size + 1) (oq : ∀ q : Nat, q < H.size → H1[q]? = H[q]?) : mHp κ ρ D A s (h ++ [c0]) H1 locs ∧ ρ (8 + h.length) = H.size := by
  obtain ⟨hP, hD, hS, hN⟩ := hH
  have e0 : ρ (8 + h.length) = H.size := by rw [hN _ (Nat.le_refl _)]; omega
  have e4 : xW κ ρ (h ++ [c0]) = xW κ ρ h ++ [(H.size, rc κ ρ c0)] := by
    rw [show xW κ ρ (h ++ [c0]) = _ from xWf_app κ ρ h 8 c0, e0]
  have hk : ∀ (k : Nat) (x : Nat × va_E), (xW κ ρ h)[k]? = some x → H1[x.1]? = H[x.1]? := fun k x hx => oq x.1 ((hP k x hx).lt)
  refine ⟨⟨?_, ?_, ⟨Nat.le_trans hS.1 (by omega), fun x h1 h2 => (oq x (Nat.lt_of_lt_of_le h1 hS.1)).trans (hS.2.1 x h1 h2), hS.2.2⟩, ?_⟩, e0⟩
  · rw [e4]
    refine (hP.kept hk).app (fun k x hx => ?_)
    have hz : k < 1 := (List.getElem?_eq_some_iff.mp hx).1
    rw [show k = 0 by omega] at hx
    cases hx
    exact hat
  · rw [e4]
    exact hD.push hP rfl (C.2.2.2.2.2.2.1 _ hS.1)
  · intro j hj
    rw [List.length_append, List.length_singleton] at hj ⊢
    rw [hN j (by omega), z]
    omega
theorem mclamp {n : Int32} (h0 : 0 ≤ n.toInt) : ¬ n < 0 ∧ (n.toNatClampNeg : Int) = n.toInt := by
  refine ⟨fun q => ?_, ?_⟩
  · rw [Int32.lt_iff_toInt_lt] at q
    have : (0 : Int32).toInt = 0 := rfl
    omega
  · show ((n.toInt.toNat : Nat) : Int) = n.toInt
    exact Int.toNat_of_nonneg h0
theorem s_newarr (C : mCtx p l s m args meth c M κ ρ0 D ro A) {t : ArrayType} {n : Int32} (hd : decode (mBy M) pc = .ok (.newarray t, 2)) (ht : newarray.typeOf t = mTy r1) (hr : r1 < 3) (hn : 0 ≤ n.toInt ∧ n.toInt ≤ 1000000)
    (hroom : cells + 1 ≤ R.cells ∧ slots + n.toNatClampNeg ≤ R.slots)
    (kk : mGo p l e R s m args below meth c M κ ρ0 n0 D A Q (pc + 2) lo (.ref (8 + h.length) :: st) (h ++ [.inl (r1, mZero (mTy r1) n.toNatClampNeg)]) (cells + 1) (slots + n.toNatClampNeg)) : mGo p l e R s m args below meth c M κ ρ0 n0 D A Q pc lo (.int n :: st) h cells slots := by
  intro ρ H locs ls hρ hH hL
  obtain ⟨hn0, hn1⟩ := mclamp hn.1
  have hw : Jvm.Cond.arrayClass (newarray.typeOf t) ∈ gF := by
    rw [ht]
    exact of_decide_eq_true (List.all_eq_true.mp ar_words r1 (List.mem_range.mpr hr))
  have hb : componentBytes (newarray.typeOf t) ≤ 8 := by cases t <;> decide
  have hb2 : n.toNatClampNeg * componentBytes (newarray.typeOf t) ≤ 536870912 := Nat.le_trans (Nat.mul_le_mul (show n.toNatClampNeg ≤ 1000000 by omega) hb) (by decide)
  refine va_newaK C.1 C.2.1 (C.2.2.1 _ hw) rfl hd rfl hn0 rfl hb2 hroom.1 hroom.2 rfl fun H1 cA e1 z1 o1 hAr hNm => ?_
  have hcA : cA = κ r1 := by
    have h1 := (C.2.2.2.2.1.2 (tI r1) _ (K_ty C (by omega))).2
    rw [ht] at hNm
    have h2 : s.vm.findClass ("[" ++ (mTy r1).toString) = some (κ r1) := by
      rcases (show r1 = 0 ∨ r1 = 1 ∨ r1 = 2 by omega) with rfl | rfl | rfl <;> exact h1
    exact Option.some.inj (hNm.symm.trans h2)
  subst hcA
  obtain ⟨hH1, e0⟩ := mHp_new (c0 := .inl (r1, mZero (mTy r1) n.toNatClampNeg)) C hH (by
    rw [ht] at e1
    rcases (show r1 = 0 ∨ r1 = 1 ∨ r1 = 2 by omega) with rfl | rfl | rfl <;> exact e1) z1 o1
  have k1 := kk ρ H1 locs ls hρ hH1 hL
  rw [List.map_cons, show rv ρ (.ref (8 + h.length)) = .ref (ρ (8 + h.length)) from rfl, e0] at k1
  exact k1
theorem s_anew (C : mCtx p l s m args meth c M κ ρ0 D ro A) {k : Nat} {n : Int32} (hd : decode (mBy M) pc = .ok (.anewarray k, 3)) (hr : r1 = 5 ∨ r1 = 6) (hl : Jvm.Cond.classLink (mOwn M) k (if r1 = 5 then "Swervewright$Polygon" else "Swervewright$Route") ∈ gF) (hn : 0 ≤ n.toInt ∧ n.toInt ≤ 1000000)
    (hroom : cells + 1 ≤ R.cells ∧ slots + n.toNatClampNeg ≤ R.slots)
    (kk : mGo p l e R s m args below meth c M κ ρ0 n0 D A Q (pc + 3) lo (.ref (8 + h.length) :: st) (h ++ [.inl (r1, mZero (mTy r1) n.toNatClampNeg)]) (cells + 1) (slots + n.toNatClampNeg)) : mGo p l e R s m args below meth c M κ ρ0 n0 D A Q pc lo (.int n :: st) h cells slots := by
  intro ρ H locs ls hρ hH hL
  obtain ⟨hn0, hn1⟩ := mclamp hn.1
  have hao : va_AO (if r1 = 5 then "Swervewright$Polygon" else "Swervewright$Route") s := by
    rcases hr with rfl | rfl
    · exact C.2.2.2.2.2.1.2.2.2.2.2.2.2.2.1
    · exact C.2.2.2.2.2.1.2.2.2.2.2.2.2.2.2
  refine W.anew C.1 C.2.1 C.2.2.2.1 (C.2.2.1 _ hl) (va_AO.use hao) rfl hd rfl hn0 (by omega) hroom.1 hroom.2 fun cA kA comp f1 f2 f3 f4 => ?_
  generalize hG : H.push ({ cls := cA, slots := Array.replicate n.toNatClampNeg .null, vm := .none } : Cell) = H1
  have z1 : H1.size = H.size + 1 := by rw [← hG, Array.size_push]
  have e1 : H1[H.size]? = some (arrV cA n.toNatClampNeg (fun _ => .null)) := by rw [← hG, Array.getElem?_push_size, ← arrV_new]
  have o1 : ∀ q : Nat, q < H.size → H1[q]? = H[q]? := fun q hq => by rw [← hG, Array.getElem?_push, if_neg (Nat.ne_of_lt hq)]
  have hcA : cA = κ r1 := by
    have h1 := (C.2.2.2.2.1.2 (tI r1) _ (K_ty C (by omega))).2
    rcases hr with rfl | rfl
    · obtain ⟨_, _, _, _, _, h4⟩ := h1
      exact Option.some.inj (f1.symm.trans h4)
    · obtain ⟨_, _, _, _, _, h4⟩ := h1
      exact Option.some.inj (f1.symm.trans h4)
  subst hcA
  obtain ⟨hH1, e0⟩ := mHp_new (c0 := .inl (r1, mZero (mTy r1) n.toNatClampNeg)) C hH (by
    rcases hr with rfl | rfl <;> exact e1) z1 o1
  have k1 := kk ρ H1 locs ls hρ hH1 hL
  rw [List.map_cons, show rv ρ (.ref (8 + h.length)) = .ref (ρ (8 + h.length)) from rfl, e0] at k1
  exact k1
theorem s_new (C : mCtx p l s m args meth c M κ ρ0 D ro A) {k : Nat} {C9 : String} {T : u_T} {N : Nat} (hd : decode (mBy M) pc = .ok (.new k, 3)) (hc : vwCl[r1]? = some (C9, T, N)) (hl : Jvm.Cond.classLink (mOwn M) k C9 ∈ gF)
    (hroom : cells + 1 ≤ R.cells ∧ slots + N ≤ R.slots)
    (kk : mGo p l e R s m args below meth c M κ ρ0 n0 D A Q (pc + 3) lo (.ref (8 + h.length) :: st) (h ++ [.inr (r1, mFls T N)]) (cells + 1) (slots + N)) : mGo p l e R s m args below meth c M κ ρ0 n0 D A Q pc lo st h cells slots := by
  intro ρ H locs ls hρ hH hL
  have hr12 : r1 < 11 := (List.getElem?_eq_some_iff.mp hc).1
  have hw := List.all_eq_true.mp cl_words _ (List.mem_of_getElem? hc)
  simp only [Bool.and_eq_true, decide_eq_true_eq] at hw
  have hKn := C.2.2.2.2.1.1 r1 _ hc
  have hts := C.2.2.2.2.2.2.2.2.2.2.2 r1 _ hc
  obtain ⟨hnm, hpf⟩ := st_names hc
  have hpf' : ∀ j, j < N → parseFieldDescriptor (T j).2.2.1 = some ((parseFieldDescriptor (T j).2.2.1).getD .int) := fun j hj => by
    obtain ⟨ty, h9⟩ := hpf j hj
    rw [h9]; rfl
  refine W.newcK C.1 C.2.1 C.2.2.2.1 (C.2.2.1 _ hl) (C.2.2.1 _ hw.1) (C.2.2.1 _ hw.2) rfl hd hroom.1 hroom.2 hKn.2.1 rfl fun H1 kC hkC e1 z1 o1 => ?_
  obtain ⟨hH1, e0⟩ := mHp_new (c0 := .inr (r1, mFls T N)) C hH (by
    refine ⟨_, hc, (u_born _ hts (fun _ h => h) hKn hkC e1 hpf').to fun j hj => ?_⟩
    obtain ⟨ty, h9⟩ := hpf j hj
    simp only [vp_V, h9, Option.getD_some]
    rw [List.getD_eq_getElem?_getD, List.getElem?_map, mFls, List.getElem?_map, List.getElem?_range hj]
    simp only [Option.map_some, Option.getD_some, mFl, h9]
    cases ty <;> rfl) z1 o1
  have k1 := kk ρ H1 locs ls hρ hH1 hL
  rw [List.map_cons, show rv ρ (.ref (8 + h.length)) = .ref (ρ (8 + h.length)) from rfl, e0] at k1
  exact k1
theorem s_ld {ρ : Nat → Nat} (C : mCtx p l s m args meth c M κ ρ0 D ro A) {H : Heap} {ls : Array Slot} {k : Nat} {v : Value} (hL : mL ρ (mMx M) lo ls) (hv : mLo lo k = some v) : ls[k]? = some (.val (rv ρ v)) := (hL.2.2.2 k v hv).1
theorem s_st {ρ : Nat → Nat} {ls : Array Slot} {k : Nat} (hL : mL ρ (mMx M) lo ls) (hk : k < lo.length) : k < mMx M := Nat.lt_of_lt_of_le hk hL.2.2.1
theorem go0 {P : Nat → Nat → Prop} {cells slots a b : Nat} (k : P (cells + (a - a)) (slots + (b - b))) : P cells slots := by simpa using k
/-- any step that is no call and no end -/
theorem simS {i : Instr} (C : mCtx p l s m args meth c M κ ρ0 D ro A) (hRm : mFr M ≤ R.frames ∧ mLc M ≤ R.locals) (hn : n0 ≤ 8 + h.length) (ql : lOk (8 + h.length) lo) (qs : sOk (8 + h.length) st) (qh : hOk h) (hk : chkE M (pc, i, len, r1, r2, w) = true) (hkd : mKnd i r1 = 0) (hs : mStp ro i r1 r2 pc lo st h = some (pc', lo', st', h'))
    (hr : cells + (h'.length - h.length) ≤ R.cells ∧ slots + (hz h' - hz h) ≤ R.slots)
    (kk : mGo p l e R s m args below meth c M κ ρ0 n0 D A Q pc' lo' st' h' (cells + (h'.length - h.length)) (slots + (hz h' - hz h))) : mGo p l e R s m args below meth c M κ ρ0 n0 D A Q pc lo st h cells slots := by
  unfold chkE at hk
  simp only [Bool.and_eq_true] at hk
  obtain ⟨⟨hd, hlen⟩, hx⟩ := hk
  have hd := dOk_spec hd
  have kk0 : h' = h → mGo p l e R s m args below meth c M κ ρ0 n0 D A Q pc' lo' st' h' cells slots := fun q => by
    subst q
    simpa using kk
  have kk1 : h'.length = h.length → hz h' = hz h → mGo p l e R s m args below meth c M κ ρ0 n0 D A Q pc' lo' st' h' cells slots := fun q1 q2 => by
    rw [q1, q2] at kk
    simpa using kk
  have inF : ∀ {W9 : Jvm.Cond}, gF[w]? = some W9 → W9 ∈ gF := fun q => List.mem_of_getElem? q
  cases i with
  | iconst n =>
    cases hs
    have hlen : len = 1 := of_decide_eq_true hlen
    subst hlen
    exact fun ρ H locs ls hρ hH hL => lv_iconst C.1 C.2.1 hd (of_decide_eq_true hx) (kk0 rfl ρ H locs ls hρ hH hL)
  | bipush n =>
    cases hs
    have hlen : len = 2 := of_decide_eq_true hlen
    subst hlen
    exact fun ρ H locs ls hρ hH hL => lv_bipush C.1 C.2.1 hd (of_decide_eq_true hx) (kk0 rfl ρ H locs ls hρ hH hL)
  | sipush n =>
    cases hs
    have hlen : len = 3 := of_decide_eq_true hlen
    subst hlen
    exact fun ρ H locs ls hρ hH hL => lv_sipush C.1 C.2.1 hd (of_decide_eq_true hx) (kk0 rfl ρ H locs ls hρ hH hL)
  | ldc n =>
    have hlen : len = 2 := of_decide_eq_true hlen
    subst hlen
    by_cases q : r2 = 0
    · simp only [mStp, if_pos q] at hs
      cases hs
      simp only [chkX, if_pos q, decide_eq_true_eq] at hx
      exact fun ρ H locs ls hρ hH hL => lv_ldc C.1 C.2.1 C.2.2.2.1 (C.2.2.1 _ (inF hx)) hd (kk0 rfl ρ H locs ls hρ hH hL)
    · by_cases q1 : r2 = 1
      · simp only [mStp, if_neg q, if_pos q1] at hs
        cases hs
        unfold chkX at hx
        simp only at hx
        rw [if_neg q] at hx
        simp only [q1, ne_eq, not_true_eq_false, decide_false, Bool.false_or, decide_eq_true_eq] at hx
        exact fun ρ H locs ls hρ hH hL => lv_ldcf C.1 C.2.1 C.2.2.2.1 (C.2.2.1 _ (inF hx)) hd (kk0 rfl ρ H locs ls hρ hH hL)
      · simp [mStp, if_neg q, if_neg q1] at hs
  | ldc_w n =>
    have hlen : len = 3 := of_decide_eq_true hlen
    subst hlen
    by_cases q : r2 = 0
    · simp only [mStp, if_pos q] at hs
      cases hs
      simp only [chkX, q, ne_eq, not_true_eq_false, decide_false, Bool.false_or, decide_eq_true_eq] at hx
      exact fun ρ H locs ls hρ hH hL => lv_ldcw C.1 C.2.1 C.2.2.2.1 (C.2.2.1 _ (inF hx)) hd (kk0 rfl ρ H locs ls hρ hH hL)
    · simp [mStp, if_neg q] at hs
  | fconst n =>
    cases hs
    have hlen : len = 1 := of_decide_eq_true hlen
    subst hlen
    exact fun ρ H locs ls hρ hH hL => by
      have k := kk0 rfl ρ H locs ls hρ hH hL
      rcases n with ⟨_ | _ | _ | n, hn⟩
      · exact lv_fconst0 C.1 C.2.1 hd k
      · exact lv_fconst1 C.1 C.2.1 hd k
      · exact lv_fconst2 C.1 C.2.1 hd k
      · omega
  | aconst_null =>
    cases hs
    have hlen : len = 1 := of_decide_eq_true hlen
    subst hlen
    exact fun ρ H locs ls hρ hH hL => lv_null C.1 C.2.1 hd (kk0 rfl ρ H locs ls hρ hH hL)
  | lconst n =>
    cases hs
    have hlen : len = 1 := of_decide_eq_true hlen
    subst hlen
    exact fun ρ H locs ls hρ hH hL => lv_lconst C.1 C.2.1 hd (by rcases n with ⟨_ | _ | n, hn⟩ <;> first | rfl | omega) (kk0 rfl ρ H locs ls hρ hH hL)
  | iload_n n =>
    have hlen : len = 1 := of_decide_eq_true hlen
    subst hlen
    simp only [mStp] at hs
    split at hs
    · next v q => cases hs; exact fun ρ H locs ls hρ hH hL => lv_iload_n C.1 C.2.1 hd rfl (hL.2.2.2 _ _ q).1 (kk0 rfl ρ H locs ls hρ hH hL)
    · cases hs
  | iload n =>
    have hlen : len = 2 := of_decide_eq_true hlen
    subst hlen
    simp only [mStp] at hs
    split at hs
    · next v q => cases hs; exact fun ρ H locs ls hρ hH hL => lv_iload C.1 C.2.1 hd (hL.2.2.2 _ _ q).1 (kk0 rfl ρ H locs ls hρ hH hL)
    · cases hs
  | fload n =>
    have hlen : len = 2 := of_decide_eq_true hlen
    subst hlen
    simp only [mStp] at hs
    split at hs
    · next v q => cases hs; exact fun ρ H locs ls hρ hH hL => lv_fload C.1 C.2.1 hd (hL.2.2.2 _ _ q).1 (kk0 rfl ρ H locs ls hρ hH hL)
    · cases hs
  | fload_n n =>
    have hlen : len = 1 := of_decide_eq_true hlen
    subst hlen
    simp only [mStp] at hs
    split at hs
    · next v q => cases hs; exact fun ρ H locs ls hρ hH hL => lv_fload_n C.1 C.2.1 hd rfl (hL.2.2.2 _ _ q).1 (kk0 rfl ρ H locs ls hρ hH hL)
    · cases hs
  | fstore_n n =>
    have hlen : len = 1 := of_decide_eq_true hlen
    subst hlen
    simp only [mStp] at hs
    split at hs
    · next v st9 =>
      split at hs
      · next q =>
        cases hs
        exact fun ρ H locs ls hρ hH hL => lv_fstore_n C.1 C.2.1 hd rfl (mL_has hL) (s_st hL q) rfl (fun ls' h9 => kk0 rfl ρ H locs ls' hρ hH (mL_set (v := .float v) hL rfl h9))
      · cases hs
    · cases hs
  | fadd =>
    have hlen : len = 1 := of_decide_eq_true hlen
    subst hlen
    simp only [mStp] at hs
    split at hs
    · split at hs
      · next q => cases hs; exact fun ρ H locs ls hρ hH hL => lv_fadd C.1 C.2.1 hd q (kk0 rfl ρ H locs ls hρ hH hL)
      · cases hs
    · cases hs
  | fmul =>
    have hlen : len = 1 := of_decide_eq_true hlen
    subst hlen
    simp only [mStp] at hs
    split at hs
    · split at hs
      · next q => cases hs; exact fun ρ H locs ls hρ hH hL => lv_fmul C.1 C.2.1 hd q (kk0 rfl ρ H locs ls hρ hH hL)
      · cases hs
    · cases hs
  | fcmp op =>
    have hlen : len = 1 := of_decide_eq_true hlen
    subst hlen
    simp only [mStp] at hs
    split at hs
    · cases hs; exact fun ρ H locs ls hρ hH hL => lv_fcmp C.1 C.2.1 hd (kk0 rfl ρ H locs ls hρ hH hL)
    · cases hs
  | i2f =>
    have hlen : len = 1 := of_decide_eq_true hlen
    subst hlen
    simp only [mStp] at hs
    split at hs
    · cases hs; exact fun ρ H locs ls hρ hH hL => lv_i2f C.1 C.2.1 hd (kk0 rfl ρ H locs ls hρ hH hL)
    · cases hs
  | f2i =>
    have hlen : len = 1 := of_decide_eq_true hlen
    subst hlen
    simp only [mStp] at hs
    split at hs
    · cases hs; exact fun ρ H locs ls hρ hH hL => lv_f2i C.1 C.2.1 hd (kk0 rfl ρ H locs ls hρ hH hL)
    · cases hs
  | faload =>
    have hlen : len = 1 := of_decide_eq_true hlen
    subst hlen
    simp only [mStp] at hs
    split at hs
    · split at hs
      · next q =>
        split at hs
        · next q2 => cases hs; exact s_faload C hd q q2 (kk0 rfl)
        · cases hs
      · cases hs
    · cases hs
  | fastore =>
    have hlen : len = 1 := of_decide_eq_true hlen
    subst hlen
    simp only [mStp] at hs
    split at hs
    · split at hs
      · next q =>
        split at hs
        · next q2 => cases hs; exact s_fastore C hd q q2 (kk1 (by simp) (hz_set h _ _ _ (xW_cell (κ := κ) (ρ := ρ0) q).2.2 rfl))
        · cases hs
      · cases hs
    · cases hs
  | aload_n n =>
    have hlen : len = 1 := of_decide_eq_true hlen
    subst hlen
    simp only [mStp] at hs
    split at hs
    · next v q => cases hs; exact fun ρ H locs ls hρ hH hL => lv_aload_n C.1 C.2.1 hd rfl (hL.2.2.2 _ _ q).1 (kk0 rfl ρ H locs ls hρ hH hL)
    · next q => cases hs; exact fun ρ H locs ls hρ hH hL => lv_aload_nN C.1 C.2.1 hd rfl (hL.2.2.2 _ _ q).1 (kk0 rfl ρ H locs ls hρ hH hL)
    · cases hs
  | aload n =>
    have hlen : len = 2 := of_decide_eq_true hlen
    subst hlen
    simp only [mStp] at hs
    split at hs
    · next v q => cases hs; exact fun ρ H locs ls hρ hH hL => lv_aload C.1 C.2.1 hd (hL.2.2.2 _ _ q).1 (kk0 rfl ρ H locs ls hρ hH hL)
    · next q => cases hs; exact fun ρ H locs ls hρ hH hL => lv_aloadN C.1 C.2.1 hd (hL.2.2.2 _ _ q).1 (kk0 rfl ρ H locs ls hρ hH hL)
    · cases hs
  | istore_n n =>
    have hlen : len = 1 := of_decide_eq_true hlen
    subst hlen
    simp only [mStp] at hs
    split at hs
    · next v st9 =>
      split at hs
      · next q =>
        cases hs
        exact fun ρ H locs ls hρ hH hL => lv_istore_n C.1 C.2.1 hd rfl (mL_has hL) (s_st hL q) rfl (fun ls' h9 => kk0 rfl ρ H locs ls' hρ hH (mL_set (v := .int v) hL rfl h9))
      · cases hs
    · cases hs
  | istore n =>
    have hlen : len = 2 := of_decide_eq_true hlen
    subst hlen
    simp only [mStp] at hs
    split at hs
    · next v st9 =>
      split at hs
      · next q =>
        cases hs
        exact fun ρ H locs ls hρ hH hL => lv_istore C.1 C.2.1 hd (mL_has hL) (s_st hL q) rfl (fun ls' h9 => kk0 rfl ρ H locs ls' hρ hH (mL_set (v := .int v) hL rfl h9))
      · cases hs
    · cases hs
  | fstore n =>
    have hlen : len = 2 := of_decide_eq_true hlen
    subst hlen
    simp only [mStp] at hs
    split at hs
    · next v st9 =>
      split at hs
      · next q =>
        cases hs
        exact fun ρ H locs ls hρ hH hL => lv_fstore C.1 C.2.1 hd (mL_has hL) (s_st hL q) rfl (fun ls' h9 => kk0 rfl ρ H locs ls' hρ hH (mL_set (v := .float v) hL rfl h9))
      · cases hs
    · cases hs
  | astore_n n =>
    have hlen : len = 1 := of_decide_eq_true hlen
    subst hlen
    simp only [mStp] at hs
    split at hs
    · next v st9 =>
      split at hs
      · next q =>
        cases hs
        exact fun ρ H locs ls hρ hH hL => lv_astore_n C.1 C.2.1 hd rfl (mL_has hL) (s_st hL q) rfl (fun ls' h9 => kk0 rfl ρ H locs ls' hρ hH (mL_set (v := .ref v) hL rfl h9))
      · cases hs
    · next st9 =>
      split at hs
      · next q =>
        cases hs
        exact fun ρ H locs ls hρ hH hL => lv_astore_nN C.1 C.2.1 hd rfl (mL_has hL) (s_st hL q) rfl (fun ls' h9 => kk0 rfl ρ H locs ls' hρ hH (mL_set (v := .null) hL rfl h9))
      · cases hs
    · cases hs
  | astore n =>
    have hlen : len = 2 := of_decide_eq_true hlen
    subst hlen
    simp only [mStp] at hs
    split at hs
    · next v st9 =>
      split at hs
      · next q =>
        cases hs
        exact fun ρ H locs ls hρ hH hL => lv_astore C.1 C.2.1 hd (mL_has hL) (s_st hL q) rfl (fun ls' h9 => kk0 rfl ρ H locs ls' hρ hH (mL_set (v := .ref v) hL rfl h9))
      · cases hs
    · next st9 =>
      split at hs
      · next q =>
        cases hs
        exact fun ρ H locs ls hρ hH hL => lv_astoreN C.1 C.2.1 hd (mL_has hL) (s_st hL q) rfl (fun ls' h9 => kk0 rfl ρ H locs ls' hρ hH (mL_set (v := .null) hL rfl h9))
      · cases hs
    · cases hs
  | iinc k n =>
    have hlen : len = 3 := of_decide_eq_true hlen
    subst hlen
    simp only [mStp] at hs
    split at hs
    · next v q =>
      cases hs
      refine fun ρ H locs ls hρ hH hL => ?_
      obtain ⟨j, hj⟩ := List.getElem?_of_mem (show (k, rv ρ (.int v)) ∈ mLl ρ lo from List.mem_filterMap.mpr ⟨k, List.mem_range.mpr (mLo_lt q), by rw [q]; rfl⟩)
      exact lv_iinc C.1 C.2.1 hd (mL_has hL) (k := j) hj rfl (s_st hL (mLo_lt q)) rfl (fun ls' h9 => kk0 rfl ρ H locs ls' hρ hH (mL_set (v := .int _) hL rfl h9))
    · cases hs
  | iadd =>
    have hlen : len = 1 := of_decide_eq_true hlen
    subst hlen
    simp only [mStp] at hs
    split at hs
    · cases hs; exact fun ρ H locs ls hρ hH hL => lv_iadd C.1 C.2.1 hd (kk0 rfl ρ H locs ls hρ hH hL)
    · cases hs
  | isub =>
    have hlen : len = 1 := of_decide_eq_true hlen
    subst hlen
    simp only [mStp] at hs
    split at hs
    · cases hs; exact fun ρ H locs ls hρ hH hL => lv_isub C.1 C.2.1 hd (kk0 rfl ρ H locs ls hρ hH hL)
    · cases hs
  | imul =>
    have hlen : len = 1 := of_decide_eq_true hlen
    subst hlen
    simp only [mStp] at hs
    split at hs
    · cases hs; exact fun ρ H locs ls hρ hH hL => lv_imul C.1 C.2.1 hd (kk0 rfl ρ H locs ls hρ hH hL)
    · cases hs
  | iand =>
    have hlen : len = 1 := of_decide_eq_true hlen
    subst hlen
    simp only [mStp] at hs
    split at hs
    · cases hs; exact fun ρ H locs ls hρ hH hL => lv_iand C.1 C.2.1 hd (kk0 rfl ρ H locs ls hρ hH hL)
    · cases hs
  | ishr =>
    have hlen : len = 1 := of_decide_eq_true hlen
    subst hlen
    simp only [mStp] at hs
    split at hs
    · cases hs; exact fun ρ H locs ls hρ hH hL => lv_ishr C.1 C.2.1 hd (kk0 rfl ρ H locs ls hρ hH hL)
    · cases hs
  | idiv =>
    have hlen : len = 1 := of_decide_eq_true hlen
    subst hlen
    simp only [mStp] at hs
    split at hs
    · split at hs
      · cases hs
      · next q => cases hs; exact fun ρ H locs ls hρ hH hL => lv_idiv C.1 C.2.1 hd q (kk0 rfl ρ H locs ls hρ hH hL)
    · cases hs
  | irem =>
    have hlen : len = 1 := of_decide_eq_true hlen
    subst hlen
    simp only [mStp] at hs
    split at hs
    · split at hs
      · cases hs
      · next q => cases hs; exact fun ρ H locs ls hρ hH hL => lv_irem C.1 C.2.1 hd q (kk0 rfl ρ H locs ls hρ hH hL)
    · cases hs
  | ineg =>
    have hlen : len = 1 := of_decide_eq_true hlen
    subst hlen
    simp only [mStp] at hs
    split at hs
    · cases hs; exact fun ρ H locs ls hρ hH hL => lv_ineg C.1 C.2.1 hd (kk0 rfl ρ H locs ls hρ hH hL)
    · cases hs
  | i2l =>
    have hlen : len = 1 := of_decide_eq_true hlen
    subst hlen
    simp only [mStp] at hs
    split at hs
    · cases hs; exact fun ρ H locs ls hρ hH hL => lv_i2l C.1 C.2.1 hd rfl (kk0 rfl ρ H locs ls hρ hH hL)
    · cases hs
  | lcmp =>
    have hlen : len = 1 := of_decide_eq_true hlen
    subst hlen
    simp only [mStp] at hs
    split at hs
    · cases hs; exact fun ρ H locs ls hρ hH hL => W.lcmp C.1 C.2.1 hd (kk0 rfl ρ H locs ls hρ hH hL)
    · cases hs
  | dup =>
    have hlen : len = 1 := of_decide_eq_true hlen
    subst hlen
    simp only [mStp] at hs
    split at hs
    · cases hs; exact fun ρ H locs ls hρ hH hL => lv_dup C.1 C.2.1 hd rfl (kk0 rfl ρ H locs ls hρ hH hL)
    · cases hs; exact fun ρ H locs ls hρ hH hL => lv_dup C.1 C.2.1 hd rfl (kk0 rfl ρ H locs ls hρ hH hL)
    · cases hs
  | dup2 =>
    have hlen : len = 1 := of_decide_eq_true hlen
    subst hlen
    simp only [mStp] at hs
    split at hs
    · cases hs; exact fun ρ H locs ls hρ hH hL => lv_dup2_11 C.1 C.2.1 hd rfl rfl (kk0 rfl ρ H locs ls hρ hH hL)
    · cases hs
  | pop =>
    have hlen : len = 1 := of_decide_eq_true hlen
    subst hlen
    simp only [mStp] at hs
    split at hs
    · cases hs; exact fun ρ H locs ls hρ hH hL => lv_pop C.1 C.2.1 hd rfl (kk0 rfl ρ H locs ls hρ hH hL)
    · cases hs; exact fun ρ H locs ls hρ hH hL => lv_pop C.1 C.2.1 hd rfl (kk0 rfl ρ H locs ls hρ hH hL)
    · cases hs
  | goto off =>
    have hlen : len = 3 := of_decide_eq_true hlen
    subst hlen
    cases hs
    exact fun ρ H locs ls hρ hH hL => lv_goto C.1 C.2.1 hd (jmp (of_decide_eq_true hx)) (kk0 rfl ρ H locs ls hρ hH hL)
  | ifCond cc off =>
    have hlen : len = 3 := of_decide_eq_true hlen
    subst hlen
    simp only [mStp] at hs
    split at hs
    · split at hs
      · next q => cases hs; exact s_if C hd (of_decide_eq_true hx) (fun _ => kk0 rfl) (fun z => absurd q z)
      · next q => cases hs; exact s_if C hd (of_decide_eq_true hx) (fun z => absurd z q) (fun _ => kk0 rfl)
    · cases hs
  | if_icmp cc off =>
    have hlen : len = 3 := of_decide_eq_true hlen
    subst hlen
    simp only [mStp] at hs
    split at hs
    · split at hs
      · next q => cases hs; exact s_cmp C hd (of_decide_eq_true hx) (fun _ => kk0 rfl) (fun z => absurd q z)
      · next q => cases hs; exact s_cmp C hd (of_decide_eq_true hx) (fun z => absurd z q) (fun _ => kk0 rfl)
    · cases hs
  | ifnull off =>
    have hlen : len = 3 := of_decide_eq_true hlen
    subst hlen
    simp only [mStp] at hs
    split at hs
    · cases hs; exact fun ρ H locs ls hρ hH hL => lv_ifnullN C.1 C.2.1 hd (jmp (of_decide_eq_true hx)) (kk0 rfl ρ H locs ls hρ hH hL)
    · cases hs; exact fun ρ H locs ls hρ hH hL => lv_ifnull C.1 C.2.1 hd (kk0 rfl ρ H locs ls hρ hH hL)
    · cases hs
  | ifnonnull off =>
    have hlen : len = 3 := of_decide_eq_true hlen
    subst hlen
    simp only [mStp] at hs
    split at hs
    · cases hs; exact fun ρ H locs ls hρ hH hL => lv_ifnonnullN C.1 C.2.1 hd (kk0 rfl ρ H locs ls hρ hH hL)
    · cases hs; exact fun ρ H locs ls hρ hH hL => lv_ifnonnull C.1 C.2.1 hd (jmp (of_decide_eq_true hx)) (kk0 rfl ρ H locs ls hρ hH hL)
    · cases hs
  | tableswitch d lo9 hi offs =>
    simp only [chkX, Bool.and_eq_true, decide_eq_true_eq] at hx
    simp only [mStp] at hs
    split at hs
    · split at hs
      · next q => cases hs; exact fun ρ H locs ls hρ hH hL => lv_tableOut C.1 C.2.1 hd q (jmp hx.1) (kk0 rfl ρ H locs ls hρ hH hL)
      · next q =>
        split at hs
        · next o q2 =>
          cases hs
          have h9 := List.all_eq_true.mp hx.2 o (List.mem_of_getElem? (by rw [Array.getElem?_toList]; exact q2))
          exact fun ρ H locs ls hρ hH hL => lv_tableIn C.1 C.2.1 hd (fun z => q (Or.inl z)) (fun z => q (Or.inr z)) q2 (jmp (of_decide_eq_true h9)) (kk0 rfl ρ H locs ls hρ hH hL)
        · cases hs
    · cases hs
  | getfield k =>
    have hlen : len = 3 := of_decide_eq_true hlen
    subst hlen
    simp only [mStp] at hs
    split at hs
    · next a st9 =>
      split at hs
      · next cI fs q =>
        split at hs
        · next q2 =>
          subst q2
          split at hs
          · next v q3 =>
            cases hs
            simp only [chkX] at hx
            split at hx
            · next C9 T N q4 =>
              simp only [Bool.and_eq_true, decide_eq_true_eq] at hx
              exact s_getf C hd q q3 q4 hx.1.1 (inF hx.1.2) hx.2 (kk0 rfl)
            · cases hx
          · cases hs
        · cases hs
      · cases hs
    · cases hs
  | putfield k =>
    have hlen : len = 3 := of_decide_eq_true hlen
    subst hlen
    simp only [chkX] at hx
    split at hx
    · next C9 T N q4 =>
      simp only [Bool.and_eq_true, decide_eq_true_eq] at hx
      obtain ⟨⟨⟨⟨⟨x1, x2⟩, x3⟩, x4⟩, x5⟩, x6⟩ := hx
      have x5 : decide (1000 ≤ r1) = true → C9 = mOwn M ∧ (mY M).name = "<init>" := fun z => by
        simp only [Bool.or_eq_true, Bool.and_eq_true, decide_eq_true_eq] at x5 z
        rcases x5 with y | y
        · omega
        · exact y
      simp only [mStp] at hs
      split at hs
      · next v a st9 =>
        split at hs
        · next cI fs q =>
          split at hs
          · next q2 =>
            obtain ⟨q2, q3⟩ := q2
            have hz9 : ∀ v : Value, hz (h.set (a - 8) (.inr (cI, fs.set r2 v))) = hz h := fun v => hz_set h _ _ _ (xW_cell (κ := κ) (ρ := ρ0) q).2.2 (by simp [hz1])
            have x6 := tagOk_spec x6
            split at hs
            · next e9 =>
              cases hs
              rcases x6 with ⟨-, x6⟩ | ⟨y, -⟩ | ⟨y, -⟩
              · exact s_putf C hd q q3 (by rw [q2]; exact q4) x1 (inF x2) x3 x4 x5 x6 (fun _ => rfl) (fun _ => rfl) (kk1 (by simp) (hz9 _))
              · omega
              · omega
            · next e9 =>
              split at hs
              · next q8 =>
                cases hs
                rcases x6 with ⟨y, -⟩ | ⟨-, x6⟩ | ⟨y, -⟩
                · omega
                · exact s_putf C hd q q3 (by rw [q2]; exact q4) x1 (inF x2) x3 x4 x5 x6 (fun _ => by rcases q8 with rfl | rfl <;> rfl) (fun _ => by rcases q8 with rfl | rfl <;> rfl) (kk1 (by simp) (hz9 _))
                · omega
              · cases hs
            · next e9 =>
              cases hs
              rcases x6 with ⟨y, -⟩ | ⟨y, -⟩ | ⟨-, ty, x6, x7⟩
              · omega
              · omega
              · exact s_putf C hd q q3 (by rw [q2]; exact q4) x1 (inF x2) x3 x4 x5 x6 (fun _ => (x7 _ (Or.inr ⟨_, rfl⟩)).1) (fun _ => (x7 _ (Or.inr ⟨_, rfl⟩)).2) (kk1 (by simp) (hz9 _))
            · next e9 =>
              cases hs
              rcases x6 with ⟨y, -⟩ | ⟨y, -⟩ | ⟨-, ty, x6, x7⟩
              · omega
              · omega
              · exact s_putf C hd q q3 (by rw [q2]; exact q4) x1 (inF x2) x3 x4 x5 x6 (fun _ => (x7 _ (Or.inl rfl)).1) (fun _ => (x7 _ (Or.inl rfl)).2) (kk1 (by simp) (hz9 _))
            · cases hs
          · cases hs
        · cases hs
      · cases hs
    · cases hx
  | getstatic k =>
    have hlen : len = 3 := of_decide_eq_true hlen
    subst hlen
    simp only [mStp] at hs
    split at hs
    · next q => cases hs; exact s_gets C hd q.1 q.2 (inF (of_decide_eq_true hx)) (kk0 rfl)
    · cases hs
  | iaload =>
    have hlen : len = 1 := of_decide_eq_true hlen
    subst hlen
    simp only [mStp] at hs
    split at hs
    · next j a st9 =>
      split at hs
      · next q =>
        split at hs
        · next q2 => cases hs; exact s_ialoadR C hd q q2 (kk0 rfl)
        · cases hs
      · split at hs
        · next n f q =>
          split at hs
          · next q2 => cases hs; exact s_iaload C hd q q2 (kk0 rfl)
          · cases hs
        · cases hs
    · cases hs
  | iastore =>
    have hlen : len = 1 := of_decide_eq_true hlen
    subst hlen
    simp only [mStp] at hs
    split at hs
    · split at hs
      · next n f q =>
        split at hs
        · next q2 => cases hs; exact s_iastore C hd q q2 (kk1 (by simp) (hz_set h _ _ _ (xW_cell (κ := κ) (ρ := ρ0) q).2.2 rfl))
        · cases hs
      · cases hs
    · cases hs
  | baload =>
    have hlen : len = 1 := of_decide_eq_true hlen
    subst hlen
    simp only [mStp] at hs
    split at hs
    · split at hs
      · next n f q =>
        split at hs
        · next q2 => cases hs; exact s_baload C hd q q2 (kk0 rfl)
        · cases hs
      · cases hs
    · cases hs
  | bastore =>
    have hlen : len = 1 := of_decide_eq_true hlen
    subst hlen
    simp only [mStp] at hs
    split at hs
    · split at hs
      · next n f q =>
        split at hs
        · next q2 => cases hs; exact s_bastore C hd q q2.1 q2.2 (kk1 (by simp) (hz_set h _ _ _ (xW_cell (κ := κ) (ρ := ρ0) q).2.2 rfl))
        · cases hs
      · cases hs
    · cases hs
  | aaload =>
    have hlen : len = 1 := of_decide_eq_true hlen
    subst hlen
    simp only [mStp] at hs
    split at hs
    · split at hs
      · next t n f q =>
        split at hs
        · next q2 =>
          refine s_aaload C hd q q2.1 q2.2 ?_
          split at hs
          · next b q3 => cases hs; rw [q3]; exact kk0 rfl
          · next q3 => cases hs; rw [q3]; exact kk0 rfl
        · cases hs
      · cases hs
    · cases hs
  | aastore =>
    have hlen : len = 1 := of_decide_eq_true hlen
    subst hlen
    simp only [mStp] at hs
    split at hs
    · split at hs
      · next t n f ci fs q qb =>
        split at hs
        · next q2 => cases hs; exact s_aastore C hd q qb q2.1 q2.2 (kk1 (by simp) (hz_set h _ _ _ (xW_cell (κ := κ) (ρ := ρ0) q).2.2 rfl))
        · cases hs
      · cases hs
    · split at hs
      · next t n f q =>
        split at hs
        · next q2 => cases hs; exact s_aastoreN C hd q q2.1 q2.2 (kk1 (by simp) (hz_set h _ _ _ (xW_cell (κ := κ) (ρ := ρ0) q).2.2 rfl))
        · cases hs
      · cases hs
    · cases hs
  | arraylength =>
    have hlen : len = 1 := of_decide_eq_true hlen
    subst hlen
    simp only [mStp] at hs
    split at hs
    · split at hs
      · next q => cases hs; exact s_alenR C hd q (kk0 rfl)
      · split at hs
        · next t n x q =>
          split at hs
          · next q2 => cases hs; exact s_alen C hd q q2 (kk0 rfl)
          · cases hs
        · cases hs
    · cases hs
  | invokestatic k =>
    have hlen : len = 3 := of_decide_eq_true hlen
    subst hlen
    simp only [chkX, Bool.and_eq_true, decide_eq_true_eq] at hx
    simp only [mStp] at hs
    split at hs
    · split at hs
      · split at hs
        · next q1 q2 =>
          split at hs
          · next q3 =>
            cases hs
            simp only [sOk_cons] at qs
            exact s_copy C hn ql qs.2.2.2.2.2 qh hd (inF hx.1) q1 q2 q3.1.1 q3.1.2 q3.2 ⟨by omega, by omega⟩ (kk1 (by simp) (hz_set h _ _ _ (xW_cell (κ := κ) (ρ := ρ0) q2).2.2 rfl))
          · cases hs
        · cases hs
      · cases hs
    · cases hs
  | newarray t =>
    have hlen : len = 2 := of_decide_eq_true hlen
    subst hlen
    simp only [chkX, Bool.and_eq_true, decide_eq_true_eq] at hx
    simp only [mStp] at hs
    split at hs
    · next n st9 =>
      split at hs
      · next q =>
        cases hs
        have e1 : (h ++ [Sum.inl (r1, mZero (mTy r1) n.toNatClampNeg)]).length - h.length = 1 := by simp
        have e2 : hz (h ++ [Sum.inl (r1, mZero (mTy r1) n.toNatClampNeg)]) - hz h = n.toNatClampNeg := by
          rw [hz_app, Nat.add_sub_cancel_left]
          rcases (show r1 = 0 ∨ r1 = 1 ∨ r1 = 2 by omega) with rfl | rfl | rfl <;> rfl
        rw [e1, e2] at hr kk
        exact s_newarr C hd hx.1 hx.2 q hr kk
      · cases hs
    · cases hs
  | anewarray k =>
    have hlen : len = 3 := of_decide_eq_true hlen
    subst hlen
    simp only [mStp] at hs
    split at hs
    · next n st9 =>
      split at hs
      · next q =>
        cases hs
        have e1 : (h ++ [Sum.inl (r1, mZero (mTy r1) n.toNatClampNeg)]).length - h.length = 1 := by simp
        have e2 : hz (h ++ [Sum.inl (r1, mZero (mTy r1) n.toNatClampNeg)]) - hz h = n.toNatClampNeg := by
          rw [hz_app, Nat.add_sub_cancel_left]
          rcases q.1 with rfl | rfl <;> rfl
        rw [e1, e2] at hr kk
        exact s_anew C hd q.1 (inF (of_decide_eq_true hx)) q.2 hr kk
      · cases hs
    · cases hs
  | new k =>
    have hlen : len = 3 := of_decide_eq_true hlen
    subst hlen
    simp only [mStp] at hs
    split at hs
    · next C9 T N q =>
      cases hs
      simp only [chkX, q, decide_eq_true_eq] at hx
      have e1 : (h ++ [(Sum.inr (r1, mFls T N) : mCel)]).length - h.length = 1 := by simp
      have e2 : hz (h ++ [(Sum.inr (r1, mFls T N) : mCel)]) - hz h = N := by
        rw [hz_app, Nat.add_sub_cancel_left]
        simp [hz1, mFls]
      rw [e1, e2] at hr kk
      exact s_new C hd q (inF hx) hr kk
    · cases hs
  | _ => exact (nomatch (show (none : Option mSt) = some (pc', lo', st', h') from hs))
end SIM
