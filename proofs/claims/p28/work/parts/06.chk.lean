/-! What is checked of the tables by a program -/
/-- the class's constant rows -/
def mSC (k : Nat) : String × String := match k with
  | 1 => ("Swervewright$Lattice", "STEP_X") | 2 => ("Swervewright$Lattice", "STEP_Y") | 3 => ("Swervewright$Word", "FIRST") | 4 => ("Swervewright$Word", "SECOND") | _ => ("Swervewright$Word", "THIRD")
def mNest : List Jvm.Cond := [.methodLinkNest RX9 11 yX6_init RX11, .methodLinkNest RX9 20 yX7_init RX11, .methodLinkNest RX8 11 yX7_init RX11, .methodLinkNest RX11 57 yX3_init RX11, .methodLinkNest RX11 68 yX7_init RX11, .methodLinkNest RX11 75 yX4_init RX11]
def mStrs : List (Nat × String) := [(86, "a corner's x and y are 0 to 16"), (97, "there are 6 corners"), (104, "there are fewer than 3 corners"), (109, "there were 8 polygons"), (119, "there is no such polygon"), (126, "the polygon was taken away"), (132, "front and behind are 0 to 2"), (137, "a cusp costs 0 to 100"), (142, "the margin is 0 to 5"), (286, "there is no such cell or heading"), (163, "of a word 0 to 3 is told"), (301, "there are 12 plans"), (178, "there is no way"), (188, "the pose is not free"), (198, "there is no such move"), (295, "no drive is being recorded"), (204, "there are 60 moves"), (213, "the move cannot be driven"), (288, "there is no such plan"), (224, "the plan cannot be driven"), (238, "of a plan 0 to 4 is told"), (293, "there is no such pose"), (258, "the plan has not so many segments"), (263, "squares of speeds are 1 to 10000"), (265, "speeding up and slowing down are 1 to 1000")]
def mEx (E : Nat) : String := match E with
  | 0 => "java/lang/IllegalArgumentException" | 1 => "java/lang/IllegalStateException" | _ => "java/lang/IndexOutOfBoundsException"
def mDecl : List MethodName := [Bundle.initS "java/lang/RuntimeException", Bundle.initS "java/lang/Exception", Bundle.initS Bundle.tN]
def mIc (E : Nat) : Nat := match E with
  | 0 => 88 | 1 => 99 | _ => 121
def mLen (i : Instr) : Nat := match i with
  | .bipush _ => 2 | .ldc _ => 2 | .iload _ => 2 | .aload _ => 2 | .istore _ => 2 | .astore _ => 2 | .fload _ => 2 | .fstore _ => 2 | .newarray _ => 2
  | .sipush _ => 3 | .ldc_w _ => 3 | .iinc _ _ => 3 | .goto _ => 3 | .ifCond _ _ => 3 | .if_icmp _ _ => 3 | .ifnull _ => 3 | .ifnonnull _ => 3 | .getfield _ => 3 | .putfield _ => 3 | .getstatic _ => 3 | .new _ => 3 | .anewarray _ => 3
  | .invokevirtual _ => 3 | .invokestatic _ => 3 | .invokespecial _ => 3 | .checkcast _ => 3
  | _ => 1
def dOk (cc : ByteArray) (pc : Nat) (i : Instr) (l : Nat) : Bool := match decode cc pc with
  | .ok (j, k) => decide (j = i) && decide (k = l)
  | _ => false
theorem dOk_spec {cc : ByteArray} {pc : Nat} {i : Instr} {l : Nat} (h : dOk cc pc i l = true) : decode cc pc = .ok (i, l) := by
  unfold dOk at h
  split at h
  · next j k e =>
    simp only [Bool.and_eq_true, decide_eq_true_eq] at h
    rw [e, h.1, h.2]
  · cases h
def tagOk (t : Nat) (o : Option FieldType) : Bool := match o with
  | some .int => decide (t = 0)
  | some .boolean => decide (t = 1)
  | some (.array _) => decide (t = 3)
  | some (.object _) => decide (t = 3)
  | _ => false
theorem tagOk_spec {t : Nat} {o : Option FieldType} (h : tagOk t o = true) : (t = 0 ∧ o = some .int) ∨ (t = 1 ∧ o = some .boolean) ∨ (t = 3 ∧ ∃ ty, o = some ty ∧ ∀ v : Value, v = .null ∨ (∃ a, v = .ref a) → narrow ty v = v ∧ fits ty v = true) := by
  unfold tagOk at h
  split at h
  · exact Or.inl ⟨of_decide_eq_true h, rfl⟩
  · exact Or.inr (Or.inl ⟨of_decide_eq_true h, rfl⟩)
  · exact Or.inr (Or.inr ⟨of_decide_eq_true h, _, rfl, fun v hv => by rcases hv with rfl | ⟨a, rfl⟩ <;> exact ⟨rfl, rfl⟩⟩)
  · exact Or.inr (Or.inr ⟨of_decide_eq_true h, _, rfl, fun v hv => by rcases hv with rfl | ⟨a, rfl⟩ <;> exact ⟨rfl, rfl⟩⟩)
  · cases h
def chkX (M : mM) (pc : Nat) (i : Instr) (len r1 r2 w : Nat) : Bool := match i with
  | .iconst n => decide (Int32.ofInt n = Int32.ofNat r1)
  | .bipush n => decide ((Int8.ofInt n).toInt32 = Int32.ofNat r1)
  | .sipush n => decide ((Int16.ofInt n).toInt32 = Int32.ofNat r1)
  | .ldc k => if r2 = 0 then decide (gF[w]? = some (Jvm.Cond.constant (mOwn M) k (Int32.ofNat r1))) else decide (r2 ≠ 1) || decide (gF[w]? = some (Jvm.Cond.constantFloat (mOwn M) k (UInt32.ofNat r1)))
  | .ldc_w k => decide (r2 ≠ 0) || decide (gF[w]? = some (Jvm.Cond.constant (mOwn M) k (Int32.ofNat r1)))
  | .goto off => decide (0 ≤ (pc : Int) + off)
  | .ifCond _ off => decide (0 ≤ (pc : Int) + off)
  | .if_icmp _ off => decide (0 ≤ (pc : Int) + off)
  | .ifnull off => decide (0 ≤ (pc : Int) + off)
  | .ifnonnull off => decide (0 ≤ (pc : Int) + off)
  | .tableswitch d _ _ offs => decide (0 ≤ (pc : Int) + d) && offs.toList.all (fun o => decide (0 ≤ (pc : Int) + o))
  | .getfield k => match vwCl[r1]? with
    | some (C, T, N) => decide (r2 < N) && decide (gF[w]? = some (Jvm.Cond.fieldLink (mOwn M) k C (T r2).2.1 (T r2).2.2.1)) && decide ((T r2).1 = C)
    | none => false
  | .putfield k => match vwCl[r1 % 100]? with
    | some (C, T, N) => decide (r2 < N) && decide (gF[w]? = some (Jvm.Cond.fieldLink (mOwn M) k C (T r2).2.1 (T r2).2.2.1)) && decide ((T r2).1 = C) &&
        decide ((T r2).2.2.2 = decide (1000 ≤ r1)) && (decide (r1 < 1000) || (decide (C = mOwn M) && decide ((mY M).name = "<init>"))) &&
        tagOk (r1 / 100 % 10) (parseFieldDescriptor (T r2).2.2.1)
    | none => false
  | .getstatic k => decide (gF[w]? = some (Jvm.Cond.fieldLink (mOwn M) k (mSC r1).1 (mSC r1).2 "[I"))
  | .new k => match vwCl[r1]? with
    | some (C, _, _) => decide (gF[w]? = some (Jvm.Cond.classLink (mOwn M) k C))
    | none => decide (900 ≤ r1)
  | .invokestatic k => decide (gF[w]? = some (Jvm.Cond.methodLink (mOwn M) k arraycopyName)) && decide (1 ≤ mFr M ∧ 26 ≤ mLc M)
  | .newarray t => decide (newarray.typeOf t = mTy r1) && decide (r1 < 3)
  | .anewarray k => decide (gF[w]? = some (Jvm.Cond.classLink (mOwn M) k (if r1 = 5 then "Swervewright$Polygon" else "Swervewright$Route")))
  | _ => true
def chkE (M : mM) (e : mEnt) : Bool := match e with
  | (pc, i, len, r1, r2, w) => dOk (mBy M) pc i len && (match i with | .tableswitch _ _ _ _ => true | _ => decide (len = mLen i)) && chkX M pc i len r1 r2 w
theorem cl_words : (vwCl.all fun X => decide (Jvm.Cond.instantiable X.1 X.2.2 ∈ gF) && decide (Jvm.Cond.initialized X.1 ∈ gF)) = true := by decide +kernel
theorem ar_words : ((List.range 3).all fun t => decide (Jvm.Cond.arrayClass (mTy t) ∈ gF)) = true := by decide +kernel
theorem cp_words : Jvm.Cond.native arraycopyName ∈ gF ∧ Jvm.Cond.static arraycopyName ∈ gF ∧ Jvm.Cond.initialized "java/lang/System" ∈ gF := by decide +kernel
theorem st_okn : ((List.range 11).all fun k => match vwCl[k]? with | some (_, T, N) => (List.range N).all fun a => (List.range N).all fun b => decide (a = b ∨ (T a).2.1 ≠ (T b).2.1) | none => false) = true := by decide +kernel
theorem st_okt : ((List.range 11).all fun k => match vwCl[k]? with | some (_, T, N) => (List.range N).all fun a => (parseFieldDescriptor (T a).2.2.1).isSome | none => false) = true := by decide +kernel
theorem gF_good : gF.all goodWord = true := by decide +kernel
def uW : List Jvm.Cond := vwCl.flatMap fun X => u_ws X.1 X.2.1 X.2.2
theorem uW_good : uW.all goodWord = true := by decide +kernel
/-- all words that a method of the class may need -/
def gA : List Jvm.Cond := gF ++ uW
theorem gA_good : ∀ w ∈ gA, goodWord w = true := fun w h => (List.mem_append.mp h).elim (List.all_eq_true.mp gF_good w) (List.all_eq_true.mp uW_good w)
theorem gA_in {ws : List Jvm.Cond} (h : ∀ w ∈ ws, w ∈ gA) : GoodIn gA ws := fun w hw => ⟨h w hw, good_of_word (gA_good w (h w hw))⟩
theorem gF_A {w : Jvm.Cond} (h : w ∈ gF) : w ∈ gA := List.mem_append_left _ h
theorem uW_A {k : Nat} {X : vw_C} (hk : vwCl[k]? = some X) {w : Jvm.Cond} (h : w ∈ u_ws X.1 X.2.1 X.2.2) : w ∈ gA := List.mem_append_right _ (List.mem_flatMap.mpr ⟨X, List.mem_of_getElem? hk, h⟩)
/-- a word that gives a method's code -/
def mCw (M : mM) : Jvm.Cond := match mHd M with
  | [] => .code (mY M) (mBy M) (mMx M) (mRt M)
  | hd => .codeWith (mY M) (mBy M) (mMx M) (mRt M) (hd.map fun q => (q.1, q.2.1, q.2.2.1, q.2.2.2.2.2.1))
def mWd (M : mM) : List Jvm.Cond := mCw M :: gA
/-- a throw: its rows -/
def chkT (M : mM) (pc ik E kind is : Nat) : Bool :=
  decide (E < 3) && dOk (mBy M) pc (.new ik) 3 && dOk (mBy M) (pc + 3) .dup 1 &&
  (if kind = 0 then dOk (mBy M) (pc + 4) (.ldc is) 2 && dOk (mBy M) (pc + 6) (.invokespecial (mIc E)) 3 && dOk (mBy M) (pc + 9) .athrow 1
   else dOk (mBy M) (pc + 4) (.ldc_w is) 3 && dOk (mBy M) (pc + 7) (.invokespecial (mIc E)) 3 && dOk (mBy M) (pc + 10) .athrow 1) &&
  decide (mOwn M = RX11) && decide (Jvm.Cond.classLink RX11 ik (mEx E) ∈ gF) && decide (Jvm.Cond.initialized (mEx E) ∈ gF) && (mStrs.any fun q => decide (q.1 = is)) && decide (mHd M = []) && decide (6 ≤ mFr M ∧ 90 ≤ mLc M) && decide ((mWs M).1 = 1)
/-- a call's words and room -/
def chkC (M : mM) (pc : Nat) (i : Instr) (r1 r2 w : Nat) : Bool :=
  dOk (mBy M) pc i 3 &&
  (if r1 = 1000 then match i with
    | .invokespecial k => decide (gF[w]? = some (Jvm.Cond.methodLink (mOwn M) k Lib.objectInit)) && decide (1 ≤ mFr M ∧ 20 ≤ mLc M)
    | _ => false
   else if 1000 < r1 then match i with
    | .invokestatic k => decide (gF[w]? = some (Jvm.Cond.methodLink (mOwn M) k (if r1 = 1002 then Lib.Math.max.name else if r1 = 1003 then Lib.Math.min.name else Lib.Math.abs.name))) && decide (1 ≤ mFr M ∧ 25 ≤ mLc M)
    | _ => false
   else match mTab[r1]? with
    | none => false
    | some M' => decide (mFr M' + 1 ≤ mFr M) && decide (8 + (mMx M' + 11) + mLc M' ≤ mLc M) && decide ((mWs M').1 = 0 ∨ (mWs M).1 = 1 ∨ mHd M ≠ []) && decide ((mWs M').2.1 = 0) &&
      (match i with
        | .invokestatic k => decide (gF[w]? = some (Jvm.Cond.methodLink (mOwn M) k (mY M'))) && decide (mKd M' = 0)
        | .invokevirtual k => decide (gF[w]? = some (Jvm.Cond.methodLink (mOwn M) k (mY M'))) && decide (1000 ≤ mKd M' ∧ mKd M' < 2000) && decide (mHd M' = [])
        | .invokespecial k => (if r2 = 1 then decide (Jvm.Cond.methodLinkNest (mOwn M) k (mY M') RX11 ∈ mNest) else decide (gF[w]? = some (Jvm.Cond.methodLink (mOwn M) k (mY M')))) && decide (2000 ≤ mKd M') && decide (mHd M' = []) && decide (mRt M' = none) && decide ((mWs M').1 = 0)
        | _ => false))
def chkA (M : mM) (q : mEnt) : Bool := match q with
  | (pc, i, len, r1, r2, w) => match mKnd i r1 with
    | 0 => chkE M q
    | 1 => dOk (mBy M) pc i 1
    | 2 => chkC M pc i r1 r2 w
    | _ => match i with
      | .new ik => chkT M pc ik (r1 - 900) r2 w
      | _ => false
/-- what is checked of a method by itself -/
def chkM (M : mM) : Bool :=
  decide ((mY M).cls = mOwn M) && plainName (mY M).cls && decide ((mY M).cls ≠ "java/lang/invoke/MethodHandle" ∧ (mY M).cls ≠ "java/lang/invoke/VarHandle") &&
  decide ((parseMethodDescriptor (mY M).desc).map (fun d => d.parameters.length) = some (if mKd M = 0 then mNa M else mNa M - 1)) &&
  decide (mNa M ≤ mMx M) && decide (Jvm.Cond.initialized (mY M).cls ∈ gF) &&
  (if mKd M = 0 then decide (Jvm.Cond.static (mY M) ∈ gF) else decide (Jvm.Cond.instanceMethod (mY M) ∈ gF) && decide (1 ≤ mNa M) &&
    (match vwCl[mKd M % 1000]? with | some X => decide (X.1 = mOwn M) | none => false) &&
    (if mKd M < 2000 then decide (Jvm.Cond.selects (mOwn M) (mY M) (mY M) ∈ gF) else decide ((mY M).name = "<init>"))) &&
  decide (mKd M = 0 ∨ (1000 ≤ mKd M ∧ mHd M = [])) && decide (mHd M ≠ [] → mRt M = some .int ∨ mRt M = some .float)
/-- a handler: its exception's word, its first row -/
def chkH (M : mM) (q : Nat × Nat × Nat × Nat × Nat × Nat × Nat) : Bool := match q with
  | (_, _, hp, E, l, t, k) => decide (E < 3) && decide (t ≠ 0) && decide (Jvm.Cond.classLink (mOwn M) t (mEx E) ∈ gF) && decide (k < mMx M) &&
    ((decide (l = 1) && (if hk : k < 4 then dOk (mBy M) hp (.astore_n ⟨k, hk⟩) 1 else false)) || (decide (l = 2) && dOk (mBy M) hp (.astore k) 2))
def mOkM (M : mM) : Prop := chkM M = true ∧ mCw M ∈ gF ∧ (mCd M).all (chkA M) = true ∧ (mHd M).all (chkH M) = true
def mOk0 (M : mM) : Prop := (mCd M).all (chkA M) = true ∧ (mHd M).all (chkH M) = true
