def mLen (i : Instr) : Nat := match i with
  | .bipush _ => 2 | .ldc _ => 2 | .iload _ => 2 | .aload _ => 2 | .istore _ => 2 | .astore _ => 2 | .fload _ => 2 | .fstore _ => 2 | .newarray _ => 2
  | .sipush _ => 3 | .ldc_w _ => 3 | .iinc _ _ => 3 | .goto _ => 3 | .ifCond _ _ => 3 | .if_icmp _ _ => 3 | .ifnull _ => 3 | .ifnonnull _ => 3 | .getfield _ => 3 | .putfield _ => 3 | .getstatic _ => 3 | .new _ => 3 | .anewarray _ => 3
  | .invokevirtual _ => 3 | .invokestatic _ => 3 | .invokespecial _ => 3 | .checkcast _ => 3
  | _ => 1
def dOk (cc : ByteArray) (pc : Nat) (i : Instr) (l : Nat) : Bool := match decode cc pc with
  | .ok (j, k) => decide (j = i) && decide (k = l)
  | _ => false
theorem dOk_spec {cc : ByteArray} {pc : Nat} {i : Instr} {l : Nat} (h : dOk cc pc i l = true) : decode cc pc = .ok (i, l) := by
  unfold dOk at h
  split at h
  · next j k e =>
    simp only [Bool.and_eq_true, decide_eq_true_eq] at h
    rw [e, h.1, h.2]
  · cases h
def tagOk (t : Nat) (o : Option FieldType) : Bool := match o with
  | some .int => decide (t = 0)
  | some .boolean => decide (t = 1)
  | some (.array _) => decide (t = 3)
  | some (.object _) => decide (t = 3)
  | _ => false
theorem tagOk_spec {t : Nat} {o : Option FieldType} (h : tagOk t o = true) : (t = 0 ∧ o = some .int) ∨ (t = 1 ∧ o = some .boolean) ∨ (t = 3 ∧ ∃ ty, o = some ty ∧ ∀ v : Value, v = .null ∨ (∃ a, v = .ref a) → narrow ty v = v ∧ fits ty v = true) := by
  unfold tagOk at h
  split at h
  · exact Or.inl ⟨of_decide_eq_true h, rfl⟩
  · exact Or.inr (Or.inl ⟨of_decide_eq_true h, rfl⟩)
  · exact Or.inr (Or.inr ⟨of_decide_eq_true h, _, rfl, fun v hv => by rcases hv with rfl | ⟨a, rfl⟩ <;> exact ⟨rfl, rfl⟩⟩)
  · exact Or.inr (Or.inr ⟨of_decide_eq_true h, _, rfl, fun v hv => by rcases hv with rfl | ⟨a, rfl⟩ <;> exact ⟨rfl, rfl⟩⟩)
  · cases h
def chkX (M : mM) (pc : Nat) (i : Instr) (len r1 r2 w : Nat) : Bool := match i with
  | .iconst n => decide (Int32.ofInt n = Int32.ofNat r1)
  | .bipush n => decide ((Int8.ofInt n).toInt32 = Int32.ofNat r1)
  | .sipush n => decide ((Int16.ofInt n).toInt32 = Int32.ofNat r1)
  | .ldc k => decide (r2 ≠ 0) || decide (gF[w]? = some (Jvm.Cond.constant (mOwn M) k (Int32.ofNat r1)))
  | .ldc_w k => decide (r2 ≠ 0) || decide (gF[w]? = some (Jvm.Cond.constant (mOwn M) k (Int32.ofNat r1)))
  | .fconst k => decide (r1 ≠ 0 ∨ k = 0)
  | .goto off => decide (0 ≤ (pc : Int) + off)
  | .ifCond _ off => decide (0 ≤ (pc : Int) + off)
  | .if_icmp _ off => decide (0 ≤ (pc : Int) + off)
  | .ifnull off => decide (0 ≤ (pc : Int) + off)
  | .ifnonnull off => decide (0 ≤ (pc : Int) + off)
  | .tableswitch d _ _ offs => decide (0 ≤ (pc : Int) + d) && offs.toList.all (fun o => decide (0 ≤ (pc : Int) + o))
  | .getfield k => match vwCl[r1]? with
    | some (C, T, N) => decide (r2 < N) && decide (gF[w]? = some (Jvm.Cond.fieldLink (mOwn M) k C (T r2).2.1 (T r2).2.2.1)) && decide ((T r2).1 = C)
    | none => false
  | .putfield k => match vwCl[r1 % 100]? with
    | some (C, T, N) => decide (r2 < N) && decide (gF[w]? = some (Jvm.Cond.fieldLink (mOwn M) k C (T r2).2.1 (T r2).2.2.1)) && decide ((T r2).1 = C) &&
        decide ((T r2).2.2.2 = decide (1000 ≤ r1)) && (decide (r1 < 1000) || (decide (C = mOwn M) && decide ((mY M).name = "<init>"))) &&
        tagOk (r1 / 100 % 10) (parseFieldDescriptor (T r2).2.2.1)
    | none => false
  | .getstatic k => decide (gF[w]? = some (Jvm.Cond.fieldLink (mOwn M) k (mSC r1).1 (mSC r1).2 "[I"))
  | .new k => match vwCl[r1]? with
    | some (C, _, _) => decide (gF[w]? = some (Jvm.Cond.classLink (mOwn M) k C))
    | none => decide (900 ≤ r1)
  | .newarray t => decide (newarray.typeOf t = mTy r1) && decide (r1 < 5)
  | .anewarray k => decide (gF[w]? = some (Jvm.Cond.classLink (mOwn M) k (if r1 = 5 then "Swervewright$Polygon" else "Swervewright$Route")))
  | _ => true
def chkE (M : mM) (e : mEnt) : Bool := match e with
  | (pc, i, len, r1, r2, w) => dOk (mBy M) pc i len && (match i with | .tableswitch _ _ _ _ => true | _ => decide (len = mLen i)) && chkX M pc i len r1 r2 w
theorem cl_words : (vwCl.all fun X => decide (Jvm.Cond.instantiable X.1 X.2.2 ∈ gF) && decide (Jvm.Cond.initialized X.1 ∈ gF)) = true := by decide +kernel
theorem ar_words : ((List.range 5).all fun t => decide (Jvm.Cond.arrayClass (mTy t) ∈ gF)) = true := by decide +kernel
theorem st_okn : ((List.range 12).all fun k => match vwCl[k]? with | some (_, T, N) => (List.range N).all fun a => (List.range N).all fun b => decide (a = b ∨ (T a).2.1 ≠ (T b).2.1) | none => false) = true := by decide +kernel
theorem st_okt : ((List.range 12).all fun k => match vwCl[k]? with | some (_, T, N) => (List.range N).all fun a => (parseFieldDescriptor (T a).2.2.1).isSome | none => false) = true := by decide +kernel
