/-! A small machine over a list of cells: what the claim's methods do, as a function with fuel. Addresses: 0 the script, 1 to 5 the class's constant rows, from 8 on the cells made. -/
abbrev mCel : Type := (Nat × vp_A) ⊕ (Nat × List Value)
/-- pc, instruction, length, two numbers, a word's place -/
abbrev mEnt : Type := Nat × Instr × Nat × Nat × Nat × Nat
/-- class, name, code, locals, answer, arguments, frames, words of locals, kind (0 static, 1 virtual, 2 constructor), words' places, rows, handlers -/
abbrev mM : Type := String × MethodName × ByteArray × Nat × Option FieldType × Nat × Nat × Nat × Nat × (Nat × Nat × Nat × Nat) × List mEnt × List (Nat × Nat × Nat × Nat × Nat × Nat × Nat)
abbrev mOwn (M : mM) : String := M.1
abbrev mY (M : mM) : MethodName := M.2.1
abbrev mBy (M : mM) : ByteArray := M.2.2.1
abbrev mMx (M : mM) : Nat := M.2.2.2.1
abbrev mRt (M : mM) : Option FieldType := M.2.2.2.2.1
abbrev mNa (M : mM) : Nat := M.2.2.2.2.2.1
abbrev mFr (M : mM) : Nat := M.2.2.2.2.2.2.1
abbrev mLc (M : mM) : Nat := M.2.2.2.2.2.2.2.1
abbrev mKd (M : mM) : Nat := M.2.2.2.2.2.2.2.2.1
abbrev mWs (M : mM) : Nat × Nat × Nat × Nat := M.2.2.2.2.2.2.2.2.2.1
abbrev mCd (M : mM) : List mEnt := M.2.2.2.2.2.2.2.2.2.2.1
abbrev mHd (M : mM) : List (Nat × Nat × Nat × Nat × Nat × Nat × Nat) := M.2.2.2.2.2.2.2.2.2.2.2
def mAt : List mEnt → Nat → Option (Instr × Nat × Nat × Nat × Nat)
  | [], _ => none
  | (q, e) :: t, pc => if q = pc then some e else mAt t pc
def mLo (lo : List (Option Value)) (i : Nat) : Option Value := match lo[i]? with | some (some v) => some v | _ => none
abbrev mSt : Type := Nat × List (Option Value) × List Value × List mCel
def mCell (h : List mCel) (a : Nat) : Option mCel := if a < 8 then none else h[a - 8]?
def mTgt (pc : Nat) (off : Int) : Nat := ((pc : Int) + off).toNat
def mCmp (c : Jvm.ClassFile.Cond) (a b : Int32) : Bool := match c with
  | .eq => decide (a = b) | .ne => decide (a ≠ b) | .lt => decide (a < b) | .ge => decide (b ≤ a) | .gt => decide (b < a) | .le => decide (a ≤ b)
def mZero (ty : FieldType) (n : Nat) : vp_A := match ty with
  | .long => (n, .inr (.inl fun _ => 0)) | .float => (n, .inr (.inr (.inl fun _ => 0))) | .double => (n, .inr (.inr (.inr (.inl fun _ => 0)))) | .array _ => (n, .inr (.inr (.inr (.inr fun _ => none)))) | .object _ => (n, .inr (.inr (.inr (.inr fun _ => none)))) | _ => (n, .inl fun _ => 0)
def mTy (t : Nat) : FieldType := match t with
  | 0 => .int | 1 => .boolean | 2 => .float | 3 => .long | 4 => .double | 5 => .object "Swervewright$Polygon" | _ => .object "Swervewright$Route"
def mDef (ty : FieldType) : Value := match ty with
  | .long => .long 0 | .float => .float 0 | .double => .double 0 | .array _ => .null | .object _ => .null | _ => .int 0
def mFl (T : u_T) (k : Nat) : Value := match parseFieldDescriptor (T k).2.2.1 with
  | some ty => mDef ty
  | none => .null
/-- the fields of an object that is new -/
def mFls (T : u_T) (N : Nat) : List Value := (List.range N).map (mFl T)
/-- one instruction that is no call and no end -/
def mStp (ro : Nat → Nat × (Nat → Int32)) (i : Instr) (r1 r2 : Nat) (pc : Nat) (lo : List (Option Value)) (st : List Value) (h : List mCel) : Option mSt :=
  match i with
  | .iconst _ => some (pc + 1, lo, .int (Int32.ofNat r1) :: st, h)
  | .bipush _ => some (pc + 2, lo, .int (Int32.ofNat r1) :: st, h)
  | .sipush _ => some (pc + 3, lo, .int (Int32.ofNat r1) :: st, h)
  | .ldc _ => if r2 = 0 then some (pc + 2, lo, .int (Int32.ofNat r1) :: st, h) else if r2 = 1 then some (pc + 2, lo, .float (UInt32.ofNat r1) :: st, h) else none
  | .ldc_w _ => if r2 = 0 then some (pc + 3, lo, .int (Int32.ofNat r1) :: st, h) else none
  | .fconst k => some (pc + 1, lo, .float (if k.val = 0 then 0 else if k.val = 1 then 1065353216 else 1073741824) :: st, h)
  | .aconst_null => some (pc + 1, lo, .null :: st, h)
  | .iload_n k => match mLo lo k with | some (.int v) => some (pc + 1, lo, .int v :: st, h) | _ => none
  | .iload k => match mLo lo k with | some (.int v) => some (pc + 2, lo, .int v :: st, h) | _ => none
  | .aload_n k => match mLo lo k with | some (.ref v) => some (pc + 1, lo, .ref v :: st, h) | some .null => some (pc + 1, lo, .null :: st, h) | _ => none
  | .aload k => match mLo lo k with | some (.ref v) => some (pc + 2, lo, .ref v :: st, h) | some .null => some (pc + 2, lo, .null :: st, h) | _ => none
  | .istore_n k => match st with | .int v :: st => if k < lo.length then some (pc + 1, lo.set k (some (.int v)), st, h) else none | _ => none
  | .istore k => match st with | .int v :: st => if k < lo.length then some (pc + 2, lo.set k (some (.int v)), st, h) else none | _ => none
  | .astore_n k => match st with | .ref v :: st => if k < lo.length then some (pc + 1, lo.set k (some (.ref v)), st, h) else none | .null :: st => if k < lo.length then some (pc + 1, lo.set k (some .null), st, h) else none | _ => none
  | .astore k => match st with | .ref v :: st => if k < lo.length then some (pc + 2, lo.set k (some (.ref v)), st, h) else none | .null :: st => if k < lo.length then some (pc + 2, lo.set k (some .null), st, h) else none | _ => none
  | .fstore k => match st with | .float v :: st => if k < lo.length then some (pc + 2, lo.set k (some (.float v)), st, h) else none | _ => none
  | .fload k => match mLo lo k with | some (.float v) => some (pc + 2, lo, .float v :: st, h) | _ => none
  | .fload_n k => match mLo lo k with | some (.float v) => some (pc + 1, lo, .float v :: st, h) | _ => none
  | .fstore_n k => match st with | .float v :: st => if k < lo.length then some (pc + 1, lo.set k (some (.float v)), st, h) else none | _ => none
  | .fadd => match st with | .float y :: .float x :: st => if FP.fadd x y &&& 0x7fffffff ≤ 0x7f800000 then some (pc + 1, lo, .float (FP.fadd x y) :: st, h) else none | _ => none
  | .fmul => match st with | .float y :: .float x :: st => if FP.fmul x y &&& 0x7fffffff ≤ 0x7f800000 then some (pc + 1, lo, .float (FP.fmul x y) :: st, h) else none | _ => none
  | .fcmp op => match st with | .float y :: .float x :: st => some (pc + 1, lo, .int (Op.cmpValue (FP.fcmp x y) op) :: st, h) | _ => none
  | .i2f => match st with | .int x :: st => some (pc + 1, lo, .float (FP.i2f x) :: st, h) | _ => none
  | .f2i => match st with | .float x :: st => some (pc + 1, lo, .int (FP.f2i x) :: st, h) | _ => none
  | .iinc k n => match mLo lo k with | some (.int v) => some (pc + 3, lo.set k (some (.int (v + Int32.ofInt n))), st, h) | _ => none
  | .iadd => match st with | .int y :: .int x :: st => some (pc + 1, lo, .int (x + y) :: st, h) | _ => none
  | .isub => match st with | .int y :: .int x :: st => some (pc + 1, lo, .int (x - y) :: st, h) | _ => none
  | .imul => match st with | .int y :: .int x :: st => some (pc + 1, lo, .int (x * y) :: st, h) | _ => none
  | .iand => match st with | .int y :: .int x :: st => some (pc + 1, lo, .int (x &&& y) :: st, h) | _ => none
  | .ishr => match st with | .int y :: .int x :: st => some (pc + 1, lo, .int (x >>> (y &&& 31)) :: st, h) | _ => none
  | .idiv => match st with | .int y :: .int x :: st => if y = 0 then none else some (pc + 1, lo, .int (x / y) :: st, h) | _ => none
  | .irem => match st with | .int y :: .int x :: st => if y = 0 then none else some (pc + 1, lo, .int (x - x / y * y) :: st, h) | _ => none
  | .ineg => match st with | .int x :: st => some (pc + 1, lo, .int (-x) :: st, h) | _ => none
  | .i2l => match st with | .int x :: st => some (pc + 1, lo, .long x.toInt64 :: st, h) | _ => none
  | .lcmp => match st with | .long y :: .long x :: st => some (pc + 1, lo, .int (lg_cmp x y) :: st, h) | _ => none
  | .lconst k => some (pc + 1, lo, .long (if k.val = 0 then 0 else 1) :: st, h)
  | .dup => match st with | .int v :: st => some (pc + 1, lo, .int v :: .int v :: st, h) | .ref v :: st => some (pc + 1, lo, .ref v :: .ref v :: st, h) | _ => none
  | .dup2 => match st with | .int v :: .ref w :: st => some (pc + 1, lo, .int v :: .ref w :: .int v :: .ref w :: st, h) | _ => none
  | .pop => match st with | .int _ :: st => some (pc + 1, lo, st, h) | .ref _ :: st => some (pc + 1, lo, st, h) | _ => none
  | .goto off => some (mTgt pc off, lo, st, h)
  | .ifCond c off => match st with | .int x :: st => if mCmp c x 0 = true then some (mTgt pc off, lo, st, h) else some (pc + 3, lo, st, h) | _ => none
  | .if_icmp c off => match st with | .int y :: .int x :: st => if mCmp c x y = true then some (mTgt pc off, lo, st, h) else some (pc + 3, lo, st, h) | _ => none
  | .ifnull off => match st with | .null :: st => some (mTgt pc off, lo, st, h) | .ref _ :: st => some (pc + 3, lo, st, h) | _ => none
  | .ifnonnull off => match st with | .null :: st => some (pc + 3, lo, st, h) | .ref _ :: st => some (mTgt pc off, lo, st, h) | _ => none
  | .getfield _ => match st with
    | .ref a :: st => match mCell h a with
      | some (.inr (c, fs)) => if c = r1 then match fs[r2]? with | some v => some (pc + 3, lo, v :: st, h) | none => none else none
      | _ => none
    | _ => none
  | .putfield _ => match st with
    | v :: .ref a :: st => match mCell h a with
      | some (.inr (c, fs)) => if c = r1 % 100 ∧ r2 < fs.length then
          match r1 / 100 % 10, v with
          | 0, .int x => some (pc + 3, lo, st, h.set (a - 8) (.inr (c, fs.set r2 (.int x))))
          | 1, .int x => if x = 0 ∨ x = 1 then some (pc + 3, lo, st, h.set (a - 8) (.inr (c, fs.set r2 (.int x)))) else none
          | 3, .ref x => some (pc + 3, lo, st, h.set (a - 8) (.inr (c, fs.set r2 (.ref x))))
          | 3, .null => some (pc + 3, lo, st, h.set (a - 8) (.inr (c, fs.set r2 .null)))
          | _, _ => none
        else none
      | _ => none
    | _ => none
  | .getstatic _ => if 1 ≤ r1 ∧ r1 < 6 then some (pc + 3, lo, .ref r1 :: st, h) else none
  | .iaload => match st with
    | .int j :: .ref a :: st => if a < 6 then (if 0 ≤ j.toInt ∧ j.toInt < (ro a).1 then some (pc + 1, lo, .int ((ro a).2 j.toNatClampNeg) :: st, h) else none)
      else match mCell h a with
      | some (.inl (0, n, .inl f)) => if 0 ≤ j.toInt ∧ j.toInt < n then some (pc + 1, lo, .int (f j.toNatClampNeg) :: st, h) else none
      | _ => none
    | _ => none
  | .iastore => match st with
    | .int x :: .int j :: .ref a :: st => match mCell h a with
      | some (.inl (0, n, .inl f)) => if 0 ≤ j.toInt ∧ j.toInt < n then some (pc + 1, lo, st, h.set (a - 8) (.inl (0, n, .inl (upd f j.toNatClampNeg x)))) else none
      | _ => none
    | _ => none
  | .baload => match st with
    | .int j :: .ref a :: st => match mCell h a with
      | some (.inl (1, n, .inl f)) => if 0 ≤ j.toInt ∧ j.toInt < n then some (pc + 1, lo, .int (f j.toNatClampNeg) :: st, h) else none
      | _ => none
    | _ => none
  | .bastore => match st with
    | .int x :: .int j :: .ref a :: st => match mCell h a with
      | some (.inl (1, n, .inl f)) => if (0 ≤ j.toInt ∧ j.toInt < n) ∧ (x = 0 ∨ x = 1) then some (pc + 1, lo, st, h.set (a - 8) (.inl (1, n, .inl (upd f j.toNatClampNeg x)))) else none
      | _ => none
    | _ => none
  | .faload => match st with
    | .int j :: .ref a :: st => match mCell h a with
      | some (.inl (2, n, .inr (.inr (.inl f)))) => if 0 ≤ j.toInt ∧ j.toInt < n then some (pc + 1, lo, .float (f j.toNatClampNeg) :: st, h) else none
      | _ => none
    | _ => none
  | .fastore => match st with
    | .float x :: .int j :: .ref a :: st => match mCell h a with
      | some (.inl (2, n, .inr (.inr (.inl f)))) => if 0 ≤ j.toInt ∧ j.toInt < n then some (pc + 1, lo, st, h.set (a - 8) (.inl (2, n, .inr (.inr (.inl (vf_upd f j.toNatClampNeg x)))))) else none
      | _ => none
    | _ => none
  | .arraylength => match st with
    | .ref a :: st => if a < 6 then some (pc + 1, lo, .int (Int32.ofNat (ro a).1) :: st, h)
      else match mCell h a with
      | some (.inl (t, n, _)) => if t < 3 ∨ t = 5 ∨ t = 6 then some (pc + 1, lo, .int (Int32.ofNat n) :: st, h) else none
      | _ => none
    | _ => none
  | .newarray _ => match st with
    | .int n :: st => if 0 ≤ n.toInt ∧ n.toInt ≤ 1000000 then some (pc + 2, lo, .ref (8 + h.length) :: st, h ++ [.inl (r1, mZero (mTy r1) n.toNatClampNeg)]) else none
    | _ => none
  | .anewarray _ => match st with
    | .int n :: st => if (r1 = 5 ∨ r1 = 6) ∧ 0 ≤ n.toInt ∧ n.toInt ≤ 1000000 then some (pc + 3, lo, .ref (8 + h.length) :: st, h ++ [.inl (r1, mZero (mTy r1) n.toNatClampNeg)]) else none
    | _ => none
  | .aaload => match st with
    | .int j :: .ref a :: st => match mCell h a with
      | some (.inl (t, n, .inr (.inr (.inr (.inr f))))) => if (t = 5 ∨ t = 6) ∧ 0 ≤ j.toInt ∧ j.toInt < n then match f j.toNatClampNeg with
          | some b => some (pc + 1, lo, .ref b :: st, h)
          | none => some (pc + 1, lo, .null :: st, h)
        else none
      | _ => none
    | _ => none
  | .aastore => match st with
    | .ref x :: .int j :: .ref a :: st => match mCell h a, mCell h x with
      | some (.inl (t, n, .inr (.inr (.inr (.inr f))))), some (.inr (c, _)) => if ((t = 5 ∧ c = 3) ∨ (t = 6 ∧ c = 6)) ∧ 0 ≤ j.toInt ∧ j.toInt < n then
          some (pc + 1, lo, st, h.set (a - 8) (.inl (t, n, .inr (.inr (.inr (.inr (va_up f j.toNatClampNeg (some x))))))))
        else none
      | _, _ => none
    | .null :: .int j :: .ref a :: st => match mCell h a with
      | some (.inl (t, n, .inr (.inr (.inr (.inr f))))) => if (t = 5 ∨ t = 6) ∧ 0 ≤ j.toInt ∧ j.toInt < n then
          some (pc + 1, lo, st, h.set (a - 8) (.inl (t, n, .inr (.inr (.inr (.inr (va_up f j.toNatClampNeg none)))))))
        else none
      | _ => none
    | _ => none
  | .new _ => match vwCl[r1]? with
    | some (_, T, N) => some (pc + 3, lo, .ref (8 + h.length) :: st, h ++ [.inr (r1, mFls T N)])
    | none => none
  | .invokestatic _ => if r1 = 1005 then match st with
      | .int n :: .int dp :: .ref a :: .int sp :: .ref b :: st => match mCell h b, mCell h a with
        | some (.inl (0, n2, .inl f)), some (.inl (0, n1, .inl g)) =>
          if ((0 ≤ sp.toInt ∧ 0 ≤ dp.toInt ∧ 0 ≤ n.toInt) ∧ sp.toNatClampNeg + n.toNatClampNeg ≤ n2 ∧ dp.toNatClampNeg + n.toNatClampNeg ≤ n1) ∧ (st.map Value.category).sum ≤ 8 then
            some (pc + 3, lo, st, h.set (a - 8) (.inl (0, n1, .inl (va_cpy f g sp.toNatClampNeg dp.toNatClampNeg n.toNatClampNeg))))
          else none
        | _, _ => none
      | _ => none
    else none
  | .tableswitch d lo' hi offs => match st with
    | .int v :: st => if v.toInt < lo' ∨ hi < v.toInt then some (mTgt pc d, lo, st, h) else match offs[(v.toInt - lo').toNat]? with | some o => some (mTgt pc o, lo, st, h) | none => none
    | _ => none
  | _ => none
/-- makes a cell -/
def mAl (i : Instr) : Bool := match i with
  | .new _ => true | .newarray _ => true | .anewarray _ => true | _ => false
/-- 0 a step, 1 an end, 2 a call, 3 a throw -/
def mKnd (i : Instr) (r1 : Nat) : Nat := match i with
  | .ireturn => 1 | .areturn => 1 | .freturn => 1 | .return_ => 1
  | .invokevirtual _ => 2 | .invokestatic _ => if r1 = 1005 then 0 else 2 | .invokespecial _ => 2
  | .new _ => if r1 < 900 then 0 else 3
  | _ => 0
