/-! The small machine's steps as equations: one lemma for each kind of instruction. -/
section
variable {ro : Nat → Nat × (Nat → Int32)} {mid pc : Nat} {lo : List (Option Value)} {st : List Value} {h : List mCel} {x : Nat} {M : mM} {i : Instr} {l r1 r2 w : Nat}
def kF (o : Option mCel) (c k : Nat) (f : Value → Option mOut) : Option mOut := match o with
  | some (.inr (c', fs)) => if c' = c then (match fs[k]? with | some v => f v | none => none) else none
  | _ => none
def kP (o : Option mCel) (c k : Nat) (f : List Value → Option mOut) : Option mOut := match o with
  | some (.inr (c', fs)) => if c' = c ∧ k < fs.length then f fs else none
  | _ => none
def kIA (ro : Nat → Nat × (Nat → Int32)) (h : List mCel) (a : Nat) (j : Int32) (k : Int32 → Option mOut) : Option mOut :=
  if a < 6 then (if 0 ≤ j.toInt ∧ j.toInt < (ro a).1 then k ((ro a).2 j.toNatClampNeg) else none) else match mCell h a with
    | some (.inl (0, n, .inl f)) => if 0 ≤ j.toInt ∧ j.toInt < n then k (f j.toNatClampNeg) else none
    | _ => none
def kBA (h : List mCel) (a : Nat) (j : Int32) (k : Int32 → Option mOut) : Option mOut := match mCell h a with
  | some (.inl (1, n, .inl f)) => if 0 ≤ j.toInt ∧ j.toInt < n then k (f j.toNatClampNeg) else none
  | _ => none
def kFA (h : List mCel) (a : Nat) (j : Int32) (k : UInt32 → Option mOut) : Option mOut := match mCell h a with
  | some (.inl (2, n, .inr (.inr (.inl f)))) => if 0 ≤ j.toInt ∧ j.toInt < n then k (f j.toNatClampNeg) else none
  | _ => none
def kAA (h : List mCel) (a : Nat) (j : Int32) (k : Value → Option mOut) : Option mOut := match mCell h a with
  | some (.inl (t, n, .inr (.inr (.inr (.inr f))))) => if (t = 5 ∨ t = 6) ∧ 0 ≤ j.toInt ∧ j.toInt < n then (match f j.toNatClampNeg with
      | some b => k (.ref b)
      | none => k .null) else none
  | _ => none
def kIS (h : List mCel) (a : Nat) (j : Int32) (k : Nat → (Nat → Int32) → Option mOut) : Option mOut := match mCell h a with
  | some (.inl (0, n, .inl f)) => if 0 ≤ j.toInt ∧ j.toInt < n then k n f else none
  | _ => none
def kBS (h : List mCel) (a : Nat) (j : Int32) (k : Nat → (Nat → Int32) → Option mOut) : Option mOut := match mCell h a with
  | some (.inl (1, n, .inl f)) => if 0 ≤ j.toInt ∧ j.toInt < n then k n f else none
  | _ => none
def kFS (h : List mCel) (a : Nat) (j : Int32) (k : Nat → (Nat → UInt32) → Option mOut) : Option mOut := match mCell h a with
  | some (.inl (2, n, .inr (.inr (.inl f)))) => if 0 ≤ j.toInt ∧ j.toInt < n then k n f else none
  | _ => none
def kCP (h : List mCel) (a b : Nat) (sp dp n : Int32) (k : Nat → (Nat → Int32) → (Nat → Int32) → Option mOut) : Option mOut := match mCell h b, mCell h a with
  | some (.inl (0, n2, .inl f)), some (.inl (0, n1, .inl g)) => if (0 ≤ sp.toInt ∧ 0 ≤ dp.toInt ∧ 0 ≤ n.toInt) ∧ sp.toNatClampNeg + n.toNatClampNeg ≤ n2 ∧ dp.toNatClampNeg + n.toNatClampNeg ≤ n1 then k n1 f g else none
  | _, _ => none
def kFN (v : UInt32) (k : Option mOut) : Option mOut := if v &&& 0x7fffffff ≤ 0x7f800000 then k else none
def kAS (h : List mCel) (a b : Nat) (j : Int32) (k : Nat → Nat → (Nat → Option Nat) → Option mOut) : Option mOut := match mCell h a, mCell h b with
  | some (.inl (t, n, .inr (.inr (.inr (.inr f))))), some (.inr (c, _)) => if ((t = 5 ∧ c = 3) ∨ (t = 6 ∧ c = 6)) ∧ 0 ≤ j.toInt ∧ j.toInt < n then k t n f else none
  | _, _ => none
def kAL (ro : Nat → Nat × (Nat → Int32)) (h : List mCel) (a : Nat) (k : Int32 → Option mOut) : Option mOut :=
  if a < 6 then k (Int32.ofNat (ro a).1) else match mCell h a with
    | some (.inl (t, n, _)) => if t < 3 ∨ t = 5 ∨ t = 6 then k (Int32.ofNat n) else none
    | _ => none
def kR (o : Option mCel) (c : Nat) : Bool := match o with | some (.inr (c', _)) => decide (c' = c) | _ => false
theorem g_step (hM : mTab[mid]? = some M) (hA : mAt (mCd M) pc = some (i, l, r1, r2, w)) (hK : mKnd i r1 = 0) : mW ro mTab mid pc lo st h x = (match mStp ro i r1 r2 pc lo st h with
    | some (pc', lo', st', h') => mW ro mTab mid pc' lo' st' h' x
    | none => none) := by
  rw [mW_eq]; unfold mF; simp only [hM, hA, hK]
  cases mStp ro i r1 r2 pc lo st h <;> rfl
theorem g_div {a b : Int32} (hM : mTab[mid]? = some M) (hA : mAt (mCd M) pc = some (.idiv, l, r1, r2, w)) (hb : ¬ b = 0) : mW ro mTab mid pc lo (.int b :: .int a :: st) h x = mW ro mTab mid (pc + 1) lo (.int (a / b) :: st) h x := by
  rw [g_step hM hA rfl]; simp only [mStp, if_neg hb]
theorem g_rem {a b : Int32} (hM : mTab[mid]? = some M) (hA : mAt (mCd M) pc = some (.irem, l, r1, r2, w)) (hb : ¬ b = 0) : mW ro mTab mid pc lo (.int b :: .int a :: st) h x = mW ro mTab mid (pc + 1) lo (.int (a - a / b * b) :: st) h x := by
  rw [g_step hM hA rfl]; simp only [mStp, if_neg hb]
theorem g_icmp {a b : Int32} {c : Jvm.ClassFile.Cond} {off : Int} {P : Prop} [Decidable P] (hP : (mCmp c a b = true) ↔ P) (hM : mTab[mid]? = some M) (hA : mAt (mCd M) pc = some (.if_icmp c off, l, r1, r2, w)) :
    mW ro mTab mid pc lo (.int b :: .int a :: st) h x = if P then mW ro mTab mid (mTgt pc off) lo st h x else mW ro mTab mid (pc + 3) lo st h x := by
  rw [g_step hM hA rfl]
  by_cases hp : P
  · simp only [mStp, if_pos (hP.mpr hp), if_pos hp]
  · have hn : ¬ mCmp c a b = true := fun z => hp (hP.mp z)
    simp only [mStp, if_neg hn, if_neg hp]
theorem g_if {a : Int32} {c : Jvm.ClassFile.Cond} {off : Int} {P : Prop} [Decidable P] (hP : (mCmp c a 0 = true) ↔ P) (hM : mTab[mid]? = some M) (hA : mAt (mCd M) pc = some (.ifCond c off, l, r1, r2, w)) :
    mW ro mTab mid pc lo (.int a :: st) h x = if P then mW ro mTab mid (mTgt pc off) lo st h x else mW ro mTab mid (pc + 3) lo st h x := by
  rw [g_step hM hA rfl]
  by_cases hp : P
  · simp only [mStp, if_pos (hP.mpr hp), if_pos hp]
  · have hn : ¬ mCmp c a 0 = true := fun z => hp (hP.mp z)
    simp only [mStp, if_neg hn, if_neg hp]
theorem g_icmp_eq {a b : Int32} {off : Int} {t : Nat} (hM : mTab[mid]? = some M) (hA : mAt (mCd M) pc = some (.if_icmp .eq off, l, r1, r2, w)) (ht : mTgt pc off = t) : mW ro mTab mid pc lo (.int b :: .int a :: st) h x = if a = b then mW ro mTab mid t lo st h x else mW ro mTab mid (pc + 3) lo st h x := ht ▸ g_icmp (by unfold mCmp; exact decide_eq_true_iff) hM hA
theorem g_if_eq {a : Int32} {off : Int} {t : Nat} (hM : mTab[mid]? = some M) (hA : mAt (mCd M) pc = some (.ifCond .eq off, l, r1, r2, w)) (ht : mTgt pc off = t) : mW ro mTab mid pc lo (.int a :: st) h x = if a = 0 then mW ro mTab mid t lo st h x else mW ro mTab mid (pc + 3) lo st h x := ht ▸ g_if (by unfold mCmp; exact decide_eq_true_iff) hM hA
theorem g_icmp_ne {a b : Int32} {off : Int} {t : Nat} (hM : mTab[mid]? = some M) (hA : mAt (mCd M) pc = some (.if_icmp .ne off, l, r1, r2, w)) (ht : mTgt pc off = t) : mW ro mTab mid pc lo (.int b :: .int a :: st) h x = if ¬ a = b then mW ro mTab mid t lo st h x else mW ro mTab mid (pc + 3) lo st h x := ht ▸ g_icmp (by unfold mCmp; exact decide_eq_true_iff) hM hA
theorem g_if_ne {a : Int32} {off : Int} {t : Nat} (hM : mTab[mid]? = some M) (hA : mAt (mCd M) pc = some (.ifCond .ne off, l, r1, r2, w)) (ht : mTgt pc off = t) : mW ro mTab mid pc lo (.int a :: st) h x = if ¬ a = 0 then mW ro mTab mid t lo st h x else mW ro mTab mid (pc + 3) lo st h x := ht ▸ g_if (by unfold mCmp; exact decide_eq_true_iff) hM hA
theorem g_icmp_lt {a b : Int32} {off : Int} {t : Nat} (hM : mTab[mid]? = some M) (hA : mAt (mCd M) pc = some (.if_icmp .lt off, l, r1, r2, w)) (ht : mTgt pc off = t) : mW ro mTab mid pc lo (.int b :: .int a :: st) h x = if a < b then mW ro mTab mid t lo st h x else mW ro mTab mid (pc + 3) lo st h x := ht ▸ g_icmp (by unfold mCmp; exact decide_eq_true_iff) hM hA
theorem g_if_lt {a : Int32} {off : Int} {t : Nat} (hM : mTab[mid]? = some M) (hA : mAt (mCd M) pc = some (.ifCond .lt off, l, r1, r2, w)) (ht : mTgt pc off = t) : mW ro mTab mid pc lo (.int a :: st) h x = if a < 0 then mW ro mTab mid t lo st h x else mW ro mTab mid (pc + 3) lo st h x := ht ▸ g_if (by unfold mCmp; exact decide_eq_true_iff) hM hA
theorem g_icmp_ge {a b : Int32} {off : Int} {t : Nat} (hM : mTab[mid]? = some M) (hA : mAt (mCd M) pc = some (.if_icmp .ge off, l, r1, r2, w)) (ht : mTgt pc off = t) : mW ro mTab mid pc lo (.int b :: .int a :: st) h x = if b ≤ a then mW ro mTab mid t lo st h x else mW ro mTab mid (pc + 3) lo st h x := ht ▸ g_icmp (by unfold mCmp; exact decide_eq_true_iff) hM hA
theorem g_if_ge {a : Int32} {off : Int} {t : Nat} (hM : mTab[mid]? = some M) (hA : mAt (mCd M) pc = some (.ifCond .ge off, l, r1, r2, w)) (ht : mTgt pc off = t) : mW ro mTab mid pc lo (.int a :: st) h x = if 0 ≤ a then mW ro mTab mid t lo st h x else mW ro mTab mid (pc + 3) lo st h x := ht ▸ g_if (by unfold mCmp; exact decide_eq_true_iff) hM hA
theorem g_icmp_gt {a b : Int32} {off : Int} {t : Nat} (hM : mTab[mid]? = some M) (hA : mAt (mCd M) pc = some (.if_icmp .gt off, l, r1, r2, w)) (ht : mTgt pc off = t) : mW ro mTab mid pc lo (.int b :: .int a :: st) h x = if b < a then mW ro mTab mid t lo st h x else mW ro mTab mid (pc + 3) lo st h x := ht ▸ g_icmp (by unfold mCmp; exact decide_eq_true_iff) hM hA
theorem g_if_gt {a : Int32} {off : Int} {t : Nat} (hM : mTab[mid]? = some M) (hA : mAt (mCd M) pc = some (.ifCond .gt off, l, r1, r2, w)) (ht : mTgt pc off = t) : mW ro mTab mid pc lo (.int a :: st) h x = if 0 < a then mW ro mTab mid t lo st h x else mW ro mTab mid (pc + 3) lo st h x := ht ▸ g_if (by unfold mCmp; exact decide_eq_true_iff) hM hA
theorem g_icmp_le {a b : Int32} {off : Int} {t : Nat} (hM : mTab[mid]? = some M) (hA : mAt (mCd M) pc = some (.if_icmp .le off, l, r1, r2, w)) (ht : mTgt pc off = t) : mW ro mTab mid pc lo (.int b :: .int a :: st) h x = if a ≤ b then mW ro mTab mid t lo st h x else mW ro mTab mid (pc + 3) lo st h x := ht ▸ g_icmp (by unfold mCmp; exact decide_eq_true_iff) hM hA
theorem g_if_le {a : Int32} {off : Int} {t : Nat} (hM : mTab[mid]? = some M) (hA : mAt (mCd M) pc = some (.ifCond .le off, l, r1, r2, w)) (ht : mTgt pc off = t) : mW ro mTab mid pc lo (.int a :: st) h x = if a ≤ 0 then mW ro mTab mid t lo st h x else mW ro mTab mid (pc + 3) lo st h x := ht ▸ g_if (by unfold mCmp; exact decide_eq_true_iff) hM hA
theorem g_getf {a : Nat} {ix : _} (hM : mTab[mid]? = some M) (hA : mAt (mCd M) pc = some (.getfield ix, l, r1, r2, w)) : mW ro mTab mid pc lo (.ref a :: st) h x = kF (mCell h a) r1 r2 fun v => mW ro mTab mid (pc + 3) lo (v :: st) h x := by
  rw [g_step hM hA rfl]; unfold kF; simp only [mStp]
  cases mCell h a with
  | none => rfl
  | some q =>
    rcases q with q | ⟨c, fs⟩
    · rfl
    · by_cases hc : c = r1
      · simp only [if_pos hc]; cases fs[r2]? <;> rfl
      · simp only [if_neg hc]
theorem g_puti {a c : Nat} {v : Int32} {ix : _} (hM : mTab[mid]? = some M) (hA : mAt (mCd M) pc = some (.putfield ix, l, r1, r2, w)) (h1 : r1 / 100 % 10 = 0) (h2 : r1 % 100 = c) : mW ro mTab mid pc lo (.int v :: .ref a :: st) h x = kP (mCell h a) c r2 fun fs => mW ro mTab mid (pc + 3) lo st (h.set (a - 8) (.inr (c, fs.set r2 (.int v)))) x := by
  subst h2
  rw [g_step hM hA rfl]; unfold kP; simp only [mStp]
  cases mCell h a with
  | none => rfl
  | some q =>
    rcases q with q | ⟨c, fs⟩
    · rfl
    · dsimp only
      by_cases hc : c = r1 % 100 ∧ r2 < fs.length
      · rw [if_pos hc, if_pos hc]; obtain ⟨rfl, _⟩ := hc; simp only [h1]
      · rw [if_neg hc, if_neg hc]
theorem g_putz {a c : Nat} {v : Int32} {ix : _} (hM : mTab[mid]? = some M) (hA : mAt (mCd M) pc = some (.putfield ix, l, r1, r2, w)) (h1 : r1 / 100 % 10 = 1) (h2 : r1 % 100 = c) (hv : v = 0 ∨ v = 1) : mW ro mTab mid pc lo (.int v :: .ref a :: st) h x = kP (mCell h a) c r2 fun fs => mW ro mTab mid (pc + 3) lo st (h.set (a - 8) (.inr (c, fs.set r2 (.int v)))) x := by
  subst h2
  rw [g_step hM hA rfl]; unfold kP; simp only [mStp]
  cases mCell h a with
  | none => rfl
  | some q =>
    rcases q with q | ⟨c, fs⟩
    · rfl
    · dsimp only
      by_cases hc : c = r1 % 100 ∧ r2 < fs.length
      · rw [if_pos hc, if_pos hc]; obtain ⟨rfl, _⟩ := hc; simp only [h1]; rw [if_pos hv]
      · rw [if_neg hc, if_neg hc]
theorem g_puta {a c v : Nat} {ix : _} (hM : mTab[mid]? = some M) (hA : mAt (mCd M) pc = some (.putfield ix, l, r1, r2, w)) (h1 : r1 / 100 % 10 = 3) (h2 : r1 % 100 = c) : mW ro mTab mid pc lo (.ref v :: .ref a :: st) h x = kP (mCell h a) c r2 fun fs => mW ro mTab mid (pc + 3) lo st (h.set (a - 8) (.inr (c, fs.set r2 (.ref v)))) x := by
  subst h2
  rw [g_step hM hA rfl]; unfold kP; simp only [mStp]
  cases mCell h a with
  | none => rfl
  | some q =>
    rcases q with q | ⟨c, fs⟩
    · rfl
    · dsimp only
      by_cases hc : c = r1 % 100 ∧ r2 < fs.length
      · rw [if_pos hc, if_pos hc]; obtain ⟨rfl, _⟩ := hc; simp only [h1]
      · rw [if_neg hc, if_neg hc]
theorem g_iaload {a : Nat} {j : Int32} (hM : mTab[mid]? = some M) (hA : mAt (mCd M) pc = some (.iaload, l, r1, r2, w)) : mW ro mTab mid pc lo (.int j :: .ref a :: st) h x = kIA ro h a j fun v => mW ro mTab mid (pc + 1) lo (.int v :: st) h x := by
  rw [g_step hM hA rfl]; unfold kIA; simp only [mStp]
  by_cases ha : a < 6
  · rw [if_pos ha, if_pos ha]
    by_cases hj : 0 ≤ j.toInt ∧ j.toInt < (ro a).1
    · rw [if_pos hj, if_pos hj]
    · rw [if_neg hj, if_neg hj]
  rw [if_neg ha, if_neg ha]
  rcases mCell h a with _ | ⟨_ | _ | _ | _ | t, n, f | f⟩ | ⟨c, fs⟩ <;> try rfl
  by_cases hj : 0 ≤ j.toInt ∧ j.toInt < n
  · simp only [if_pos hj]
  · simp only [if_neg hj]
theorem g_baload {a : Nat} {j : Int32} (hM : mTab[mid]? = some M) (hA : mAt (mCd M) pc = some (.baload, l, r1, r2, w)) : mW ro mTab mid pc lo (.int j :: .ref a :: st) h x = kBA h a j fun v => mW ro mTab mid (pc + 1) lo (.int v :: st) h x := by
  rw [g_step hM hA rfl]; unfold kBA; simp only [mStp]
  rcases mCell h a with _ | ⟨_ | _ | _ | _ | t, n, f | f⟩ | ⟨c, fs⟩ <;> try rfl
  by_cases hj : 0 ≤ j.toInt ∧ j.toInt < n
  · simp only [if_pos hj]
  · simp only [if_neg hj]
theorem g_faload {a : Nat} {j : Int32} (hM : mTab[mid]? = some M) (hA : mAt (mCd M) pc = some (.faload, l, r1, r2, w)) : mW ro mTab mid pc lo (.int j :: .ref a :: st) h x = kFA h a j fun v => mW ro mTab mid (pc + 1) lo (.float v :: st) h x := by
  rw [g_step hM hA rfl]; unfold kFA; simp only [mStp]
  rcases mCell h a with _ | ⟨_ | _ | _ | _ | t, n, f | f | f | f⟩ | ⟨c, fs⟩ <;> try rfl
  by_cases hj : 0 ≤ j.toInt ∧ j.toInt < n
  · simp only [if_pos hj]
  · simp only [if_neg hj]
theorem g_fadd {a b : UInt32} (hM : mTab[mid]? = some M) (hA : mAt (mCd M) pc = some (.fadd, l, r1, r2, w)) : mW ro mTab mid pc lo (.float b :: .float a :: st) h x = kFN (FP.fadd a b) (mW ro mTab mid (pc + 1) lo (.float (FP.fadd a b) :: st) h x) := by
  rw [g_step hM hA rfl]; unfold kFN; simp only [mStp]
  by_cases hj : FP.fadd a b &&& 0x7fffffff ≤ 0x7f800000
  · simp only [if_pos hj]
  · simp only [if_neg hj]
theorem g_fmul {a b : UInt32} (hM : mTab[mid]? = some M) (hA : mAt (mCd M) pc = some (.fmul, l, r1, r2, w)) : mW ro mTab mid pc lo (.float b :: .float a :: st) h x = kFN (FP.fmul a b) (mW ro mTab mid (pc + 1) lo (.float (FP.fmul a b) :: st) h x) := by
  rw [g_step hM hA rfl]; unfold kFN; simp only [mStp]
  by_cases hj : FP.fmul a b &&& 0x7fffffff ≤ 0x7f800000
  · simp only [if_pos hj]
  · simp only [if_neg hj]
theorem g_copy {a b : Nat} {sp dp n : Int32} {ix : _} (hM : mTab[mid]? = some M) (hA : mAt (mCd M) pc = some (.invokestatic ix, l, 1005, r2, w)) (hs : (st.map Value.category).sum ≤ 8) : mW ro mTab mid pc lo (.int n :: .int dp :: .ref a :: .int sp :: .ref b :: st) h x =
    kCP h a b sp dp n fun n1 f g => mW ro mTab mid (pc + 3) lo st (h.set (a - 8) (.inl (0, n1, .inl (va_cpy f g sp.toNatClampNeg dp.toNatClampNeg n.toNatClampNeg)))) x := by
  rw [g_step hM hA rfl]; unfold kCP; simp only [mStp, if_true]
  rcases mCell h b with _ | ⟨_ | _ | _ | _ | t, n2, f | f⟩ | ⟨c, fs⟩ <;> rcases mCell h a with _ | ⟨_ | _ | _ | _ | t', n1, g | g⟩ | ⟨c', fs'⟩ <;> try rfl
  by_cases hj : (0 ≤ sp.toInt ∧ 0 ≤ dp.toInt ∧ 0 ≤ n.toInt) ∧ sp.toNatClampNeg + n.toNatClampNeg ≤ n2 ∧ dp.toNatClampNeg + n.toNatClampNeg ≤ n1
  · simp only [if_pos hj, if_pos (show ((0 ≤ sp.toInt ∧ 0 ≤ dp.toInt ∧ 0 ≤ n.toInt) ∧ sp.toNatClampNeg + n.toNatClampNeg ≤ n2 ∧ dp.toNatClampNeg + n.toNatClampNeg ≤ n1) ∧ (st.map Value.category).sum ≤ 8 from ⟨hj, hs⟩)]
  · simp only [if_neg hj, if_neg (show ¬ (((0 ≤ sp.toInt ∧ 0 ≤ dp.toInt ∧ 0 ≤ n.toInt) ∧ sp.toNatClampNeg + n.toNatClampNeg ≤ n2 ∧ dp.toNatClampNeg + n.toNatClampNeg ≤ n1) ∧ (st.map Value.category).sum ≤ 8) from fun z => hj z.1)]
theorem g_aaload {a : Nat} {j : Int32} (hM : mTab[mid]? = some M) (hA : mAt (mCd M) pc = some (.aaload, l, r1, r2, w)) : mW ro mTab mid pc lo (.int j :: .ref a :: st) h x = kAA h a j fun v => mW ro mTab mid (pc + 1) lo (v :: st) h x := by
  rw [g_step hM hA rfl]; unfold kAA; simp only [mStp]
  rcases mCell h a with _ | ⟨t, n, f | f | f | f | f⟩ | ⟨c, fs⟩ <;> try rfl
  by_cases hj : (t = 5 ∨ t = 6) ∧ 0 ≤ j.toInt ∧ j.toInt < n
  · simp only [if_pos hj]; cases f j.toNatClampNeg <;> rfl
  · simp only [if_neg hj]
theorem g_iastore {a : Nat} {j v : Int32} (hM : mTab[mid]? = some M) (hA : mAt (mCd M) pc = some (.iastore, l, r1, r2, w)) : mW ro mTab mid pc lo (.int v :: .int j :: .ref a :: st) h x = kIS h a j fun n f => mW ro mTab mid (pc + 1) lo st (h.set (a - 8) (.inl (0, n, .inl (upd f j.toNatClampNeg v)))) x := by
  rw [g_step hM hA rfl]; unfold kIS; simp only [mStp]
  rcases mCell h a with _ | ⟨_ | _ | _ | _ | t, n, f | f⟩ | ⟨c, fs⟩ <;> try rfl
  by_cases hj : 0 ≤ j.toInt ∧ j.toInt < n
  · simp only [if_pos hj]
  · simp only [if_neg hj]
theorem g_bastore {a : Nat} {j v : Int32} (hM : mTab[mid]? = some M) (hA : mAt (mCd M) pc = some (.bastore, l, r1, r2, w)) (hv : v = 0 ∨ v = 1) : mW ro mTab mid pc lo (.int v :: .int j :: .ref a :: st) h x = kBS h a j fun n f => mW ro mTab mid (pc + 1) lo st (h.set (a - 8) (.inl (1, n, .inl (upd f j.toNatClampNeg v)))) x := by
  rw [g_step hM hA rfl]; unfold kBS; simp only [mStp]
  rcases mCell h a with _ | ⟨_ | _ | _ | _ | t, n, f | f⟩ | ⟨c, fs⟩ <;> try rfl
  by_cases hj : 0 ≤ j.toInt ∧ j.toInt < n
  · simp only [if_pos hj, if_pos (show (0 ≤ j.toInt ∧ j.toInt < n) ∧ (v = 0 ∨ v = 1) from ⟨hj, hv⟩)]
  · simp only [if_neg hj, if_neg (show ¬ ((0 ≤ j.toInt ∧ j.toInt < n) ∧ (v = 0 ∨ v = 1)) from fun z => hj z.1)]
theorem g_fastore {a : Nat} {j : Int32} {v : UInt32} (hM : mTab[mid]? = some M) (hA : mAt (mCd M) pc = some (.fastore, l, r1, r2, w)) : mW ro mTab mid pc lo (.float v :: .int j :: .ref a :: st) h x = kFS h a j fun n f => mW ro mTab mid (pc + 1) lo st (h.set (a - 8) (.inl (2, n, .inr (.inr (.inl (vf_upd f j.toNatClampNeg v)))))) x := by
  rw [g_step hM hA rfl]; unfold kFS; simp only [mStp]
  rcases mCell h a with _ | ⟨_ | _ | _ | _ | t, n, f | f | f | f⟩ | ⟨c, fs⟩ <;> try rfl
  by_cases hj : 0 ≤ j.toInt ∧ j.toInt < n
  · simp only [if_pos hj]
  · simp only [if_neg hj]
theorem g_aastore {a b : Nat} {j : Int32} (hM : mTab[mid]? = some M) (hA : mAt (mCd M) pc = some (.aastore, l, r1, r2, w)) : mW ro mTab mid pc lo (.ref b :: .int j :: .ref a :: st) h x = kAS h a b j fun t n f => mW ro mTab mid (pc + 1) lo st (h.set (a - 8) (.inl (t, n, .inr (.inr (.inr (.inr (va_up f j.toNatClampNeg (some b)))))))) x := by
  rw [g_step hM hA rfl]; unfold kAS; simp only [mStp]
  rcases mCell h a with _ | ⟨t, n, f | f | f | f | f⟩ | ⟨c, fs⟩ <;> rcases mCell h b with _ | ⟨t1, n1, f1⟩ | ⟨c1, fs1⟩ <;> try rfl
  by_cases hj : ((t = 5 ∧ c1 = 3) ∨ (t = 6 ∧ c1 = 6)) ∧ 0 ≤ j.toInt ∧ j.toInt < n
  · simp only [if_pos hj]
  · simp only [if_neg hj]
def kAN (h : List mCel) (a : Nat) (j : Int32) (k : Nat → Nat → (Nat → Option Nat) → Option mOut) : Option mOut := match mCell h a with
  | some (.inl (t, n, .inr (.inr (.inr (.inr f))))) => if (t = 5 ∨ t = 6) ∧ 0 ≤ j.toInt ∧ j.toInt < n then k t n f else none
  | _ => none
theorem g_aastoreN {a : Nat} {j : Int32} (hM : mTab[mid]? = some M) (hA : mAt (mCd M) pc = some (.aastore, l, r1, r2, w)) : mW ro mTab mid pc lo (.null :: .int j :: .ref a :: st) h x = kAN h a j fun t n f => mW ro mTab mid (pc + 1) lo st (h.set (a - 8) (.inl (t, n, .inr (.inr (.inr (.inr (va_up f j.toNatClampNeg none))))))) x := by
  rw [g_step hM hA rfl]; unfold kAN; simp only [mStp]
  rcases mCell h a with _ | ⟨t, n, f | f | f | f | f⟩ | ⟨c, fs⟩ <;> try rfl
  by_cases hj : (t = 5 ∨ t = 6) ∧ 0 ≤ j.toInt ∧ j.toInt < n
  · simp only [if_pos hj]
  · simp only [if_neg hj]
theorem g_alen {a : Nat} (hM : mTab[mid]? = some M) (hA : mAt (mCd M) pc = some (.arraylength, l, r1, r2, w)) : mW ro mTab mid pc lo (.ref a :: st) h x = kAL ro h a fun v => mW ro mTab mid (pc + 1) lo (.int v :: st) h x := by
  rw [g_step hM hA rfl]; unfold kAL; simp only [mStp]
  by_cases ha : a < 6
  · rw [if_pos ha, if_pos ha]
  rw [if_neg ha, if_neg ha]
  rcases mCell h a with _ | ⟨t, n, f⟩ | ⟨c, fs⟩ <;> try rfl
  by_cases hj : t < 3 ∨ t = 5 ∨ t = 6
  · simp only [if_pos hj]
  · simp only [if_neg hj]
theorem g_newarray {v : Int32} {ty : _} (hM : mTab[mid]? = some M) (hA : mAt (mCd M) pc = some (.newarray ty, l, r1, r2, w)) (hv : 0 ≤ v.toInt ∧ v.toInt ≤ 1000000) : mW ro mTab mid pc lo (.int v :: st) h x = mW ro mTab mid (pc + 2) lo (.ref (8 + h.length) :: st) (h ++ [.inl (r1, mZero (mTy r1) v.toNatClampNeg)]) x := by
  rw [g_step hM hA rfl]; simp only [mStp, if_pos hv]
theorem g_anewarray {v : Int32} {ix : _} (hM : mTab[mid]? = some M) (hA : mAt (mCd M) pc = some (.anewarray ix, l, r1, r2, w)) (hr : r1 = 5 ∨ r1 = 6) (hv : 0 ≤ v.toInt ∧ v.toInt ≤ 1000000) : mW ro mTab mid pc lo (.int v :: st) h x = mW ro mTab mid (pc + 3) lo (.ref (8 + h.length) :: st) (h ++ [.inl (r1, mZero (mTy r1) v.toNatClampNeg)]) x := by
  rw [g_step hM hA rfl]; simp only [mStp, if_pos (show (r1 = 5 ∨ r1 = 6) ∧ 0 ≤ v.toInt ∧ v.toInt ≤ 1000000 from ⟨hr, hv⟩)]
theorem g_thr {E : Nat} (hM : mTab[mid]? = some M) (hA : mAt (mCd M) pc = some (i, l, r1, r2, w)) (hK : mKnd i r1 = 3) (hE : r1 - 900 = E) (hs : (st.map Value.category).sum ≤ 8) : mW ro mTab mid pc lo st h x = some (.inr E, h, x + 1) := by
  subst hE
  rw [mW_eq]; unfold mF; simp only [hM, hA, hK]
  rw [if_pos hs]
theorem g_ret {v : Option Value} (hM : mTab[mid]? = some M) (hA : mAt (mCd M) pc = some (i, l, r1, r2, w)) (hK : mKnd i r1 = 1) (hr : mRet (mRt M) i st = some v) : mW ro mTab mid pc lo st h x = some (.inl v, h, x) := by
  rw [mW_eq]; unfold mF; simp only [hM, hA, hK, hr]
theorem g_iret {v : Int32} (hM : mTab[mid]? = some M) (hA : mAt (mCd M) pc = some (.ireturn, l, r1, r2, w)) (hr : mRt M = some .int) : mW ro mTab mid pc lo [.int v] h x = some (.inl (some (.int v)), h, x) :=
  g_ret hM hA rfl (by rw [hr]; rfl)
theorem g_zret {v : Int32} (hM : mTab[mid]? = some M) (hA : mAt (mCd M) pc = some (.ireturn, l, r1, r2, w)) (hr : mRt M = some .boolean) (hv : v = 0 ∨ v = 1) : mW ro mTab mid pc lo [.int v] h x = some (.inl (some (.int v)), h, x) :=
  g_ret hM hA rfl (by rw [hr]; unfold mRet; exact (if_pos rfl).trans (if_pos hv))
theorem g_obj {a : Nat} {ix : _} (hM : mTab[mid]? = some M) (hA : mAt (mCd M) pc = some (.invokespecial ix, l, 1000, r2, w)) (hs : (st.map Value.category).sum ≤ 8) : mW ro mTab mid pc lo (.ref a :: st) h x = mW ro mTab mid (pc + 3) lo st h x := by
  rw [mW_eq]; unfold mF; simp only [hM, hA, show mKnd (.invokespecial ix) 1000 = 2 from rfl]
  rw [if_pos True.intro, if_pos hs]
theorem g_math {st' : List Value} {ix : _} (h1 : 1000 < r1) (h5 : r1 ≠ 1005) (hM : mTab[mid]? = some M) (hA : mAt (mCd M) pc = some (.invokestatic ix, l, r1, r2, w)) (hm : mMath r1 st = some st') : mW ro mTab mid pc lo st h x = mW ro mTab mid (pc + 3) lo st' h x := by
  rw [mW_eq]; unfold mF; simp only [hM, hA, show mKnd (.invokestatic ix) r1 = 2 from if_neg h5]
  rw [if_neg (by omega), if_pos h1, hm]
theorem g_max {a b : Int32} {ix : _} (hM : mTab[mid]? = some M) (hA : mAt (mCd M) pc = some (.invokestatic ix, l, 1002, r2, w)) (hs : (st.map Value.category).sum ≤ 8) : mW ro mTab mid pc lo (.int b :: .int a :: st) h x = mW ro mTab mid (pc + 3) lo (.int (if a < b then b else a) :: st) h x :=
  g_math (by decide) (by decide) hM hA (by simp only [mMath, if_pos hs])
theorem g_min {a b : Int32} {ix : _} (hM : mTab[mid]? = some M) (hA : mAt (mCd M) pc = some (.invokestatic ix, l, 1003, r2, w)) (hs : (st.map Value.category).sum ≤ 8) : mW ro mTab mid pc lo (.int b :: .int a :: st) h x = mW ro mTab mid (pc + 3) lo (.int (if b < a then b else a) :: st) h x :=
  g_math (by decide) (by decide) hM hA (by simp only [mMath, if_pos hs])
theorem g_mabs {a : Int32} {ix : _} (hM : mTab[mid]? = some M) (hA : mAt (mCd M) pc = some (.invokestatic ix, l, 1004, r2, w)) (hs : (st.map Value.category).sum ≤ 8) : mW ro mTab mid pc lo (.int a :: st) h x = mW ro mTab mid (pc + 3) lo (.int (if 0 ≤ a then a else 0 - a) :: st) h x :=
  g_math (by decide) (by decide) hM hA (by simp only [mMath, if_pos hs])
/-- mPop without the check of what is left -/
def kT : Nat → List Value → List Value → Option (List Value × List Value)
  | 0, acc, st => some (acc, st)
  | n + 1, acc, v :: st => if v.category = 1 then kT n (v :: acc) st else none
  | _ + 1, _, [] => none
theorem kT_pop : ∀ (n : Nat) (acc st as st' : List Value), kT n acc st = some (as, st') → (st'.map Value.category).sum ≤ 8 → mPop n acc st = some (as, st')
  | 0, acc, st, as, st', hk, hs => by cases hk; unfold mPop; rw [if_pos hs]
  | n + 1, acc, [], as, st', hk, hs => by cases hk
  | n + 1, acc, v :: st, as, st', hk, hs => by
    unfold kT at hk; unfold mPop
    split at hk
    · next hc => rw [if_pos hc]; exact kT_pop n _ _ _ _ hk hs
    · cases hk
set_option maxRecDepth 100000 in
theorem tab_len : mTab.length = 191 := rfl
theorem g_call {as st' : List Value} {M' : mM} (hM : mTab[mid]? = some M) (hA : mAt (mCd M) pc = some (i, l, r1, r2, w)) (hK : mKnd i r1 = 2) (hM' : mTab[r1]? = some M') (hp : kT (mNa M') [] st = some (as, st')) {lo' : List (Option Value)} (hl : as.map some ++ List.replicate (mMx M' - as.length) none = lo') (hrc : mRcv (mKd M') as h = true) (hs : (st'.map Value.category).sum ≤ 8) :
    mW ro mTab mid pc lo st h x = mAft (mW ro mTab) (mHd M) mid pc lo st' (mW ro mTab r1 0 lo' [] h x) := by
  subst hl
  have h1 : r1 < 191 := Nat.lt_of_lt_of_eq (List.getElem?_eq_some_iff.mp hM').1 tab_len
  rw [mW_eq]; unfold mF; simp only [hM, hA, hK]
  rw [if_neg (by omega), if_neg (by omega)]
  simp only [hM', kT_pop _ _ _ _ _ hp hs, if_pos hrc]
theorem g_rcv {kd c a : Nat} {t : List Value} (hk : kd % 1000 = c) (hr : kR (mCell h a) c = true) : mRcv kd (.ref a :: t) h = true := by
  subst hk
  unfold mRcv
  split
  · rfl
  · unfold kR at hr
    cases hc : mCell h a with
    | none => rw [hc] at hr; cases hr
    | some q =>
      rw [hc] at hr
      rcases q with q | ⟨c, fs⟩
      · cases hr
      · dsimp only; rw [hc]; exact hr
end
