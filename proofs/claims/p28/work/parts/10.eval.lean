abbrev mOut : Type := (Option Value ⊕ Nat) × List mCel × Nat
abbrev mFn : Type := Nat → Nat → List (Option Value) → List Value → List mCel → Nat → Option mOut
def mRet (rt : Option FieldType) (i : Instr) (st : List Value) : Option (Option Value) := match i, st with
  | .ireturn, [.int v] => if rt = some .boolean then (if v = 0 ∨ v = 1 then some (some (.int v)) else none) else if rt = some .int then some (some (.int v)) else none
  | .areturn, [.ref a] => match rt with | some (.object _) => some (some (.ref a)) | some (.array _) => some (some (.ref a)) | _ => none
  | .freturn, [.float a] => if rt = some .float then some (some (.float a)) else none
  | .return_, [] => if rt = none then some none else none
  | _, _ => none
def mPop : Nat → List Value → List Value → Option (List Value × List Value)
  | 0, acc, st => if (st.map Value.category).sum ≤ 8 then some (acc, st) else none
  | n + 1, acc, v :: st => if v.category = 1 then mPop n (v :: acc) st else none
  | _ + 1, _, [] => none
/-- start, end, handler, exception, length of its first row, number of its class, local that it writes -/
def mCatch : List (Nat × Nat × Nat × Nat × Nat × Nat × Nat) → Nat → Nat → Option (Nat × Nat)
  | [], _, _ => none
  | (a, b, hp, E', l, _, k) :: t, pc, E => if (a ≤ pc ∧ pc < b) ∧ E' = E then some (hp + l, k) else mCatch t pc E
/-- the receiver is an object of the method's class -/
def mRcv (kd : Nat) (as : List Value) (h : List mCel) : Bool := if kd < 1000 then true else match as with
  | .ref a :: _ => match mCell h a with | some (.inr (c, _)) => decide (c = kd % 1000) | _ => false
  | _ => false
/-- max, min and abs of the JDK -/
def mMath (r1 : Nat) (st : List Value) : Option (List Value) := match r1, st with
  | 1002, .int y :: .int x :: st => if (st.map Value.category).sum ≤ 8 then some (.int (if x < y then y else x) :: st) else none
  | 1003, .int y :: .int x :: st => if (st.map Value.category).sum ≤ 8 then some (.int (if y < x then y else x) :: st) else none
  | 1004, .int x :: st => if (st.map Value.category).sum ≤ 8 then some (.int (if 0 ≤ x then x else 0 - x) :: st) else none
  | _, _ => none
/-- behind a call -/
def mAft (f : mFn) (hd : List (Nat × Nat × Nat × Nat × Nat × Nat × Nat)) (mid pc : Nat) (lo : List (Option Value)) (st : List Value) (o : Option mOut) : Option mOut := match o with
  | some (.inl v, h, x) => f mid (pc + 3) lo (v.toList ++ st) h x
  | some (.inr E, h, x) => match mCatch hd pc E with
    | some (hp, k) => f mid hp (lo.set k none) [] h x
    | none => match hd with
      | [] => some (.inr E, h, x)
      | _ => none
  | none => none
def mF (ro : Nat → Nat × (Nat → Int32)) (tab : List mM) (f : mFn) : mFn := fun mid pc lo st h x => match tab[mid]? with
  | none => none
  | some M => match mAt (mCd M) pc with
    | none => none
    | some (i, _, r1, r2, _) => match mKnd i r1 with
      | 0 => match mStp ro i r1 r2 pc lo st h with
        | some (pc', lo', st', h') => f mid pc' lo' st' h' x
        | none => none
      | 1 => match mRet (mRt M) i st with
        | some v => some (.inl v, h, x)
        | none => none
      | 2 => if r1 = 1000 then match st with
            | .ref _ :: st => if (st.map Value.category).sum ≤ 8 then f mid (pc + 3) lo st h x else none
            | _ => none
          else if 1000 < r1 then match mMath r1 st with
            | some st' => f mid (pc + 3) lo st' h x
            | none => none
          else match tab[r1]? with
            | none => none
            | some M' => match mPop (mNa M') [] st with
              | none => none
              | some (as, st') => if mRcv (mKd M') as h = true then
                  mAft f (mHd M) mid pc lo st' (f r1 0 (as.map some ++ List.replicate (mMx M' - as.length) none) [] h x) else none
      | _ => if (st.map Value.category).sum ≤ 8 then some (.inr (r1 - 900), h, x + 1) else none
def rn (ro : Nat → Nat × (Nat → Int32)) (tab : List mM) : Nat → mFn
  | 0 => fun _ _ _ _ _ _ => none
  | n + 1 => mF ro tab (rn ro tab n)
theorem mAft_mono {f g : mFn} (hfg : ∀ a b c d e x o, f a b c d e x = some o → g a b c d e x = some o) {hd mid pc lo st o r} (h : mAft f hd mid pc lo st o = some r) : mAft g hd mid pc lo st o = some r := by
  unfold mAft at h ⊢
  split at h
  · exact hfg _ _ _ _ _ _ _ h
  · split at h
    · exact hfg _ _ _ _ _ _ _ h
    · split at h
      · exact h
      · cases h
  · cases h
theorem mF_mono {ro tab} {f g : mFn} (hfg : ∀ a b c d e x o, f a b c d e x = some o → g a b c d e x = some o) {mid pc lo st h x r} (hh : mF ro tab f mid pc lo st h x = some r) : mF ro tab g mid pc lo st h x = some r := by
  unfold mF at hh ⊢
  split at hh
  · cases hh
  · next M eM =>
    split at hh
    · cases hh
    · next i l r1 r2 w eA =>
      split at hh
      · split at hh
        · exact hfg _ _ _ _ _ _ _ hh
        · cases hh
      · exact hh
      · split at hh
        · next e1 =>
          rw [if_pos e1]
          split at hh
          · split at hh
            · next e2 => rw [if_pos e2]; exact hfg _ _ _ _ _ _ _ hh
            · cases hh
          · cases hh
        · next e1 =>
          rw [if_neg e1]
          split at hh
          · next e2 =>
            rw [if_pos e2]
            split at hh
            · exact hfg _ _ _ _ _ _ _ hh
            · cases hh
          next e2 =>
          rw [if_neg e2]
          split at hh
          · cases hh
          · split at hh
            · cases hh
            · next as st' eP =>
              split at hh
              · next eR =>
                rw [if_pos eR]
                cases hc : f r1 0 (as.map some ++ List.replicate (_ - as.length) none) [] h x with
                | none => rw [hc] at hh; cases hh
                | some o =>
                  rw [hc] at hh
                  rw [hfg _ _ _ _ _ _ _ hc]
                  exact mAft_mono hfg hh
              · cases hh
      · exact hh
theorem rn_succ {ro tab} : ∀ (n : Nat) {mid pc lo st h x o}, rn ro tab n mid pc lo st h x = some o → rn ro tab (n + 1) mid pc lo st h x = some o
  | 0, _, _, _, _, _, _, _, h => by cases h
  | n + 1, _, _, _, _, _, _, _, h => mF_mono (fun _ _ _ _ _ _ _ hh => rn_succ n hh) h
theorem rn_le {ro tab} {n m : Nat} (hnm : n ≤ m) {mid pc lo st h x o} (hh : rn ro tab n mid pc lo st h x = some o) : rn ro tab m mid pc lo st h x = some o := by
  obtain ⟨k, rfl⟩ := Nat.exists_eq_add_of_le hnm
  clear hnm
  induction k with
  | zero => exact hh
  | succ k ih => exact rn_succ _ ih
noncomputable def mW (ro : Nat → Nat × (Nat → Int32)) (tab : List mM) : mFn := fun mid pc lo st h x =>
  @dite _ (∃ o : mOut, ∃ n, rn ro tab n mid pc lo st h x = some o) (Classical.propDecidable _) (fun H => some (Classical.choose H)) (fun _ => none)
theorem mW_of {ro tab} {n mid pc lo st h x o} (hh : rn ro tab n mid pc lo st h x = some o) : mW ro tab mid pc lo st h x = some o := by
  have H : ∃ o : mOut, ∃ n, rn ro tab n mid pc lo st h x = some o := ⟨o, n, hh⟩
  unfold mW
  rw [dif_pos H]
  obtain ⟨m, hm⟩ := Classical.choose_spec H
  have h1 := rn_le (Nat.le_max_left n m) hh
  have h2 := rn_le (Nat.le_max_right n m) hm
  rw [h1] at h2
  rw [← Option.some.inj h2]
theorem mW_rn {ro tab} {mid pc lo st h x o} (hh : mW ro tab mid pc lo st h x = some o) : ∃ n, rn ro tab n mid pc lo st h x = some o := by
  unfold mW at hh
  split at hh
  · next H =>
    obtain ⟨n, hn⟩ := Classical.choose_spec H
    rw [Option.some.inj hh] at hn
    exact ⟨n, hn⟩
  · cases hh
theorem mF_fin {ro tab mid pc lo st h x r} (hh : mF ro tab (mW ro tab) mid pc lo st h x = some r) : ∃ n, mF ro tab (rn ro tab n) mid pc lo st h x = some r := by
  unfold mF at hh ⊢
  split at hh
  · cases hh
  · next M eM =>
    split at hh
    · cases hh
    · next i l r1 r2 w eA =>
      split at hh
      · split at hh
        · exact mW_rn hh
        · cases hh
      · exact ⟨0, hh⟩
      · split at hh
        · next e1 =>
          simp only [if_pos e1]
          split at hh
          · split at hh
            · next e2 => simp only [if_pos e2]; exact mW_rn hh
            · cases hh
          · cases hh
        · next e1 =>
          simp only [if_neg e1]
          split at hh
          · next e2 =>
            simp only [if_pos e2]
            split at hh
            · exact mW_rn hh
            · cases hh
          next e2 =>
          simp only [if_neg e2]
          split at hh
          · cases hh
          · split at hh
            · cases hh
            · next as st' eP =>
              split at hh
              · next eR =>
                simp only [if_pos eR]
                cases hc : mW ro tab r1 0 (as.map some ++ List.replicate (_ - as.length) none) [] h x with
                | none => rw [hc] at hh; cases hh
                | some o =>
                  obtain ⟨n, hn⟩ := mW_rn hc
                  rw [hc] at hh
                  unfold mAft at hh
                  split at hh
                  · next v h' x' e3 =>
                    cases e3
                    obtain ⟨m, hm⟩ := mW_rn hh
                    refine ⟨max n m, ?_⟩
                    rw [rn_le (Nat.le_max_left n m) hn]
                    exact rn_le (Nat.le_max_right n m) hm
                  · next E h' x' e3 =>
                    cases e3
                    split at hh
                    · next hp e4 =>
                      obtain ⟨m, hm⟩ := mW_rn hh
                      refine ⟨max n m, ?_⟩
                      rw [rn_le (Nat.le_max_left n m) hn]
                      unfold mAft
                      simp only [e4]
                      exact rn_le (Nat.le_max_right n m) hm
                    · next e4 =>
                      refine ⟨n, ?_⟩
                      rw [hn]
                      unfold mAft
                      simp only [e4]
                      split at hh
                      · exact hh
                      · cases hh
                  · cases hh
              · cases hh
      · exact ⟨0, hh⟩
theorem mW_eq (ro : Nat → Nat × (Nat → Int32)) (tab : List mM) (mid pc : Nat) (lo : List (Option Value)) (st : List Value) (h : List mCel) (x : Nat) : mW ro tab mid pc lo st h x = mF ro tab (mW ro tab) mid pc lo st h x := by
  cases h1 : mF ro tab (mW ro tab) mid pc lo st h x with
  | some r =>
    obtain ⟨n, hn⟩ := mF_fin h1
    exact mW_of (n := n + 1) hn
  | none =>
    cases h2 : mW ro tab mid pc lo st h x with
    | none => rfl
    | some r =>
      obtain ⟨n, hn⟩ := mW_rn h2
      cases n with
      | zero => cases hn
      | succ n =>
        have h3 := mF_mono (fun _ _ _ _ _ _ _ q => mW_of q) (show mF ro tab (rn ro tab n) mid pc lo st h x = some r from hn)
        rw [h1] at h3
        cases h3
