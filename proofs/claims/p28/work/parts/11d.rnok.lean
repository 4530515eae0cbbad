theorem pop_ok {n k : Nat} : ∀ {acc st as st' : List Value}, mPop k acc st = some (as, st') → sOk n acc → sOk n st → sOk n as ∧ sOk n st' := by
  induction k with
  | zero =>
    intro acc st as st' h qa qs
    unfold mPop at h
    split at h
    · cases h; exact ⟨qa, qs⟩
    · cases h
  | succ k ih =>
    intro acc st as st' h qa qs
    cases st with
    | nil => cases h
    | cons v t =>
      unfold mPop at h
      split at h
      · rw [sOk_cons] at qs
        exact ih h (sOk_cons.mpr ⟨qs.1, qa⟩) qs.2
      · cases h
theorem math_ok {n r1 : Nat} {st st' : List Value} (h : mMath r1 st = some st') (q : sOk n st) : sOk n st' := by
  unfold mMath at h
  split at h
  · split at h
    · cases h; simp only [sOk_cons] at q ⊢; exact ⟨trivial, q.2.2⟩
    · cases h
  · split at h
    · cases h; simp only [sOk_cons] at q ⊢; exact ⟨trivial, q.2.2⟩
    · cases h
  · split at h
    · cases h; simp only [sOk_cons] at q ⊢; exact ⟨trivial, q.2⟩
    · cases h
  · cases h
theorem in_ok {n k : Nat} {as : List Value} (q : sOk n as) : lOk n (as.map some ++ List.replicate k none) := fun v hv => by
  rcases List.mem_append.mp hv with hv | hv
  · obtain ⟨w, hw, e⟩ := List.mem_map.mp hv
    cases e
    exact q _ hw
  · cases (List.eq_of_mem_replicate hv)
theorem ret_ok {n : Nat} {rt : Option FieldType} {i : Instr} {st : List Value} {v : Option Value} (h : mRet rt i st = some v) (q : sOk n st) : sOk n v.toList := by
  unfold mRet at h
  split at h
  · split at h
    · split at h
      · cases h; exact q
      · cases h
    · split at h
      · cases h; exact q
      · cases h
  · split at h
    · cases h; exact q
    · cases h; exact q
    · cases h
  · split at h
    · cases h; exact q
    · cases h
  · split at h
    · cases h; exact sOk_nil
    · cases h
  · cases h
def rOk (n : Nat) : Option Value ⊕ Nat → Prop
  | .inl v => sOk n v.toList
  | .inr _ => True
theorem rn_ok {ro : Nat → Nat × (Nat → Int32)} {tab : List mM} : ∀ (n : Nat) {mid pc : Nat} {lo : List (Option Value)} {st : List Value} {h : List mCel} {x : Nat} {r : Option Value ⊕ Nat} {h1 : List mCel} {x1 : Nat},
    rn ro tab n mid pc lo st h x = some (r, h1, x1) → lOk (8 + h.length) lo → sOk (8 + h.length) st → hOk h → hOk h1 ∧ rOk (8 + h1.length) r
  | 0, _, _, _, _, _, _, _, _, _, hh, _, _, _ => by cases hh
  | n + 1, mid, pc, lo, st, h, x, r, h1, x1, hh, ql, qs, qh => by
    have ih := fun {mid pc lo st h x r h1 x1} => @rn_ok ro tab n mid pc lo st h x r h1 x1
    replace hh : mF ro tab (rn ro tab n) mid pc lo st h x = some (r, h1, x1) := hh
    unfold mF at hh
    split at hh
    · cases hh
    · split at hh
      · cases hh
      · split at hh
        · split at hh
          · next q =>
            obtain ⟨a, b, c⟩ := stp_ok q ql qs qh
            exact ih hh a b c
          · cases hh
        · split at hh
          · next q => cases hh; exact ⟨qh, ret_ok q qs⟩
          · cases hh
        · split at hh
          · split at hh
            · split at hh
              · exact ih hh ql (sOk_cons.mp qs).2 qh
              · cases hh
            · cases hh
          · split at hh
            · split at hh
              · next q => exact ih hh ql (math_ok q qs) qh
              · cases hh
            split at hh
            · cases hh
            · split at hh
              · cases hh
              · next as st' q =>
                obtain ⟨qa, qs'⟩ := pop_ok q sOk_nil qs
                split at hh
                · cases hc : rn ro tab n _ 0 _ [] h x with
                  | none => rw [hc] at hh; cases hh
                  | some o =>
                    obtain ⟨r9, h9, x9⟩ := o
                    rw [hc] at hh
                    obtain ⟨a, b⟩ := ih hc (in_ok qa) sOk_nil qh
                    have m := (rn_mono n hc).1
                    unfold mAft at hh
                    split at hh
                    · next e => cases e; exact ih hh (lOk_mono (by omega) ql) (sOk_app.mpr ⟨b, sOk_mono (by omega) qs'⟩) a
                    · next e =>
                      cases e
                      split at hh
                      · exact ih hh (lOk_none (lOk_mono (by omega) ql)) sOk_nil a
                      · split at hh
                        · cases hh; exact ⟨a, trivial⟩
                        · cases hh
                    · cases hh
                · cases hh
        · split at hh
          · cases hh; exact ⟨qh, trivial⟩
          · cases hh
/-- the words of values that lead to cells -/
theorem rv_ag {n n0 : Nat} {ρ0 ρ : Nat → Nat} (h : mAg n0 ρ0 ρ) (hn : n ≤ n0) {v : Value} (q : vOk n v) : rv ρ v = rv ρ0 v := by
  cases v with
  | ref a => exact congrArg Value.ref (h a (Or.inr (Nat.lt_of_lt_of_le q hn)))
  | _ => rfl
theorem st_ag {n n0 : Nat} {ρ0 ρ : Nat → Nat} (h : mAg n0 ρ0 ρ) (hn : n ≤ n0) {st : List Value} (q : sOk n st) : st.map (rv ρ) = st.map (rv ρ0) :=
  List.map_congr_left fun v hv => rv_ag h hn (q v hv)
theorem rc_ag {κ : Nat → Nat} {n n0 : Nat} {ρ0 ρ : Nat → Nat} (h : mAg n0 ρ0 ρ) (hn : n ≤ n0) {c : mCel} (q : cOk n c) : rc κ ρ c = rc κ ρ0 c := by
  rcases c with ⟨t, k, f | f | f | f | f⟩ | ⟨c, fs⟩
  · rfl
  · rfl
  · rfl
  · rfl
  · have e1 : (fun i => (f i).map ρ) = fun i => (f i).map ρ0 := by
      funext i
      cases e : f i with
      | none => rfl
      | some a => simp only [Option.map_some]; rw [h a (Or.inr (Nat.lt_of_lt_of_le (q i a e) hn))]
    show (Sum.inl (κ t, k, .inr (.inr (.inr (.inr fun i => (f i).map ρ)))) : va_E) = _
    rw [e1]
    rfl
  · show (Sum.inr (c, fs.map (rv ρ)) : va_E) = _
    rw [List.map_congr_left (f := rv ρ) (g := rv ρ0) fun v hv => rv_ag h hn (q v hv)]
    rfl
theorem xWf_ag {κ : Nat → Nat} {n n0 : Nat} {ρ0 ρ : Nat → Nat} (h : mAg n0 ρ0 ρ) (hn : n ≤ n0) : ∀ (hp : List mCel) (k : Nat), (∀ c ∈ hp, cOk n c) → k + hp.length ≤ n → xWf κ ρ k hp = xWf κ ρ0 k hp
  | [], _, _, _ => rfl
  | c :: t, k, q, hk => by
    rw [List.length_cons] at hk
    unfold xWf
    rw [h k (Or.inr (by omega)), rc_ag h hn (q c List.mem_cons_self), xWf_ag h hn t (k + 1) (fun d hd => q d (List.mem_cons_of_mem _ hd)) (by omega)]
theorem xW_ag {κ : Nat → Nat} {n0 : Nat} {ρ0 ρ : Nat → Nat} {hp : List mCel} (h : mAg n0 ρ0 ρ) (hn : 8 + hp.length ≤ n0) (q : hOk hp) : xW κ ρ hp = xW κ ρ0 hp :=
  xWf_ag h hn hp 8 q (Nat.le_refl _)
theorem mL_ag {n n0 mx : Nat} {ρ0 ρ : Nat → Nat} (h : mAg n0 ρ0 ρ) (hn : n ≤ n0) {lo : List (Option Value)} {ls : Array Slot} (q : lOk n lo) (hL : mL ρ0 mx lo ls) : mL ρ mx lo ls := by
  refine ⟨hL.1, hL.2.1, hL.2.2.1, fun i v hv => ?_⟩
  rw [rv_ag h hn (lOk_get q hv)]
  exact hL.2.2.2 i v hv
theorem mAg_rf (n0 : Nat) (ρ : Nat → Nat) : mAg n0 ρ ρ := fun _ _ => rfl
theorem mAg_tr {n0 n1 : Nat} {ρ0 ρ1 ρ2 : Nat → Nat} (h1 : mAg n0 ρ0 ρ1) (h2 : mAg n1 ρ1 ρ2) (hn : n0 ≤ n1) : mAg n0 ρ0 ρ2 := fun k hk =>
  (h2 k (hk.imp id (fun z => Nat.lt_of_lt_of_le z hn))).trans (h1 k hk)
/-- the words from a new place on -/
def mSh (n sz : Nat) (ρ : Nat → Nat) : Nat → Nat := fun j => if j < n then ρ j else sz + (j - n)
theorem mSh_ag {n sz : Nat} {ρ : Nat → Nat} (h8 : 8 ≤ n) : mAg n ρ (mSh n sz ρ) := fun k hk => if_pos (hk.elim (fun z => Nat.lt_of_lt_of_le z h8) id)
theorem mSh_at {n sz : Nat} {ρ : Nat → Nat} : ∀ j, n ≤ j → mSh n sz ρ j = sz + (j - n) := fun j hj => if_neg (by omega)
