theorem set_ok {h : List mCel} {a : Nat} {c d : mCel} (e : mCell h a = some d) (q : hz1 c = hz1 d) : h.length ≤ (h.set (a - 8) c).length ∧ hz h ≤ hz (h.set (a - 8) c) :=
  ⟨by simp, by rw [hz_set h _ _ _ (xW_cell (κ := id) (ρ := id) e).2.2 q]; exact Nat.le_refl _⟩
theorem app_ok (h : List mCel) (c : mCel) : h.length ≤ (h ++ [c]).length ∧ hz h ≤ hz (h ++ [c]) := ⟨by simp, by rw [hz_app]; omega⟩
set_option maxHeartbeats 2000000 in
theorem stp_mono {ro : Nat → Nat × (Nat → Int32)} {i : Instr} {r1 r2 pc pc' : Nat} {lo lo' : List (Option Value)} {st st' : List Value} {h h' : List mCel} (hs : mStp ro i r1 r2 pc lo st h = some (pc', lo', st', h')) : h.length ≤ h'.length ∧ hz h ≤ hz h' := by
  cases i <;> first
    | exact (nomatch (show (none : Option mSt) = some (pc', lo', st', h') from hs))
    | (simp only [mStp] at hs; (repeat' split at hs) <;> first
        | (cases hs; done)
        | (cases hs; exact ⟨Nat.le_refl _, Nat.le_refl _⟩)
        | (cases hs; exact app_ok _ _)
        | (cases hs; exact set_ok (by assumption) (by simp [hz1]))
        | (cases hs; exact set_ok (by assumption) rfl))
theorem rn_mono {ro : Nat → Nat × (Nat → Int32)} {tab : List mM} : ∀ (n : Nat) {mid pc : Nat} {lo : List (Option Value)} {st : List Value} {h : List mCel} {x : Nat} {r : Option Value ⊕ Nat} {h1 : List mCel} {x1 : Nat},
    rn ro tab n mid pc lo st h x = some (r, h1, x1) → h.length ≤ h1.length ∧ hz h ≤ hz h1 ∧ x ≤ x1
  | 0, _, _, _, _, _, _, _, _, _, hh => by cases hh
  | n + 1, mid, pc, lo, st, h, x, r, h1, x1, hh => by
    have ih := fun {mid pc lo st h x r h1 x1} => @rn_mono ro tab n mid pc lo st h x r h1 x1
    replace hh : mF ro tab (rn ro tab n) mid pc lo st h x = some (r, h1, x1) := hh
    unfold mF at hh
    split at hh
    · cases hh
    · split at hh
      · cases hh
      · split at hh
        · split at hh
          · next q =>
            have a := stp_mono q
            have b := ih hh
            omega
          · cases hh
        · split at hh
          · cases hh; exact ⟨Nat.le_refl _, Nat.le_refl _, Nat.le_refl _⟩
          · cases hh
        · split at hh
          · split at hh
            · split at hh
              · exact ih hh
              · cases hh
            · cases hh
          · split at hh
            · split at hh
              · exact ih hh
              · cases hh
            split at hh
            · cases hh
            · split at hh
              · cases hh
              · split at hh
                · cases hc : rn ro tab n _ 0 _ [] h x with
                  | none => rw [hc] at hh; cases hh
                  | some o =>
                    obtain ⟨r9, h9, x9⟩ := o
                    rw [hc] at hh
                    have a := ih hc
                    unfold mAft at hh
                    split at hh
                    · next e => cases e; have b := ih hh; omega
                    · next e =>
                      cases e
                      split at hh
                      · have b := ih hh; omega
                      · split at hh
                        · cases hh; exact a
                        · cases hh
                    · cases hh
                · cases hh
        · split at hh
          · cases hh; exact ⟨Nat.le_refl _, Nat.le_refl _, Nat.le_succ _⟩
          · cases hh
