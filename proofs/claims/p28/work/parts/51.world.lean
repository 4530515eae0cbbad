section
variable {L : Nat} {xs : Nat → Int32} {k : Nat} {ad : Nat → Nat} {N : Nat → Nat → Nat} {h : List mCel}
theorem c_stateOf {p b : Int32} : mW (mRo L xs) mTab 153 0 [some (.int p), some (.int b)] [] h k = some (.inl (some (.int (if b = 0 then p else p + 2048))), h, k) := by
  rw [e153_0, e153_1]
  by_cases z : b = 0
  · rw [if_pos z, if_pos z, e153_12, e153_13]
  · rw [if_neg z, if_neg z, e153_4, e153_5, e153_8, e153_9, e153_13]
theorem c_cuspCost {a : Nat} {fs : List Value} {v : Int32} (hc : mCell h a = some (.inr (4, fs))) (hv : fs[1]? = some (.int v)) : mW (mRo L xs) mTab 110 0 [some (.ref a)] [] h k = some (.inl (some (.int v)), h, k) := by
  rw [e110_0, e110_1, kF_eq hc hv, e110_4]
def pOf (fc : Nat → Int32) (mg p m q : Int32) : Int32 := pSteps (pH p) m + 5 * (if 0 < mg - pAt fc q then mg - pAt fc q else 0)
theorem c_ofMove {P F cl : Nat} {fs fF : List Value} {fc : Nat → Int32} {mg p m q : Int32} (hP : mCell h P = some (.inr (4, fs))) (h0 : fs[0]? = some (.ref F)) (h2 : fs[2]? = some (.int mg)) (hF : mCell h F = some (.inr (1, fF))) (h3 : fF[3]? = some (.ref cl)) (hcl : mCell h cl = some (.inl (0, 256, .inl fc))) :
    mW (mRo L xs) mTab 112 0 [some (.ref P), some (.int p), some (.int m), some (.int q), none] [] h k = some (.inl (some (.int (pOf fc mg p m q))), h, k) := by
  rw [e112_0, e112_1, e112_2, kF_eq hP h2, e112_5, e112_6, kF_eq hP h0, e112_9, e112_10 (kR_eq hF) (by simp [Value.category]), c_clearOf hF h3 hcl]
  simp only [mAft, Option.toList_some, List.cons_append, List.nil_append]
  rw [e112_13, e112_14 (by simp), e112_17, e112_19, e112_20 (by simp), c_headingOf]
  simp only [mAft, Option.toList_some, List.cons_append, List.nil_append]
  rw [e112_23, e112_24 (by simp), c_stepsCost]
  simp only [mAft, Option.toList_some, List.cons_append, List.nil_append]
  rw [e112_27, e112_28, e112_30, e112_31, e112_32]
  rfl
/-- what the search reads: ways, its field, prices, opens, clearances -/
def wH (ad : Nat → Nat) (w F P op cl : Nat) (fw fF : List Value) (cu mg : Int32) (fo fc : Nat → Int32) (h : List mCel) : Prop :=
  (mCell h w = some (.inr (8, fw)) ∧ fw[0]? = some (.ref F) ∧ fw[1]? = some (.ref P) ∧ fw[2]? = some (.ref (ad 4))) ∧
  (mCell h F = some (.inr (1, fF)) ∧ fF[3]? = some (.ref cl) ∧ fF[4]? = some (.ref op)) ∧
  mCell h P = some (.inr (4, [.ref F, .int cu, .int mg])) ∧ mCell h op = some (.inl (1, 2048, .inl fo)) ∧ mCell h cl = some (.inl (0, 256, .inl fc)) ∧
  (¬ qAd ad w ∧ ¬ qAd ad F ∧ ¬ qAd ad P ∧ ¬ qAd ad op ∧ ¬ qAd ad cl)
theorem w_keep {w F P op cl : Nat} {fw fF : List Value} {cu mg : Int32} {fo fc : Nat → Int32} {h' : List mCel} (W : wH ad w F P op cl fw fF cu mg fo fc h) (K : mKeep (qAd ad) h h') : wH ad w F P op cl fw fF cu mg fo fc h' := by
  obtain ⟨⟨a1, a2⟩, ⟨b1, b2⟩, c, d, e, n1, n2, n3, n4, n5⟩ := W
  exact ⟨⟨(K.2.2 _ n1).trans a1, a2⟩, ⟨(K.2.2 _ n2).trans b1, b2⟩, (K.2.2 _ n3).trans c, (K.2.2 _ n4).trans d, (K.2.2 _ n5).trans e, n1, n2, n3, n4, n5⟩
/-- the queue between two lowers: of what was taken all costs at most what was taken last -/
def SI (N : Nat → Nat → Nat) (tk : Nat → Bool) (c : Nat) : Prop := qOk N ∧ N 4 1 = c ∧ c + 149 < 536870912 ∧ (∀ t, tk t = true → N 0 t ≤ c) ∧ ∃ J rk cl, QI N J rk cl ∧ JD N J tk
theorem si_lower {tk : Nat → Bool} {c s w : Nat} (S : SI N tk c) (hs : s < 4096) (hw : w ≤ 149) : SI (nLower N s (c + w)) tk c := by
  obtain ⟨o, hl, hf, ht, J, rk, cl, I, D⟩ := S
  obtain ⟨J', rk', cl', a1, a2, a3, a4⟩ := nLower_ok (c := c + w) I D hs (by omega) (by omega) (fun z => by have := ht _ z; omega)
  refine ⟨ok_lower hs (by omega) o, by rw [a4, hl], hf, ?_, J', rk', cl', a1, a2⟩
  intro t z
  have := ht t z
  rw [a3]; split
  · rename_i y; have := ht _ z; rw [y.1] at this; omega
  · exact this
theorem c_lowS {tk : Nat → Bool} {c s w : Nat} (Q : qH ad N h) (S : SI N tk c) (hs : s < 4096) (hw : w ≤ 149) :
    ∃ h', mW (mRo L xs) mTab 121 0 [some (.ref (ad 4)), some (.int (Int32.ofNat s)), some (.int (Int32.ofNat (c + w)))] [] h k = some (.inl none, h', k) ∧ mKeep (qAd ad) h h' ∧ qH ad (nLower N s (c + w)) h' ∧ SI (nLower N s (c + w)) tk c := by
  have S' := si_lower S hs hw
  obtain ⟨o, hl, hf, ht, J, rk, cl, I, D⟩ := S
  obtain ⟨h', A1, A2, A3⟩ := c_lower (L := L) (xs := xs) (k := k) Q hs o (c := c + w) (by omega) (fun z y => by
    have ts : tk s = false := by
      cases q : tk s
      · rfl
      · have := ht s q; omega
    exact qi_pos I ((D s).2 ⟨hs, y, ts⟩))
  exact ⟨h', A1, A2, A3, S'⟩
theorem si_cost {tk : Nat → Bool} {c s : Nat} (l : List (Nat × Nat)) : ∀ (N : Nat → Nat → Nat), SI N tk c → (∀ e, e ∈ l → e.1 < 4096 ∧ e.2 ≤ 149) → SI (nLows c l N) tk c := by
  induction l with
  | nil => intro N S _; exact S
  | cons e l ih =>
    intro N S hl
    have := hl e (List.mem_cons_self ..)
    exact ih _ (si_lower S this.1 this.2) (fun e' z => hl e' (List.mem_cons_of_mem _ z))
theorem lows_app (c : Nat) (l m : List (Nat × Nat)) : ∀ (N : Nat → Nat → Nat), nLows c (l ++ m) N = nLows c m (nLows c l N) := by
  induction l with
  | nil => intro N; rfl
  | cons e l ih => intro N; exact ih _
end
