
def bestV (s : wS) : Int32 := if s.2.1 = 0 then -1 else Int32.ofNat s.1
def wFs (fs0 : List Value) (s : wS) : List Value := (((fs0.set 24 (.int (Int32.ofNat (s.2.1 - 1)))).set 25 (.int (Int32.ofNat s.2.2.1))).set 26 (.int (Int32.ofNat s.2.2.2.1))).set 27 (.int (Int32.ofNat s.2.2.2.2))
def wMH (m : Nat) (fs0 : List Value) (s : wS) (h : List mCel) : Prop := mCell h m = some (.inr (11, wFs fs0 s)) ∧ fs0.length = 46
theorem wfs_len {fs0 : List Value} {s : wS} : (wFs fs0 s).length = fs0.length := by unfold wFs; rw [List.length_set, List.length_set, List.length_set, List.length_set]
theorem wfs_set {fs0 : List Value} {s : wS} {v1 v2 v3 v4 : Value} : ((((wFs fs0 s).set 24 v1).set 25 v2).set 26 v3).set 27 v4 = (((fs0.set 24 v1).set 25 v2).set 26 v3).set 27 v4 := by
  unfold wFs
  rw [List.set_comm (i := 27) (j := 24) _ _ (by decide), List.set_comm (i := 26) (j := 24) _ _ (by decide), List.set_comm (i := 25) (j := 24) _ _ (by decide), List.set_set]
  rw [List.set_comm (i := 27) (j := 25) _ _ (by decide), List.set_comm (i := 26) (j := 25) _ _ (by decide), List.set_set]
  rw [List.set_comm (i := 27) (j := 26) _ _ (by decide), List.set_set, List.set_set]
section
variable {L : Nat} {xs : Nat → Int32} {k : Nat}
/-- the numbers fit: a state's heading, a cost -/
theorem best_off {s : wS} (hs : wGood s) {C : Nat} (hC : C < 536870912) : (bestV s = -1 ∨ Int32.ofNat C < bestV s) = (C < s.1) := by
  unfold bestV
  by_cases z : s.2.1 = 0
  · rw [if_pos z, hs.1 z]; simp [hC]
  · rw [if_neg z]
    have h1 := hs.2.1
    have ne : ¬ Int32.ofNat s.1 = -1 := by
      intro y; have := oi_nneg (i := s.1) (by omega); rw [y] at this; exact this (by decide)
    rw [oi_lt (by omega) (by omega)]
    simp [ne]

theorem wc_test {m p q w a b c xa0 : Nat} {X Y xa ya nX nY lX lY : Int32} {ha Ca nH nC lH lC : Nat} {s : wS} {fs0 : List Value} {h : List mCel} {l22 l23 : Option Value} (hs : wGood s) (hc : c < 8) (hq : q < 2048) (hlH : lH < 8) (hlC : lC < 536870912) (H : wMH m fs0 s h) :
    ∃ h' i, mW (mRo L xs) mTab 92 124 [some (.ref m), some (.int (Int32.ofNat (p))), some (.int (Int32.ofNat (q))), some (.int (bestV s)), some (.int (X)), some (.int (Y)), some (.int (Int32.ofNat (w))), some (.int (xa)), some (.int (ya)), some (.int (Int32.ofNat (ha))), some (.int (Int32.ofNat (Ca))), some (.int (Int32.ofNat (a))), some (.int (nX)), some (.int (nY)), some (.int (Int32.ofNat (nH))), some (.int (Int32.ofNat (nC))), some (.int (Int32.ofNat (b))), some (.int (lX)), some (.int (lY)), some (.int (Int32.ofNat (lH))), some (.int (Int32.ofNat (lC))), some (.int (Int32.ofNat (c))), l22, l23] [] h k = mW (mRo L xs) mTab 92 205 [some (.ref m), some (.int (Int32.ofNat (p))), some (.int (Int32.ofNat (q))), some (.int (bestV (if lX = X ∧ lY = Y ∧ lH = q / 256 then wOff s w a b c lC else s))), some (.int (X)), some (.int (Y)), some (.int (Int32.ofNat (w))), some (.int (xa)), some (.int (ya)), some (.int (Int32.ofNat (ha))), some (.int (Int32.ofNat (Ca))), some (.int (Int32.ofNat (a))), some (.int (nX)), some (.int (nY)), some (.int (Int32.ofNat (nH))), some (.int (Int32.ofNat (nC))), some (.int (Int32.ofNat (b))), some (.int (lX)), some (.int (lY)), some (.int (Int32.ofNat (lH))), some (.int (Int32.ofNat (lC))), some (.int (Int32.ofNat (c))), i, l23] [] h' k ∧ mKeep (fun x => x = m) h h' ∧ wMH m fs0 (if lX = X ∧ lY = Y ∧ lH = q / 256 then wOff s w a b c lC else s) h' := by
  have n8 : ¬ ((8 : Int32) ≤ Int32.ofNat c) := by
    rw [show (8 : Int32) = Int32.ofNat 8 from rfl, oi_le (by decide) (by omega)]; omega
  have hd : Int32.ofNat q / 256 = Int32.ofNat (q / 256) := oi_div (by omega) (by decide)
  have heq : (Int32.ofNat lH = Int32.ofNat (q / 256)) = (lH = q / 256) := by
    apply propext; constructor
    · intro y
      have := congrArg Int32.toNatClampNeg y
      rwa [oi_nat (by omega), oi_nat (by omega)] at this
    · rintro rfl; rfl
  have hle : Int32.ofNat lC < bestV s ↔ ¬ (bestV s ≤ Int32.ofNat lC) := by rw [Int32.not_le]
  have bo := best_off hs hlC
  have no : ∀ S : wS, (S = s) → mW (mRo L xs) mTab 92 170 [some (.ref m), some (.int (Int32.ofNat (p))), some (.int (Int32.ofNat (q))), some (.int (bestV s)), some (.int (X)), some (.int (Y)), some (.int (Int32.ofNat (w))), some (.int (xa)), some (.int (ya)), some (.int (Int32.ofNat (ha))), some (.int (Int32.ofNat (Ca))), some (.int (Int32.ofNat (a))), some (.int (nX)), some (.int (nY)), some (.int (Int32.ofNat (nH))), some (.int (Int32.ofNat (nC))), some (.int (Int32.ofNat (b))), some (.int (lX)), some (.int (lY)), some (.int (Int32.ofNat (lH))), some (.int (Int32.ofNat (lC))), some (.int (Int32.ofNat (c))), l22, l23] [] h k = mW (mRo L xs) mTab 92 205 [some (.ref m), some (.int (Int32.ofNat (p))), some (.int (Int32.ofNat (q))), some (.int (bestV s)), some (.int (X)), some (.int (Y)), some (.int (Int32.ofNat (w))), some (.int (xa)), some (.int (ya)), some (.int (Int32.ofNat (ha))), some (.int (Int32.ofNat (Ca))), some (.int (Int32.ofNat (a))), some (.int (nX)), some (.int (nY)), some (.int (Int32.ofNat (nH))), some (.int (Int32.ofNat (nC))), some (.int (Int32.ofNat (b))), some (.int (lX)), some (.int (lY)), some (.int (Int32.ofNat (lH))), some (.int (Int32.ofNat (lC))), some (.int (Int32.ofNat (c))), some (.int 0), l23] [] h k := by
    intro S _
    rw [e92_170, e92_171, e92_173, e92_175, if_pos rfl]
  have B : ∀ S : wS, S = s → ∃ h' i, mW (mRo L xs) mTab 92 170 [some (.ref m), some (.int (Int32.ofNat (p))), some (.int (Int32.ofNat (q))), some (.int (bestV s)), some (.int (X)), some (.int (Y)), some (.int (Int32.ofNat (w))), some (.int (xa)), some (.int (ya)), some (.int (Int32.ofNat (ha))), some (.int (Int32.ofNat (Ca))), some (.int (Int32.ofNat (a))), some (.int (nX)), some (.int (nY)), some (.int (Int32.ofNat (nH))), some (.int (Int32.ofNat (nC))), some (.int (Int32.ofNat (b))), some (.int (lX)), some (.int (lY)), some (.int (Int32.ofNat (lH))), some (.int (Int32.ofNat (lC))), some (.int (Int32.ofNat (c))), l22, l23] [] h k = mW (mRo L xs) mTab 92 205 [some (.ref m), some (.int (Int32.ofNat (p))), some (.int (Int32.ofNat (q))), some (.int (bestV S)), some (.int (X)), some (.int (Y)), some (.int (Int32.ofNat (w))), some (.int (xa)), some (.int (ya)), some (.int (Int32.ofNat (ha))), some (.int (Int32.ofNat (Ca))), some (.int (Int32.ofNat (a))), some (.int (nX)), some (.int (nY)), some (.int (Int32.ofNat (nH))), some (.int (Int32.ofNat (nC))), some (.int (Int32.ofNat (b))), some (.int (lX)), some (.int (lY)), some (.int (Int32.ofNat (lH))), some (.int (Int32.ofNat (lC))), some (.int (Int32.ofNat (c))), i, l23] [] h' k ∧ mKeep (fun x => x = m) h h' ∧ wMH m fs0 S h' := by
    intro S hS
    subst hS
    exact ⟨h, _, no _ rfl, keep_refl, H⟩
  rw [e92_124, e92_126, e92_128, if_neg n8, e92_131, e92_133, e92_135]
  by_cases c1 : lX = X
  · rw [if_neg (not_not_intro c1), e92_138, e92_140, e92_142]
    by_cases c2 : lY = Y
    · rw [if_neg (not_not_intro c2), e92_145, e92_147, e92_148, e92_151 (by decide), hd, e92_152]
      simp only [heq]
      by_cases c3 : lH = q / 256
      · rw [if_neg (not_not_intro c3), if_pos ⟨c1, c2, c3⟩, e92_155, e92_156, e92_157]
        by_cases c4 : lC < s.1
        · have g : mW (mRo L xs) mTab 92 166 [some (.ref m), some (.int (Int32.ofNat (p))), some (.int (Int32.ofNat (q))), some (.int (bestV s)), some (.int (X)), some (.int (Y)), some (.int (Int32.ofNat (w))), some (.int (xa)), some (.int (ya)), some (.int (Int32.ofNat (ha))), some (.int (Int32.ofNat (Ca))), some (.int (Int32.ofNat (a))), some (.int (nX)), some (.int (nY)), some (.int (Int32.ofNat (nH))), some (.int (Int32.ofNat (nC))), some (.int (Int32.ofNat (b))), some (.int (lX)), some (.int (lY)), some (.int (Int32.ofNat (lH))), some (.int (Int32.ofNat (lC))), some (.int (Int32.ofNat (c))), l22, l23] [] h k = mW (mRo L xs) mTab 92 178 [some (.ref m), some (.int (Int32.ofNat (p))), some (.int (Int32.ofNat (q))), some (.int (bestV s)), some (.int (X)), some (.int (Y)), some (.int (Int32.ofNat (w))), some (.int (xa)), some (.int (ya)), some (.int (Int32.ofNat (ha))), some (.int (Int32.ofNat (Ca))), some (.int (Int32.ofNat (a))), some (.int (nX)), some (.int (nY)), some (.int (Int32.ofNat (nH))), some (.int (Int32.ofNat (nC))), some (.int (Int32.ofNat (b))), some (.int (lX)), some (.int (lY)), some (.int (Int32.ofNat (lH))), some (.int (Int32.ofNat (lC))), some (.int (Int32.ofNat (c))), some (.int 1), l23] [] h k := by
            rw [e92_166, e92_167, e92_171, e92_173, e92_175, if_neg (by decide)]
          have e0 : (if bestV s = -1 then mW (mRo L xs) mTab 92 166 [some (.ref m), some (.int (Int32.ofNat (p))), some (.int (Int32.ofNat (q))), some (.int (bestV s)), some (.int (X)), some (.int (Y)), some (.int (Int32.ofNat (w))), some (.int (xa)), some (.int (ya)), some (.int (Int32.ofNat (ha))), some (.int (Int32.ofNat (Ca))), some (.int (Int32.ofNat (a))), some (.int (nX)), some (.int (nY)), some (.int (Int32.ofNat (nH))), some (.int (Int32.ofNat (nC))), some (.int (Int32.ofNat (b))), some (.int (lX)), some (.int (lY)), some (.int (Int32.ofNat (lH))), some (.int (Int32.ofNat (lC))), some (.int (Int32.ofNat (c))), l22, l23] [] h k else mW (mRo L xs) mTab 92 160 [some (.ref m), some (.int (Int32.ofNat (p))), some (.int (Int32.ofNat (q))), some (.int (bestV s)), some (.int (X)), some (.int (Y)), some (.int (Int32.ofNat (w))), some (.int (xa)), some (.int (ya)), some (.int (Int32.ofNat (ha))), some (.int (Int32.ofNat (Ca))), some (.int (Int32.ofNat (a))), some (.int (nX)), some (.int (nY)), some (.int (Int32.ofNat (nH))), some (.int (Int32.ofNat (nC))), some (.int (Int32.ofNat (b))), some (.int (lX)), some (.int (lY)), some (.int (Int32.ofNat (lH))), some (.int (Int32.ofNat (lC))), some (.int (Int32.ofNat (c))), l22, l23] [] h k) = mW (mRo L xs) mTab 92 166 [some (.ref m), some (.int (Int32.ofNat (p))), some (.int (Int32.ofNat (q))), some (.int (bestV s)), some (.int (X)), some (.int (Y)), some (.int (Int32.ofNat (w))), some (.int (xa)), some (.int (ya)), some (.int (Int32.ofNat (ha))), some (.int (Int32.ofNat (Ca))), some (.int (Int32.ofNat (a))), some (.int (nX)), some (.int (nY)), some (.int (Int32.ofNat (nH))), some (.int (Int32.ofNat (nC))), some (.int (Int32.ofNat (b))), some (.int (lX)), some (.int (lY)), some (.int (Int32.ofNat (lH))), some (.int (Int32.ofNat (lC))), some (.int (Int32.ofNat (c))), l22, l23] [] h k := by
            by_cases z : bestV s = -1
            · rw [if_pos z]
            · rw [if_neg z, e92_160, e92_162, e92_163]
              have : bestV s = -1 ∨ Int32.ofNat lC < bestV s := by rw [bo]; exact c4
              rw [if_neg (hle.1 (this.resolve_left z))]
          rw [e0, g]
          have hl : ∀ f : List Value, f.length = 46 → ∀ i, i < 46 → i < f.length := fun f hf i hi => by rw [hf]; exact hi
          have W0 : (wFs fs0 s).length = 46 := wfs_len.trans H.2
          rw [e92_178, e92_180, e92_181, e92_182, e92_184, kP_eq H.1 (hl _ W0 _ (by decide)), e92_187, e92_188, e92_190, kP_eq (cell_set H.1) (hl _ (by rw [List.length_set, W0]) _ (by decide)), List.set_set]
          rw [e92_193, e92_194, e92_196, kP_eq (cell_set H.1) (hl _ (by rw [List.length_set, List.length_set, W0]) _ (by decide)), List.set_set]
          rw [e92_199, e92_200, e92_202, kP_eq (cell_set H.1) (hl _ (by rw [List.length_set, List.length_set, List.length_set, W0]) _ (by decide)), List.set_set, wfs_set]
          have hb : bestV (wOff s w a b c lC) = Int32.ofNat lC := by unfold bestV wOff; rw [if_pos c4, if_neg (show ¬ w + 1 = 0 by omega)]
          refine ⟨_, some (.int 1), by rw [hb], keep_set H.1 ?_ rfl, ?_, H.2⟩
          · show (List.set _ _ _).length = (wFs fs0 s).length
            rw [List.length_set, List.length_set, List.length_set, List.length_set, wfs_len]
          · rw [cell_set H.1]; unfold wOff wFs; rw [if_pos c4]; rfl
        · have h1 : ¬ (bestV s = -1 ∨ Int32.ofNat lC < bestV s) := by rw [bo]; exact c4
          rw [if_neg (fun z => h1 (Or.inl z)), e92_160, e92_162, e92_163, if_pos (Classical.byContradiction fun z => h1 (Or.inr (hle.2 z)))]
          have e1 : wOff s w a b c lC = s := by unfold wOff; rw [if_neg c4]
          rw [e1]
          exact B s rfl
      · rw [if_pos c3, if_neg (fun z => c3 z.2.2)]
        exact B s rfl
    · rw [if_pos c2, if_neg (fun z => c2 z.2.1)]
      exact B s rfl
  · rw [if_pos c1, if_neg (fun z => c1 z.1)]
    exact B s rfl
end
