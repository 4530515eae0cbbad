
def bestV (s : wS) : Int32 := if s.2.1 = 0 then -1 else Int32.ofNat s.1
def wFs (fs0 : List Value) (s : wS) : List Value := (((fs0.set 24 (.int (Int32.ofNat (s.2.1 - 1)))).set 25 (.int (Int32.ofNat s.2.2.1))).set 26 (.int (Int32.ofNat s.2.2.2.1))).set 27 (.int (Int32.ofNat s.2.2.2.2))
def wMH (m : Nat) (fs0 : List Value) (s : wS) (h : List mCel) : Prop := mCell h m = some (.inr (11, wFs fs0 s)) ∧ fs0.length = 46
theorem wfs_len {fs0 : List Value} {s : wS} : (wFs fs0 s).length = fs0.length := by unfold wFs; rw [List.length_set, List.length_set, List.length_set, List.length_set]
theorem wfs_set {fs0 : List Value} {s : wS} {v1 v2 v3 v4 : Value} : ((((wFs fs0 s).set 24 v1).set 25 v2).set 26 v3).set 27 v4 = (((fs0.set 24 v1).set 25 v2).set 26 v3).set 27 v4 := by
  unfold wFs
  rw [List.set_comm (i := 27) (j := 24) _ _ (by decide), List.set_comm (i := 26) (j := 24) _ _ (by decide), List.set_comm (i := 25) (j := 24) _ _ (by decide), List.set_set]
  rw [List.set_comm (i := 27) (j := 25) _ _ (by decide), List.set_comm (i := 26) (j := 25) _ _ (by decide), List.set_set]
  rw [List.set_comm (i := 27) (j := 26) _ _ (by decide), List.set_set, List.set_set]
section
variable {L : Nat} {xs : Nat → Int32} {k : Nat}
/-- the numbers fit: a state's heading, a cost -/
theorem best_off {s : wS} (hs : wGood s) {C : Nat} (hC : C < 536870912) : (bestV s = -1 ∨ Int32.ofNat C < bestV s) = (C < s.1) := by
  unfold bestV
  by_cases z : s.2.1 = 0
  · rw [if_pos z, hs.1 z]; simp [hC]
  · rw [if_neg z]
    have h1 := hs.2.1
    have ne : ¬ Int32.ofNat s.1 = -1 := by
      intro y; have := oi_nneg (i := s.1) (by omega); rw [y] at this; exact this (by decide)
    rw [oi_lt (by omega) (by omega)]
    simp [ne]

end
