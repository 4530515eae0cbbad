section
variable {L : Nat} {xs : Nat → Int32} {k : Nat}
theorem kN_lt (w part : Nat) : kN w part < 3 := by
  unfold kN
  repeat' split
  all_goals omega
theorem good_bF {q : Nat} {X Y : Int32} {w a : Nat} {x y : Int32} {h C : Nat} (hw : w < 6) : ∀ (d i : Nat) (s : wS), wGood s → wGood (bF q X Y w a x y h C d i s)
  | 0, _, s, hs => hs
  | d + 1, i, s, hs => good_bF hw d (i + 1) _ (good_cF hw 8 0 s hs)
theorem good_aF {q : Nat} {X Y : Int32} {w g : Nat} (hw : w < 6) : ∀ (d i : Nat) (s : wS), wGood s → wGood (aF q X Y w g d i s)
  | 0, _, s, hs => hs
  | d + 1, i, s, hs => good_aF hw d (i + 1) _ (good_bF hw _ 0 s hs)
end
