section
variable {L : Nat} {xs : Nat → Int32} {k : Nat} {ad : Nat → Nat} {fs0 : List Value} {M : Nat → Nat → Nat} {h : List mCel} {ca cl cu : Nat} {fcan fc : Nat → Int32} {mg : Int32}
/-- what the reference's search reads -/
def vH (ad : Nat → Nat) (fs0 : List Value) (ca cl cu : Nat) (mg : Int32) (fcan fc : Nat → Int32) (h : List mCel) : Prop :=
  (fs0[10]? = some (.int (Int32.ofNat cu)) ∧ fs0[11]? = some (.int mg) ∧ fs0[17]? = some (.ref cl) ∧ fs0[18]? = some (.ref ca)) ∧
  mCell h ca = some (.inl (1, 12288, .inl fcan)) ∧ mCell h cl = some (.inl (0, 256, .inl fc)) ∧ ¬ rAd ad ca ∧ ¬ rAd ad cl
theorem v_keep {h' : List mCel} (V : vH ad fs0 ca cl cu mg fcan fc h) (K : mKeep (rAd ad) h h') : vH ad fs0 ca cl cu mg fcan fc h' :=
  ⟨V.1, (K.2.2 _ V.2.2.2.1).trans V.2.1, (K.2.2 _ V.2.2.2.2).trans V.2.2.1, V.2.2.2⟩
def dOf (fc : Nat → Int32) (mg p m : Int32) (q : Nat) : Int32 := qSteps (p / 256) m + (if fc (q % 256) < mg then 5 * (mg - fc (q % 256)) else 0)
def geoN (en : Nat → Nat → Nat) : Prop := ∀ p m, p < 2048 → m < 6 → qEnd (Int32.ofNat p) (Int32.ofNat m) = qDec 1 (en p m) ∧ en p m ≤ 2048
def geoC (fcan : Nat → Int32) (can : Nat → Nat → Nat) : Prop := ∀ p m, p < 2048 → m < 6 → fcan (6 * p + m) = Int32.ofNat (can p m) ∧ can p m ≤ 1
def geoV (fc : Nat → Int32) (mg : Int32) (en : Nat → Nat → Nat) (wt : Nat → Nat → Nat → Nat) : Prop := ∀ p m, p < 2048 → m < 6 → 0 < en p m → dOf fc mg (Int32.ofNat p) (Int32.ofNat m) (en p m - 1) = Int32.ofNat (wt p m (en p m - 1)) ∧ wt p m (en p m - 1) ≤ 49
/-- a move's opposite leads back -/
def geoB (en : Nat → Nat → Nat) : Prop := ∀ q m, q < 2048 → m < 6 → 0 < en q ((m + 3) % 6) → en (en q ((m + 3) % 6) - 1) m = q + 1
def rEntry (en can : Nat → Nat → Nat) (wt : Nat → Nat → Nat → Nat) (cu q g m : Nat) : List (Nat × Nat) :=
  if en q ((m + 3) % 6) = 0 then [] else if can (en q ((m + 3) % 6) - 1) m = 0 then [] else
    [(en q ((m + 3) % 6) - 1, wt (en q ((m + 3) % 6) - 1) m q + (if g = 0 then 0 else cu)), (2048 + (en q ((m + 3) % 6) - 1), wt (en q ((m + 3) % 6) - 1) m q + (if g = 1 then 0 else cu))]
theorem rl_same {s t c w : Nat} (I : RI M) (ht : t < 4096) (hc : M 0 s = c) : rLower M t (c + w) 0 s = c := by
  rw [(ri_lower I ht).2.1, if_neg]
  · exact hc
  · rintro ⟨z1, z2⟩; rw [← z1] at z2; omega
def rAdj (en can : Nat → Nat → Nat) (wt : Nat → Nat → Nat → Nat) (cu rv s : Nat) : List (Nat × Nat) :=
  if s / 2048 ≤ rv then (List.range' (3 * (s / 2048)) 3).flatMap (rEntry en can wt cu (s % 2048) (s / 2048)) else []
end
