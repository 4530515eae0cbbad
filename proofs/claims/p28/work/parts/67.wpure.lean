def kN (w part : Nat) : Nat :=
  if part = 1 then (if w = 4 then 2 else if w = 5 then 1 else 0) else if part = 0 then (if w % 2 = 0 then 1 else 2) else (if w = 0 ∨ w = 3 ∨ w = 4 then 1 else 2)
section
variable {L : Nat} {xs : Nat → Int32} {k : Nat} {h : List mCel}
end
def hd1 (g k : Nat) : Nat := (g + (if k = 1 then 7 else if k = 2 then 1 else 0)) % 8
def sc1 (g k : Nat) : Nat := if k = 0 then (if g % 2 = 0 then 10 else 14) else 24
theorem ck_hb : allB 8 (fun g => allB 3 fun k => decide (qHb (Int32.ofNat g) (Int32.ofNat k) = Int32.ofNat (hd1 g k) ∧ qSteps (Int32.ofNat g) (Int32.ofNat k) = Int32.ofNat (sc1 g k))) = true := by decide +kernel
theorem hb_eq {g k : Nat} (hg : g < 8) (hk : k < 3) : qHb (Int32.ofNat g) (Int32.ofNat k) = Int32.ofNat (hd1 g k) ∧ qSteps (Int32.ofNat g) (Int32.ofNat k) = Int32.ofNat (sc1 g k) := of_decide_eq_true (allB_get (allB_get ck_hb g hg) k hk)
def hdN (g k : Nat) : Nat → Nat
  | 0 => g
  | n + 1 => hd1 (hdN g k n) k
def vC (g k : Nat) : Nat → Nat
  | 0 => 0
  | n + 1 => vC g k n + sc1 (hdN g k n) k
/-- how far n moves of a kind lead: with what one leads from a heading as a variable -/
def vS (f : Nat → Int32) (g k : Nat) : Nat → Int32
  | 0 => 0
  | n + 1 => vS f g k n + f (hdN g k n)
def vX (g k n : Nat) : Int32 := vS (fun i => qFx (Int32.ofNat i) (Int32.ofNat k)) g k n
def vY (g k n : Nat) : Int32 := vS (fun i => qFy (Int32.ofNat i) (Int32.ofNat k)) g k n
theorem hd1_lt (g k : Nat) : hd1 g k < 8 := Nat.mod_lt _ (by decide)
theorem hdN_lt {g k : Nat} (hg : g < 8) : ∀ n, hdN g k n < 8
  | 0 => hg
  | n + 1 => hd1_lt _ _
theorem sc1_le (g k : Nat) : sc1 g k ≤ 24 := by
  unfold sc1
  repeat' split
  all_goals omega
theorem vC_le (g k : Nat) : ∀ n, vC g k n ≤ 24 * n
  | 0 => Nat.le_refl _
  | n + 1 => by rw [vC]; have := vC_le g k n; have := sc1_le (hdN g k n) k; omega
abbrev wS : Type := Nat × Nat × Nat × Nat × Nat
/-- a word offered: cost, its number and 1, three counts -/
def wOff (s : wS) (w a b c cost : Nat) : wS := if cost < s.1 then (cost, w + 1, a, b, c) else s
def wGood (s : wS) : Prop := (s.2.1 = 0 → s.1 = 536870912) ∧ s.1 ≤ 536870912 ∧ s.2.1 ≤ 6
theorem good_off {s : wS} {w a b c cost : Nat} (hs : wGood s) (hw : w < 6) : wGood (wOff s w a b c cost) := by
  unfold wOff
  split
  · exact ⟨fun z => by simp at z, by show cost ≤ _; have := hs.2.1; omega, by show w + 1 ≤ 6; omega⟩
  · exact hs
def cF (g2 : Nat) (X Y : Int32) (w a b : Nat) (x y : Int32) (h C kk : Nat) : Nat → Nat → wS → wS
  | 0, _, s => s
  | d + 1, i, s => cF g2 X Y w a b x y h C kk d (i + 1) (if x + vX h kk i = X ∧ y + vY h kk i = Y ∧ hdN h kk i = g2 then wOff s w a b i (C + vC h kk i) else s)
theorem good_cF {g2 : Nat} {X Y : Int32} {w a b : Nat} {x y : Int32} {h C kk : Nat} (hw : w < 6) : ∀ (d i : Nat) (s : wS), wGood s → wGood (cF g2 X Y w a b x y h C kk d i s)
  | 0, _, s, hs => hs
  | d + 1, i, s, hs => by
    unfold cF
    refine good_cF hw d (i + 1) _ ?_
    split
    · exact good_off hs hw
    · exact hs
def bF (g2 : Nat) (X Y : Int32) (w a : Nat) (x y : Int32) (h C : Nat) : Nat → Nat → wS → wS
  | 0, _, s => s
  | d + 1, i, s => bF g2 X Y w a x y h C d (i + 1) (cF g2 X Y w a i (x + vX h (kN w 1) i) (y + vY h (kN w 1) i) (hdN h (kN w 1) i) (C + vC h (kN w 1) i) (kN w 2) 8 0 s)
def aF (g2 : Nat) (X Y : Int32) (w g : Nat) : Nat → Nat → wS → wS
  | 0, _, s => s
  | d + 1, i, s => aF g2 X Y w g d (i + 1) (bF g2 X Y w i (0 + vX g (kN w 0) i) (0 + vY g (kN w 0) i) (hdN g (kN w 0) i) (0 + vC g (kN w 0) i) (if w < 4 then 16 else 8) 0 s)
def wF (g2 : Nat) (X Y : Int32) (g : Nat) : Nat → Nat → wS → wS
  | 0, _, s => s
  | d + 1, i, s => wF g2 X Y g d (i + 1) (aF g2 X Y i g 8 0 s)
