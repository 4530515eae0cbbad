section
variable {L : Nat} {xs : Nat → Int32} {k : Nat} {h : List mCel} {fX fY fc fo fcl fcan : Nat → Int32}
theorem c_isOutside {v lo hi : Int32} : mW (mRo L xs) mTab 49 0 [some (.int v), some (.int lo), some (.int hi)] [] h k = some (.inl (some (.int (pB (v < lo ∨ hi < v)))), h, k) := by
  rw [e49_0, e49_1, e49_2]
  by_cases a : v < lo
  · rw [if_pos a, e49_10, e49_11, e49_15 (Or.inr rfl), pB_pos (Or.inl a)]
  · rw [if_neg a, e49_5, e49_6, e49_7]
    by_cases b : v ≤ hi
    · rw [if_pos b, e49_14, e49_15 (Or.inl rfl), pB_neg (fun z => z.elim a (Int32.not_lt.2 b))]
    · rw [if_neg b, e49_10, e49_11, e49_15 (Or.inr rfl), pB_pos (Or.inr (Int32.not_le.1 b))]
theorem c_reqPose {x y g : Int32} : mW (mRo L xs) mTab 60 0 [some (.int x), some (.int y), some (.int g), none] [] h k = if pNum x y g = -1 then some (.inr 2, h, k + 1) else some (.inl (some (.int (pNum x y g))), h, k) := by
  rw [e60_0, e60_1, e60_2, e60_3 (by simp), c_numberOf]
  simp only [mAft, Option.toList_some, List.cons_append, List.nil_append]
  rw [e60_6, e60_7, e60_8, e60_9]
  by_cases z : pNum x y g = -1
  · rw [if_neg (not_not_intro z), if_pos z, e60_12 (by simp)]
  · rw [if_pos z, if_neg z, e60_23, e60_24]
theorem kLA_out {fl : Nat → Int64} {v : Int64} {q : Int64 → Option mOut} (hc : mCell h 62 = some (.inl (3, 1, .inr (.inl (vp_updL fl 0 v))))) : kLA h 62 0 q = q v := by
  unfold kLA; rw [hc]; rfl
/-- the law's one round, done: its end is reached, and the heap is no bigger than a fresh one and some rows -/
def lawEnd (xs : Nat → Int32) (pc : Nat) (h : List mCel) : Prop := ∃ h2 x1 l6 l7, mW (mRo 8 xs) mTab 240 pc [some (.ref 0), some (.ref 8), some (.ref 42), some (.ref 62), some (.ref 63), some (.int 0), none, none] [] h 0 =
  mW (mRo 8 xs) mTab 240 1980 [some (.ref 0), some (.ref 8), some (.ref 42), some (.ref 62), some (.ref 63), some (.int 0), l6, l7] [] h2 x1 ∧ h2.length ≤ 100 ∧ hz h2 ≤ 200000 ∧ x1 ≤ 1
theorem hz_hL : hz (hL fX fY fc fo fcl fcan) ≤ 150000 := by
  unfold hL hz
  simp [hz1, zI, mFS, mZero, mTy]
theorem end_of {pc x1 : Nat} {h2 : List mCel} {l6 l7 : Option Value} (E : mW (mRo 8 xs) mTab 240 pc [some (.ref 0), some (.ref 8), some (.ref 42), some (.ref 62), some (.ref 63), some (.int 0), none, none] [] (hL fX fY fc fo fcl fcan) 0 =
    mW (mRo 8 xs) mTab 240 1980 [some (.ref 0), some (.ref 8), some (.ref 42), some (.ref 62), some (.ref 63), some (.int 0), l6, l7] [] h2 x1) (hl : h2.length = (hL fX fY fc fo fcl fcan).length) (hh : hz h2 = hz (hL fX fY fc fo fcl fcan)) (hx : x1 ≤ 1) : lawEnd xs pc (hL fX fY fc fo fcl fcan) := by
  have := hz_hL (fX := fX) (fY := fY) (fc := fc) (fo := fo) (fcl := fcl) (fcan := fcan)
  exact ⟨h2, x1, l6, l7, E, by rw [hl]; simp [hL], by omega, hx⟩
theorem k_goes {P1 P2 P3 : Prop} [Decidable P1] [Decidable P2] [Decidable P3] {fs : List Value} (hc : mCell h 42 = some (.inr (11, fs))) (hl : fs.length = 46) : mKeep Pm h (h.set (42 - 8) (.inr (11, fs.set 45 (.int (qT P1 P2 P3))))) :=
  keep_set hc (by show (fs.set 45 _).length = fs.length; rw [List.length_set]) ⟨by decide, by decide⟩
theorem gT {P1 P2 P3 : Prop} [Decidable P1] [Decidable P2] [Decidable P3] {fs : List Value} (hl : fs.length = 46) : (fs.set 45 (.int (qT P1 P2 P3)))[45]? = some (.int (qT P1 P2 P3)) := List.getElem?_set_self (by omega)
theorem e58_23n {ro : Nat → Nat × (Nat → Int32)} {l0 l1 l2 : Option Value} {st : List Value} {h : List mCel} {x : Nat} : mW ro mTab 58 23 [l0, l1, l2] (.null :: st) h x = mW ro mTab 58 24 [l0, l1, (some .null)] st h x := (g_step rfl rfl rfl rfl).trans rfl
theorem e58_24n {ro : Nat → Nat × (Nat → Int32)} {l0 l1 : Option Value} {st : List Value} {h : List mCel} {x : Nat} : mW ro mTab 58 24 [l0, l1, (some .null)] st h x = mW ro mTab 58 25 [l0, l1, (some .null)] (.null :: st) h x := (g_step rfl rfl rfl rfl).trans rfl
theorem kAA_null {p : Int32} {f : Value → Option mOut} (hp : 0 ≤ p.toInt ∧ p.toInt < (12 : Nat)) : kAA (hL fX fY fc fo fcl fcan) 35 p f = f .null := by
  unfold kAA; rw [x35]; exact if_pos ⟨Or.inr rfl, hp⟩
/-- a plan's number: there is none -/
theorem c_reqPlan {p : Int32} : mW (mRo L xs) mTab 58 0 [some (.ref 8), some (.int p), none] [] (hL fX fY fc fo fcl fcan) 0 = some (.inr 2, hL fX fY fc fo fcl fcan, 1) := by
  have key : ∀ l2 : Option Value, mW (mRo L xs) mTab 58 23 [some (.ref 8), some (.int p), l2] [.null] (hL fX fY fc fo fcl fcan) 0 = some (.inr 2, hL fX fY fc fo fcl fcan, 1) := by
    intro l2
    rw [e58_23n, e58_24n, e58_25, e58_28 (by simp)]
  have A : ∀ {f : Int32 → Option mOut}, kAL (mRo L xs) (hL fX fY fc fo fcl fcan) 35 f = f 12 := by
    intro f; unfold kAL; rw [if_neg (by decide), x35]; rfl
  rw [e58_0, e58_1]
  by_cases a : p < 0
  · rw [if_pos a, e58_22]; exact key none
  · rw [if_neg a, e58_4, e58_5, e58_6, kF_eq x8 (v := .ref 35) rfl, e58_9, A, e58_10]
    by_cases b : (12 : Int32) ≤ p
    · rw [if_pos b, e58_22]; exact key none
    · have hp : 0 ≤ p.toInt ∧ p.toInt < (12 : Nat) := by
        have h1 := Int32.le_iff_toInt_le.1 (Int32.not_lt.1 a)
        have h2 := Int32.lt_iff_toInt_lt.1 (Int32.not_le.1 b)
        rw [show (0 : Int32).toInt = 0 from rfl] at h1
        rw [show (12 : Int32).toInt = 12 from rfl] at h2
        exact ⟨h1, h2⟩
      rw [if_neg b, e58_13, e58_14, kF_eq x8 (v := .ref 35) rfl, e58_17, e58_18, kAA_null hp, e58_19]
      exact key none
end
