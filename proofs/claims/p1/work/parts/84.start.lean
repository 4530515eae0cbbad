section
variable {xs : Nat → Int32} {fX fY fc fo fcl fcan : Nat → Int32}
def hL (fX fY fc fo fcl fcan : Nat → Int32) : List mCel := [.inr (10, [.ref 12, .ref 17, .ref 18, .ref 27, .ref 28, .ref 33, .ref 35, .int 0, .ref 36, .int 0, .ref 39]), .inr (0, [.ref 10, .ref 11]), .inl (0, 128, .inl fX), .inl (0, 128, .inl fY), .inr (1, [.ref 13, .int 0, .ref 14, .ref 15, .ref 16, .int 1, .int 1]), .inl (5, mZero (mTy 5) 8), zI 256, .inl (0, 256, .inl fc), .inl (1, 2048, .inl fo), .inr (4, [.ref 12, .int 20, .int 0]), .inr (8, [.ref 12, .ref 17, .ref 19, .ref 24]), .inr (5, [.ref 20, .ref 21, .ref 22, .ref 23, .int 0, .int 0]), zI 4096, zI 4096, zI 4096, zI 256, .inr (6, [.ref 25, .ref 26, .int 0]), zI 64, zI 64, .inr (9, [.ref 9, .int (-1), .int 0, .int 0, .int 0, .int 536870912]), .inr (7, [.ref 12, .ref 17, .ref 32, .ref 29]), .inr (6, [.ref 30, .ref 31, .int 0]), zI 64, zI 64, .inr (9, [.ref 9, .int (-1), .int 0, .int 0, .int 0, .int 536870912]), .inr (2, [.int 100, .int 25, .int 2, .int 3, .ref 34]), .inl (2, mZero (mTy 2) 64), .inl (6, mZero (mTy 6) 12), .inr (6, [.ref 37, .ref 38, .int 0]), zI 64, zI 64, .inr (3, [.ref 40, .ref 41, .int 0]), zI 6, zI 6, .inr (11, mFS 42), zI 6, zI 6, zI 8, .inl (1, 8, .inl fun _ => 0), zI 48, zI 48, .inl (1, 256, .inl fun _ => 0), .inl (0, 256, .inl fcl), .inl (1, 12288, .inl fcan), zI 4096, zI 4096, .inl (1, 4096, .inl fun _ => 0), zI 12, zI 12, zI 24576, zI 60, zI 4096, zI 2049, .inl (2, mZero (mTy 2) 2049), .inl (3, mZero (mTy 3) 1), .inl (4, mZero (mTy 4) 1)]
theorem x8 : mCell (hL fX fY fc fo fcl fcan) 8 = some (.inr (10, [.ref 12, .ref 17, .ref 18, .ref 27, .ref 28, .ref 33, .ref 35, .int 0, .ref 36, .int 0, .ref 39])) := rfl
theorem x9 : mCell (hL fX fY fc fo fcl fcan) 9 = some (.inr (0, [.ref 10, .ref 11])) := rfl
theorem x10 : mCell (hL fX fY fc fo fcl fcan) 10 = some (.inl (0, 128, .inl fX)) := rfl
theorem x11 : mCell (hL fX fY fc fo fcl fcan) 11 = some (.inl (0, 128, .inl fY)) := rfl
theorem x12 : mCell (hL fX fY fc fo fcl fcan) 12 = some (.inr (1, [.ref 13, .int 0, .ref 14, .ref 15, .ref 16, .int 1, .int 1])) := rfl
theorem x14 : mCell (hL fX fY fc fo fcl fcan) 14 = some (zI 256) := rfl
theorem x15 : mCell (hL fX fY fc fo fcl fcan) 15 = some (.inl (0, 256, .inl fc)) := rfl
theorem x16 : mCell (hL fX fY fc fo fcl fcan) 16 = some (.inl (1, 2048, .inl fo)) := rfl
theorem x17 : mCell (hL fX fY fc fo fcl fcan) 17 = some (.inr (4, [.ref 12, .int 20, .int 0])) := rfl
theorem x18 : mCell (hL fX fY fc fo fcl fcan) 18 = some (.inr (8, [.ref 12, .ref 17, .ref 19, .ref 24])) := rfl
theorem x19 : mCell (hL fX fY fc fo fcl fcan) 19 = some (.inr (5, [.ref 20, .ref 21, .ref 22, .ref 23, .int 0, .int 0])) := rfl
theorem x20 : mCell (hL fX fY fc fo fcl fcan) 20 = some (zI 4096) := rfl
theorem x21 : mCell (hL fX fY fc fo fcl fcan) 21 = some (zI 4096) := rfl
theorem x22 : mCell (hL fX fY fc fo fcl fcan) 22 = some (zI 4096) := rfl
theorem x23 : mCell (hL fX fY fc fo fcl fcan) 23 = some (zI 256) := rfl
theorem x24 : mCell (hL fX fY fc fo fcl fcan) 24 = some (.inr (6, [.ref 25, .ref 26, .int 0])) := rfl
theorem x25 : mCell (hL fX fY fc fo fcl fcan) 25 = some (zI 64) := rfl
theorem x26 : mCell (hL fX fY fc fo fcl fcan) 26 = some (zI 64) := rfl
theorem x27 : mCell (hL fX fY fc fo fcl fcan) 27 = some (.inr (9, [.ref 9, .int (-1), .int 0, .int 0, .int 0, .int 536870912])) := rfl
theorem x28 : mCell (hL fX fY fc fo fcl fcan) 28 = some (.inr (7, [.ref 12, .ref 17, .ref 32, .ref 29])) := rfl
theorem x33 : mCell (hL fX fY fc fo fcl fcan) 33 = some (.inr (2, [.int 100, .int 25, .int 2, .int 3, .ref 34])) := rfl
theorem x35 : mCell (hL fX fY fc fo fcl fcan) 35 = some (.inl (6, mZero (mTy 6) 12)) := rfl
theorem x36 : mCell (hL fX fY fc fo fcl fcan) 36 = some (.inr (6, [.ref 37, .ref 38, .int 0])) := rfl
theorem x37 : mCell (hL fX fY fc fo fcl fcan) 37 = some (zI 64) := rfl
theorem x38 : mCell (hL fX fY fc fo fcl fcan) 38 = some (zI 64) := rfl
theorem x39 : mCell (hL fX fY fc fo fcl fcan) 39 = some (.inr (3, [.ref 40, .ref 41, .int 0])) := rfl
theorem x40 : mCell (hL fX fY fc fo fcl fcan) 40 = some (zI 6) := rfl
theorem x41 : mCell (hL fX fY fc fo fcl fcan) 41 = some (zI 6) := rfl
theorem x42 : mCell (hL fX fY fc fo fcl fcan) 42 = some (.inr (11, mFS 42)) := rfl
theorem x43 : mCell (hL fX fY fc fo fcl fcan) 43 = some (zI 6) := rfl
theorem x44 : mCell (hL fX fY fc fo fcl fcan) 44 = some (zI 6) := rfl
theorem x45 : mCell (hL fX fY fc fo fcl fcan) 45 = some (zI 8) := rfl
theorem x46 : mCell (hL fX fY fc fo fcl fcan) 46 = some (.inl (1, 8, .inl fun _ => 0)) := rfl
theorem x47 : mCell (hL fX fY fc fo fcl fcan) 47 = some (zI 48) := rfl
theorem x48 : mCell (hL fX fY fc fo fcl fcan) 48 = some (zI 48) := rfl
theorem x49 : mCell (hL fX fY fc fo fcl fcan) 49 = some (.inl (1, 256, .inl fun _ => 0)) := rfl
theorem x50 : mCell (hL fX fY fc fo fcl fcan) 50 = some (.inl (0, 256, .inl fcl)) := rfl
theorem x51 : mCell (hL fX fY fc fo fcl fcan) 51 = some (.inl (1, 12288, .inl fcan)) := rfl
theorem x52 : mCell (hL fX fY fc fo fcl fcan) 52 = some (zI 4096) := rfl
theorem x53 : mCell (hL fX fY fc fo fcl fcan) 53 = some (zI 4096) := rfl
theorem x54 : mCell (hL fX fY fc fo fcl fcan) 54 = some (.inl (1, 4096, .inl fun _ => 0)) := rfl
theorem x55 : mCell (hL fX fY fc fo fcl fcan) 55 = some (zI 12) := rfl
theorem x56 : mCell (hL fX fY fc fo fcl fcan) 56 = some (zI 12) := rfl
theorem x57 : mCell (hL fX fY fc fo fcl fcan) 57 = some (zI 24576) := rfl
theorem x58 : mCell (hL fX fY fc fo fcl fcan) 58 = some (zI 60) := rfl
theorem x59 : mCell (hL fX fY fc fo fcl fcan) 59 = some (zI 4096) := rfl
theorem x60 : mCell (hL fX fY fc fo fcl fcan) 60 = some (zI 2049) := rfl
theorem x61 : mCell (hL fX fY fc fo fcl fcan) 61 = some (.inl (2, mZero (mTy 2) 2049)) := rfl
theorem x62 : mCell (hL fX fY fc fo fcl fcan) 62 = some (.inl (3, mZero (mTy 3) 1)) := rfl
theorem x63 : mCell (hL fX fY fc fo fcl fcan) 63 = some (.inl (4, mZero (mTy 4) 1)) := rfl
def Pc (a : Nat) : Prop := a < 42 ∨ 62 ≤ a
def Pm (a : Nat) : Prop := 42 ≤ a ∧ a < 62
theorem law_start {xs : Nat → Int32} {L : Nat} : ∃ fX fY fc fo fcl fcan, mW (mRo L xs) mTab 240 0 [some (.ref 0), none, none, none, none, none, none, none] [] [] 0 = mW (mRo L xs) mTab 240 28 [some (.ref 0), some (.ref 8), some (.ref 42), some (.ref 62), some (.ref 63), some (.int 0), none, none] [] (hL fX fY fc fo fcl fcan) 0 ∧
    (∀ g kk, g < 8 → (kk = 1 ∨ kk = 2) → arcOk fX fY g kk) ∧ all16 fc ∧ (∀ j, j < 2048 → fo j = p1Fo j) ∧ all16 fcl ∧ p1Can fcan := by
  obtain ⟨fX, fY, fc, fo, a1, a2, a3, a4⟩ := c_new (L := L) (xs := xs)
  obtain ⟨fcl, fcan, b1, b2, b3⟩ := m_new (L := L) (xs := xs) (h := hC10 fX fY fc fo)
  refine ⟨fX, fY, fc, fo, fcl, fcan, ?_, a2, a3, a4, b2, b3⟩
  rw [e240_0, show ([] : List mCel) ++ [.inr (10, mFls TX11 11)] = [.inr (10, mFls TX11 11)] from rfl, e240_3r, e240_4 (kR_eq rfl) (by simp [Value.category]), show 8 + ([] : List mCel).length = 8 from rfl, a1]
  simp only [mAft, Option.toList_none, List.nil_append]
  rw [e240_7, e240_8, e240_11r, e240_12 kR_new (by simp [Value.category]), b1]
  simp only [mAft, Option.toList_none, List.nil_append]
  rw [e240_15, e240_16, e240_17 (by decide), e240_19, e240_20, e240_21 (by decide), e240_23, e240_25, e240_26]
  rfl
end
