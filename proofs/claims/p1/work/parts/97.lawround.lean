section
variable {xs : Nat → Int32} {fX fY fc fo fcl fcan : Nat → Int32}
theorem and31 (v : Int32) : ∃ n, n < 32 ∧ v &&& 31 = Int32.ofNat n := by
  have h1 : (v &&& 31).toBitVec.toNat ≤ 31 := by
    rw [Int32.toBitVec_and, BitVec.toNat_and]; exact Nat.and_le_right
  refine ⟨(v &&& 31).toBitVec.toNat, by omega, ?_⟩
  apply Int32.toBitVec_inj.1
  rw [show (Int32.ofNat (v &&& 31).toBitVec.toNat).toBitVec = BitVec.ofNat 32 (v &&& 31).toBitVec.toNat from rfl]
  rw [BitVec.ofNat_toNat, BitVec.setWidth_eq]
theorem sw_rest {ro : Nat → Nat × (Nat → Int32)} {l0 l1 l2 l3 l4 l5 l6 l7 : Option Value} {h : List mCel} {x : Nat} {n : Nat} (h1 : 25 ≤ n) (h2 : n < 32) : mW ro mTab 240 45 [l0, l1, l2, l3, l4, l5, l6, l7] [.int (Int32.ofNat n)] h x = mW ro mTab 240 1980 [l0, l1, l2, l3, l4, l5, l6, l7] [] h x := by
  obtain rfl | rfl | rfl | rfl | rfl | rfl | rfl : n = 25 ∨ n = 26 ∨ n = 27 ∨ n = 28 ∨ n = 29 ∨ n = 30 ∨ n = 31 := by omega
  all_goals exact (g_step rfl rfl rfl rfl).trans rfl
theorem law_round (hs : (xs 0 &&& 31) ≠ 13 ∨ lawEnd xs 1126 (hL fX fY fc fo fcl fcan)) (ok : ∀ g kk, g < 8 → (kk = 1 ∨ kk = 2) → arcOk fX fY g kk) (h16 : all16 fc) (hf : ∀ j, j < 2048 → fo j = p1Fo j) (h16' : all16 fcl) (hcan : p1Can fcan) :
    ∃ h2 x1, mW (mRo 8 xs) mTab 240 28 [some (.ref 0), some (.ref 8), some (.ref 42), some (.ref 62), some (.ref 63), some (.int 0), none, none] [] (hL fX fY fc fo fcl fcan) 0 = some (.inl (some (.int 1)), h2, x1) ∧ h2.length ≤ 100 ∧ hz h2 ≤ 200000 ∧ x1 ≤ 1 := by
  have A : ∀ {h : List mCel} {f : Int32 → Option mOut}, kAL (mRo 8 xs) h 0 f = f 8 := by intro h f; rfl
  have stop : ∀ h x l6 l7, mW (mRo 8 xs) mTab 240 1980 [some (.ref 0), some (.ref 8), some (.ref 42), some (.ref 62), some (.ref 63), some (.int 0), l6, l7] [] h x = some (.inl (some (.int 1)), h, x) := by
    intro h x l6 l7
    rw [e240_1980, e240_1983, e240_28, e240_30, e240_31, A, e240_32, e240_34, e240_35, if_pos (by decide), e240_1986, e240_1987 (Or.inr rfl)]
  obtain ⟨n, hn, en⟩ := and31 (xs 0)
  have sw : ∀ pc, lawEnd xs pc (hL fX fY fc fo fcl fcan) → mW (mRo 8 xs) mTab 240 45 [some (.ref 0), some (.ref 8), some (.ref 42), some (.ref 62), some (.ref 63), some (.int 0), none, none] [.int (Int32.ofNat n)] (hL fX fY fc fo fcl fcan) 0 = mW (mRo 8 xs) mTab 240 pc [some (.ref 0), some (.ref 8), some (.ref 42), some (.ref 62), some (.ref 63), some (.int 0), none, none] [] (hL fX fY fc fo fcl fcan) 0 →
      ∃ h2 x1, mW (mRo 8 xs) mTab 240 45 [some (.ref 0), some (.ref 8), some (.ref 42), some (.ref 62), some (.ref 63), some (.int 0), none, none] [.int (Int32.ofNat n)] (hL fX fY fc fo fcl fcan) 0 = some (.inl (some (.int 1)), h2, x1) ∧ h2.length ≤ 100 ∧ hz h2 ≤ 200000 ∧ x1 ≤ 1 := by
    rintro pc ⟨h2, x1, l6, l7, E, a, b, c⟩ S
    exact ⟨h2, x1, by rw [S, E, stop], a, b, c⟩
  rw [e240_28, e240_30, e240_31, A, e240_32, e240_34, e240_35, if_neg (by decide), e240_38, e240_39, e240_41, sc_0, e240_42, e240_44, en]
  by_cases h25 : 25 ≤ n
  · have := hz_hL (fX := fX) (fY := fY) (fc := fc) (fo := fo) (fcl := fcl) (fcan := fcan)
    exact ⟨hL fX fY fc fo fcl fcan, 0, by rw [sw_rest h25 hn, stop], by simp [hL], by omega, by decide⟩
  · obtain rfl | rfl | rfl | rfl | rfl | rfl | rfl | rfl | rfl | rfl | rfl | rfl | rfl | rfl | rfl | rfl | rfl | rfl | rfl | rfl | rfl | rfl | rfl | rfl | rfl : n = 0 ∨ n = 1 ∨ n = 2 ∨ n = 3 ∨ n = 4 ∨ n = 5 ∨ n = 6 ∨ n = 7 ∨ n = 8 ∨ n = 9 ∨ n = 10 ∨ n = 11 ∨ n = 12 ∨ n = 13 ∨ n = 14 ∨ n = 15 ∨ n = 16 ∨ n = 17 ∨ n = 18 ∨ n = 19 ∨ n = 20 ∨ n = 21 ∨ n = 22 ∨ n = 23 ∨ n = 24 := by omega
    · exact sw 160 (fin_0) ((g_step rfl rfl rfl rfl).trans rfl)
    · exact sw 228 (fin_1) ((g_step rfl rfl rfl rfl).trans rfl)
    · exact sw 272 (fin_2) ((g_step rfl rfl rfl rfl).trans rfl)
    · exact sw 285 (fin_3) ((g_step rfl rfl rfl rfl).trans rfl)
    · exact sw 341 (fin_4) ((g_step rfl rfl rfl rfl).trans rfl)
    · exact sw 389 (fin_5) ((g_step rfl rfl rfl rfl).trans rfl)
    · exact sw 445 (fin_6) ((g_step rfl rfl rfl rfl).trans rfl)
    · exact sw 501 (fin_7 h16 h16') ((g_step rfl rfl rfl rfl).trans rfl)
    · exact sw 569 (fin_8 hf) ((g_step rfl rfl rfl rfl).trans rfl)
    · exact sw 656 (fin_9 ok) ((g_step rfl rfl rfl rfl).trans rfl)
    · exact sw 774 (fin_10) ((g_step rfl rfl rfl rfl).trans rfl)
    · exact sw 830 (fin_11 hf h16 h16' hcan) ((g_step rfl rfl rfl rfl).trans rfl)
    · exact sw 978 (fin_12 hf h16 h16' hcan) ((g_step rfl rfl rfl rfl).trans rfl)
    · exact sw 1126 (hs.resolve_left (fun z => z en)) ((g_step rfl rfl rfl rfl).trans rfl)
    · exact sw 1274 (fin_14 hf) ((g_step rfl rfl rfl rfl).trans rfl)
    · exact sw 1334 (fin_15) ((g_step rfl rfl rfl rfl).trans rfl)
    · exact sw 1390 (fin_16) ((g_step rfl rfl rfl rfl).trans rfl)
    · exact sw 1434 (fin_17) ((g_step rfl rfl rfl rfl).trans rfl)
    · exact sw 1490 (fin_18) ((g_step rfl rfl rfl rfl).trans rfl)
    · exact sw 1558 (fin_19) ((g_step rfl rfl rfl rfl).trans rfl)
    · exact sw 1626 (fin_20) ((g_step rfl rfl rfl rfl).trans rfl)
    · exact sw 1694 (fin_21) ((g_step rfl rfl rfl rfl).trans rfl)
    · exact sw 1762 (fin_22) ((g_step rfl rfl rfl rfl).trans rfl)
    · exact sw 1834 (fin_23) ((g_step rfl rfl rfl rfl).trans rfl)
    · exact sw 1924 (fin_24) ((g_step rfl rfl rfl rfl).trans rfl)
end
