section
variable {L : Nat} {xs : Nat → Int32} {k : Nat}
theorem oi_divrem {a b : Nat} {b' : Int32} (ha : a < 2 ^ 31) (hb : b < 2 ^ 31) (e : b' = Int32.ofNat b) : Int32.ofNat a / b' = Int32.ofNat (a / b) ∧ Int32.ofNat a - Int32.ofNat a / b' * b' = Int32.ofNat (a % b) := by
  subst e; exact ⟨oi_div ha hb, oi_rem ha hb⟩
theorem dclear_loop {m bb : Nat} {fs : List Value} {h : List mCel} {x y : Int32} (hc : mCell h m = some (.inr (11, fs))) (hb : fs[16]? = some (.ref bb)) (hbl : mCell h bb = some (.inl (1, 256, .inl (fun _ => 0)))) (d : Nat) : ∀ (i : Nat) (l5 : Option Value), i + d = 256 →
    mW (mRo L xs) mTab 79 6 [some (.ref m), some (.int x), some (.int y), some (.int 16), some (.int (Int32.ofNat i)), l5] [] h k = some (.inl (some (.int 16)), h, k) := by
  induction d with
  | zero =>
    intro i l5 hi
    obtain rfl : i = 256 := by omega
    rw [e79_6, e79_8, e79_11, if_pos (by decide), e79_87, e79_88]
  | succ d IH =>
    intro i l5 hi
    have n1 : ¬ ((256 : Int32) ≤ Int32.ofNat i) := by
      rw [show (256 : Int32) = Int32.ofNat 256 from rfl, oi_le (by decide) (by omega)]; omega
    have hin : 0 ≤ (Int32.ofNat i).toInt ∧ (Int32.ofNat i).toInt < (256 : Nat) := by rw [oi_int (by omega)]; omega
    rw [e79_6, e79_8, e79_11, if_neg n1, e79_14, e79_15, kF_eq hc hb, e79_18, e79_20, kBA_bool hbl hin, e79_21, if_pos rfl, e79_81, oi_succ, e79_84]
    exact IH (i + 1) l5 (by omega)
theorem d_clearOf {m bb : Nat} {fs : List Value} {h : List mCel} {x y : Int32} (hc : mCell h m = some (.inr (11, fs))) (hb : fs[16]? = some (.ref bb)) (hbl : mCell h bb = some (.inl (1, 256, .inl (fun _ => 0)))) :
    mW (mRo L xs) mTab 79 0 [some (.ref m), some (.int x), some (.int y), none, none, none] [] h k = some (.inl (some (.int 16)), h, k) := by
  rw [e79_0, e79_2, e79_3, e79_4, show (0 : Int32) = Int32.ofNat 0 from rfl]
  exact dclear_loop hc hb hbl 256 0 none rfl
theorem dblk_loop {m bb : Nat} {fs : List Value} {h : List mCel} (hc : mCell h m = some (.inr (11, fs))) (h3 : fs[3]? = some (.int 0)) (hb : fs[16]? = some (.ref bb)) (hbl : mCell h bb = some (.inl (1, 256, .inl (fun _ => 0)))) (d : Nat) : ∀ (i : Nat) (l3 : Option Value), i + d = 256 →
    ∃ l3', mW (mRo L xs) mTab 90 4 [some (.ref m), some (.int 0), some (.int (Int32.ofNat i)), l3] [] h k = mW (mRo L xs) mTab 90 102 [some (.ref m), some (.int 0), some (.int (Int32.ofNat 256)), l3'] [] h k := by
  induction d with
  | zero =>
    intro i l3 hi
    obtain rfl : i = 256 := by omega
    exact ⟨l3, by rw [e90_4, e90_5, e90_8, if_pos (by decide)]⟩
  | succ d IH =>
    intro i l3 hi
    have n1 : ¬ ((256 : Int32) ≤ Int32.ofNat i) := by
      rw [show (256 : Int32) = Int32.ofNat 256 from rfl, oi_le (by decide) (by omega)]; omega
    have hin : 0 ≤ (Int32.ofNat i).toInt ∧ (Int32.ofNat i).toInt < (256 : Nat) := by rw [oi_int (by omega)]; omega
    have S : ∀ (q : Nat → (Nat → Int32) → Option mOut), kBS h bb (Int32.ofNat i) q = q 256 (fun _ => 0) := by
      intro q; unfold kBS; rw [hbl]; simp only [if_pos hin]
    have z : upd (fun _ => 0) (Int32.ofNat i).toNatClampNeg 0 = fun _ => 0 := by funext j; unfold upd; split <;> rfl
    obtain ⟨l3', R⟩ := IH (i + 1) (some (.int 0)) (by omega)
    refine ⟨l3', ?_⟩
    rw [e90_4, e90_5, e90_8, if_neg n1, e90_11, e90_12, kF_eq hc hb, e90_15, e90_16, e90_17 (Or.inl rfl), S, z, cell_same hbl, e90_18, e90_19, e90_20, e90_21, e90_22, kF_eq hc h3, e90_25, if_pos (by decide)]
    rw [e90_79, e90_80, e90_81, kF_eq hc hb, e90_84, e90_85, kBA_bool hbl hin, e90_86, if_pos rfl, e90_93, e90_94, e90_95, e90_96, oi_succ, e90_99, show (0 : Int32) + 0 = 0 from rfl]
    exact R
theorem dclr_loop {m bb cb : Nat} {fs : List Value} (hb : fs[16]? = some (.ref bb)) (hcb : fs[17]? = some (.ref cb)) (d : Nat) : ∀ (i : Nat) (g : Nat → Int32) (h : List mCel) (l3 : Option Value), i + d = 256 → mCell h m = some (.inr (11, fs)) → mCell h bb = some (.inl (1, 256, .inl (fun _ => 0))) → mCell h cb = some (.inl (0, 256, .inl g)) →
    mW (mRo L xs) mTab 90 104 [some (.ref m), some (.int 0), some (.int (Int32.ofNat i)), l3] [] h k = mW (mRo L xs) mTab 90 135 [some (.ref m), some (.int 0), some (.int (Int32.ofNat 256)), l3] [] (h.set (cb - 8) (.inl (0, 256, .inl (fillG g i 256 (fun _ => 16))))) k := by
  induction d with
  | zero =>
    intro i g h l3 hi hc hbl hcl
    obtain rfl : i = 256 := by omega
    rw [e90_104, e90_105, e90_108, if_pos (by decide), fillG_end, cell_same hcl]
  | succ d IH =>
    intro i g h l3 hi hc hbl hcl
    have n1 : ¬ ((256 : Int32) ≤ Int32.ofNat i) := by
      rw [show (256 : Int32) = Int32.ofNat 256 from rfl, oi_le (by decide) (by omega)]; omega
    have hin : 0 ≤ (Int32.ofNat i).toInt ∧ (Int32.ofNat i).toInt < (256 : Nat) := by rw [oi_int (by omega)]; omega
    have S : ∀ (q : Nat → (Nat → Int32) → Option mOut), kIS h cb (Int32.ofNat i) q = q 256 g := by
      intro q; unfold kIS; rw [hcl]; simp only [if_pos hin]
    have n1' : cb ≠ m := cell_ne hcl hc (fun z => by cases z)
    have n2' : cb ≠ bb := cell_ne hcl hbl (fun z => by simp at z)
    have h8 := (cell_8 hcl).1
    rw [e90_104, e90_105, e90_108, if_neg n1, e90_111, e90_112, kF_eq hc hcb, e90_115, e90_116, e90_117, e90_118, e90_120 (by decide), e90_121, e90_122, e90_124 (by decide), e90_125 (kR_eq hc) (by simp [Value.category]), d_clearOf hc hb hbl]
    simp only [mAft, Option.toList_some, List.cons_append, List.nil_append]
    rw [e90_128, S, oi_nat (by omega), e90_129, oi_succ, e90_132, IH (i + 1) _ _ l3 (by omega) ((cell_setne n1' h8).trans hc) ((cell_setne n2' h8).trans hbl) (cell_set hcl), List.set_set, fillG_step (v := fun _ => 16) (by omega)]
noncomputable def canV (j : Nat) : Int32 := @ite _ (qCan (fun _ => 0) 1 1 (Int32.ofNat (j / 6)) (Int32.ofNat (j % 6))) (Classical.propDecidable _) 1 0
theorem dcan_loop {m bb kb : Nat} {fs : List Value} (h8' : fs[8]? = some (.int 1)) (h9 : fs[9]? = some (.int 1)) (hb : fs[16]? = some (.ref bb)) (hkb : fs[18]? = some (.ref kb)) (d : Nat) : ∀ (i : Nat) (g : Nat → Int32) (h : List mCel) (l3 : Option Value), i + d = 12288 → kb ≠ bb → mCell h m = some (.inr (11, fs)) → mCell h bb = some (.inl (1, 256, .inl (fun _ => 0))) → mCell h kb = some (.inl (1, 12288, .inl g)) →
    mW (mRo L xs) mTab 90 137 [some (.ref m), some (.int 0), some (.int (Int32.ofNat i)), l3] [] h k = some (.inl (some (.int 0)), h.set (kb - 8) (.inl (1, 12288, .inl (fillG g i 12288 canV))), k) := by
  induction d with
  | zero =>
    intro i g h l3 hi hkbb hc hbl hcl
    obtain rfl : i = 12288 := by omega
    rw [e90_137, e90_138, e90_141, if_pos (by decide), e90_168, e90_169, fillG_end, cell_same hcl]
  | succ d IH =>
    intro i g h l3 hi hkbb hc hbl hcl
    have n1 : ¬ ((12288 : Int32) ≤ Int32.ofNat i) := by
      rw [show (12288 : Int32) = Int32.ofNat 12288 from rfl, oi_le (by decide) (by omega)]; omega
    have hin : 0 ≤ (Int32.ofNat i).toInt ∧ (Int32.ofNat i).toInt < (12288 : Nat) := by rw [oi_int (by omega)]; omega
    have S : ∀ (q : Nat → (Nat → Int32) → Option mOut), kBS h kb (Int32.ofNat i) q = q 12288 g := by
      intro q; unfold kBS; rw [hcl]; simp only [if_pos hin]
    have n1' : kb ≠ m := cell_ne hcl hc (fun z => by cases z)
    have h8 := (cell_8 hcl).1
    obtain ⟨d1, d2⟩ := oi_divrem (a := i) (b := 6) (b' := 6) (by omega) (by decide) rfl
    have v01 : canV i = 0 ∨ canV i = 1 := by
      unfold canV
      by_cases z : qCan (fun _ => 0) 1 1 (Int32.ofNat (i / 6)) (Int32.ofNat (i % 6))
      · rw [if_pos z]; exact Or.inr rfl
      · rw [if_neg z]; exact Or.inl rfl
    rw [e90_137, e90_138, e90_141, if_neg n1, e90_144, e90_145, kF_eq hc hkb, e90_148, e90_149, e90_150, e90_151, e90_153 (by decide), d1, e90_154, e90_155, e90_157 (by decide), d1, show Int32.ofNat i - Int32.ofNat (i / 6) * 6 = Int32.ofNat (i % 6) by rw [← d1]; exact d2, e90_158 (kR_eq hc) (by simp [Value.category]), d_canDrive hc h8' h9 hb hbl (by decide) (by decide)]
    simp only [mAft, Option.toList_some, List.cons_append, List.nil_append]
    rw [show (@ite Int32 (qCan (fun _ => 0) 1 1 (Int32.ofNat (i / 6)) (Int32.ofNat (i % 6))) (Classical.propDecidable _) 1 0) = canV i from rfl, e90_161 v01, S, oi_nat (by omega), e90_162, oi_succ, e90_165, IH (i + 1) _ _ l3 (by omega) hkbb ((cell_setne n1' h8).trans hc) ((cell_setne hkbb h8).trans hbl) (cell_set hcl), List.set_set, fillG_step (v := canV) (by omega)]
theorem d_fields {m bb cb kb : Nat} {fs : List Value} {g1 g2 : Nat → Int32} {h : List mCel} (h3 : fs[3]? = some (.int 0)) (h8' : fs[8]? = some (.int 1)) (h9 : fs[9]? = some (.int 1)) (hb : fs[16]? = some (.ref bb)) (hcb : fs[17]? = some (.ref cb)) (hkb : fs[18]? = some (.ref kb)) (hkbb : kb ≠ bb)
    (hc : mCell h m = some (.inr (11, fs))) (hbl : mCell h bb = some (.inl (1, 256, .inl (fun _ => 0)))) (hcl : mCell h cb = some (.inl (0, 256, .inl g1))) (hkl : mCell h kb = some (.inl (1, 12288, .inl g2))) :
    mW (mRo L xs) mTab 90 0 [some (.ref m), none, none, none] [] h k = some (.inl (some (.int 0)), (h.set (cb - 8) (.inl (0, 256, .inl (fillG g1 0 256 (fun _ => 16))))).set (kb - 8) (.inl (1, 12288, .inl (fillG g2 0 12288 canV))), k) := by
  obtain ⟨l3', B⟩ := dblk_loop (L := L) (xs := xs) (k := k) hc h3 hb hbl 256 0 none rfl
  have n1' : cb ≠ m := cell_ne hcl hc (fun z => by cases z)
  have n2' : cb ≠ bb := cell_ne hcl hbl (fun z => by simp at z)
  have n3' : cb ≠ kb := cell_ne hcl hkl (fun z => by simp at z)
  have h8 := (cell_8 hcl).1
  rw [e90_0, e90_1, e90_2, e90_3, show mW (mRo L xs) mTab 90 4 [some (.ref m), some (.int 0), some (.int 0), none] [] h k = _ from B, e90_102, e90_103, show (some (Value.int 0) : Option Value) = some (.int (Int32.ofNat 0)) from rfl]
  rw [show (some (Value.int (Int32.ofNat 0)) : Option Value) = some (.int 0) from rfl]
  rw [show mW (mRo L xs) mTab 90 104 [some (.ref m), some (.int 0), some (.int 0), l3'] [] h k = _ from dclr_loop hb hcb 256 0 g1 h l3' rfl hc hbl hcl, e90_135, e90_136]
  exact dcan_loop h8' h9 hb hkb 12288 0 g2 _ l3' rfl hkbb ((cell_setne n1' h8).trans hc) ((cell_setne n2' h8).trans hbl) ((cell_setne n3' h8).trans hkl)
end
