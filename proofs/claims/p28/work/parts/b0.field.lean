section
variable {L : Nat} {xs : Nat → Int32} {k : Nat} {h : List mCel}
theorem ck_sub : allB 17 (fun a => allB 17 fun b => decide (a ≤ b + 1 → ¬ (2 : Int32) ≤ Int32.ofNat a - Int32.ofNat b)) = true := by decide +kernel
theorem sub_2 {a b : Nat} (ha : a ≤ 16) (hb : b ≤ 16) (h : a ≤ b + 1) : ¬ (2 : Int32) ≤ Int32.ofNat a - Int32.ofNat b := of_decide_eq_true (allB_get (allB_get ck_sub a (by omega)) b (by omega)) h

variable {oc np fr be cu mg st ar fa sl isr rq : Nat} {rT : List (Nat × Nat)} {gone : Nat → Bool} {pl : List (Nat × List (Nat × Nat))} {s : wS} {cov fcl fop fg fz fe : Nat → Int32}

theorem sh_fc (H : SH oc np fr be cu mg st ar fa sl isr rq rT gone pl s cov fcl fop fg fz fe h) {cN : Nat → Nat} (C : clOk cov fcl cN) : ∀ p, oF fop p = true → 1 ≤ cN (p % 256) := by
  obtain ⟨ow, et, er, nsq, lg, po, fpg, fpl, es, S, ⟨q1, T1, tr⟩, ⟨q2, T2, re⟩, rc, pa, ou, fl, pr, qu, w9, ⟨s2, w10⟩, ob, rr, lw, pg, pp, cf, cm, sp, bd, g1, g2, ppi, rp, bu⟩ := H
  exact fun p hp => free_clear (fop := fop) cf.1 C p hp
theorem fl_loop (H : SH oc np fr be cu mg st ar fa sl isr rq rT gone pl s cov fcl fop fg fz fe h) {cN : Nat → Nat} (C : clOk cov fcl cN) {cx cy : Nat} (hx : cx < 16) (hy : cy < 16) {l1 : Option Value} : ∀ (d i : Nat) (l7 : Option Value), i + d = 8 → ∃ l6 l7', mW (mRo L xs) mTab 167 46 [some (.ref 8), l1, some (.int (Int32.ofNat cx)), some (.int (Int32.ofNat cy)), some (.int (Int32.ofNat (cN (16 * cy + cx)))), some (.int 1), some (.int (Int32.ofNat i)), l7] [] h k = mW (mRo L xs) mTab 167 113 [some (.ref 8), l1, some (.int (Int32.ofNat cx)), some (.int (Int32.ofNat cy)), some (.int (Int32.ofNat (cN (16 * cy + cx)))), some (.int 1), l6, l7'] [] h k := by
  have c16 := (C.1 (16 * cy + cx) (by omega)).2
  intro d
  induction d with
  | zero =>
    intro i l7 hd
    exact ⟨_, _, by rw [e167_46, e167_48, e167_50, if_pos (by rw [show (8 : Int32) = Int32.ofNat 8 from rfl, oi_le (by decide) (by omega)]; omega)]⟩
  | succ d IH =>
    intro i l7 hd
    have fr := sh_isFree (L := L) (xs := xs) (k := k) H (p := 256 * i + (16 * cy + cx)) (by omega)
    rw [show (256 * i + (16 * cy + cx)) % 16 = cx by omega, show (256 * i + (16 * cy + cx)) / 16 % 16 = cy by omega, show (256 * i + (16 * cy + cx)) / 256 = i by omega] at fr
    have fr2 := sh_isFree (L := L) (xs := xs) (k := k) H (p := 256 * ((i + 4) % 8) + (16 * cy + cx)) (by omega)
    rw [show (256 * ((i + 4) % 8) + (16 * cy + cx)) % 16 = cx by omega, show (256 * ((i + 4) % 8) + (16 * cy + cx)) / 16 % 16 = cy by omega, show (256 * ((i + 4) % 8) + (16 * cy + cx)) / 256 = (i + 4) % 8 by omega] at fr2
    by_cases z : oF fop (256 * i + (16 * cy + cx)) = true
    · rw [if_pos z] at fr
      have c1 := sh_fc H C _ z
      rw [show (256 * i + (16 * cy + cx)) % 256 = 16 * cy + cx by omega] at c1
      obtain ⟨l6, l7', e⟩ := IH (i + 1) (some (.int 1)) (by omega)
      refine ⟨l6, l7', ?_⟩
      rw [e167_46, e167_48, e167_50, if_neg (by rw [show (8 : Int32) = Int32.ofNat 8 from rfl, oi_le (by decide) (by omega)]; omega), e167_53, e167_55, if_neg (by decide), e167_58, e167_59, e167_60, e167_61, e167_63 (by simp [Value.category]), fr]
      simp only [mAft, Option.toList_some, List.cons_append, List.nil_append]
      rw [e167_66, e167_68, e167_70, if_neg (by decide), e167_73, e167_75, e167_76, if_neg (fun z => z rfl), e167_79, e167_81, if_neg (show ¬ Int32.ofNat _ ≤ (0 : Int32) from nle_lit (n := 0) (by omega) (by omega)), e167_84, e167_85, e167_86, e167_87, e167_89, e167_90, e167_91, show (8 : Int32) = Int32.ofNat 8 from rfl, show (4 : Int32) = Int32.ofNat 4 from rfl, ← oi_add, e167_93 (by decide), oi_mod (by omega) (by decide) (by decide), e167_94 (by simp [Value.category]), fr2]
      simp only [mAft, Option.toList_some, List.cons_append, List.nil_append]
      rw [e167_97, if_neg (by split <;> decide), e167_100, e167_101, e167_105, e167_107, oi_succ, e167_110]
      exact e
    · rw [if_neg z] at fr
      obtain ⟨l6, l7', e⟩ := IH (i + 1) (some (.int 0)) (by omega)
      refine ⟨l6, l7', ?_⟩
      rw [e167_46, e167_48, e167_50, if_neg (by rw [show (8 : Int32) = Int32.ofNat 8 from rfl, oi_le (by decide) (by omega)]; omega), e167_53, e167_55, if_neg (by decide), e167_58, e167_59, e167_60, e167_61, e167_63 (by simp [Value.category]), fr]
      simp only [mAft, Option.toList_some, List.cons_append, List.nil_append]
      rw [e167_66, e167_68, e167_70, if_pos rfl, e167_100, e167_101, e167_105, e167_107, oi_succ, e167_110]
      exact e

theorem law_isField (H : SH oc np fr be cu mg st ar fa sl isr rq rT gone pl s cov fcl fop fg fz fe h) {v : Int32} {l2 l3 l4 l5 l6 l7 : Option Value} : mW (mRo L xs) mTab 167 0 [some (.ref 8), some (.int v), l2, l3, l4, l5, l6, l7] [] h k = some (.inl (some (.int 1)), h, k + 1) := by
  obtain ⟨cN, C⟩ := sh_cl H
  have hx : lw v 16 < 16 := lw_lt (by decide)
  have hy : lw (v >>> (4 &&& 31)) 16 < 16 := lw_lt (by decide)
  have head : ∀ l6 l7, ∃ l6' l7', mW (mRo L xs) mTab 167 0 [some (.ref 8), some (.int v), l2, l3, l4, l5, l6, l7] [] h k = mW (mRo L xs) mTab 167 113 [some (.ref 8), some (.int v), some (.int (Int32.ofNat (lw v 16))), some (.int (Int32.ofNat (lw (v >>> (4 &&& 31)) 16))), some (.int (Int32.ofNat (cN (16 * lw (v >>> (4 &&& 31)) 16 + lw v 16)))), some (.int 1), l6', l7'] [] h k := by
    intro l6 l7
    have here := sh_clearance (L := L) (xs := xs) (k := k) H C (c := 16 * lw (v >>> (4 &&& 31)) 16 + lw v 16) (by omega)
    rw [show (16 * lw (v >>> (4 &&& 31)) 16 + lw v 16) % 16 = lw v 16 by omega, show (16 * lw (v >>> (4 &&& 31)) 16 + lw v 16) / 16 = lw (v >>> (4 &&& 31)) 16 by omega] at here
    have c16 := (C.1 (16 * lw (v >>> (4 &&& 31)) 16 + lw v 16) (by omega)).2
    obtain ⟨a, b, e⟩ := fl_loop (L := L) (xs := xs) (k := k) H C hx hy (l1 := some (.int v)) 8 0 l7 rfl
    refine ⟨a, b, ?_⟩
    refine Eq.trans ?_ e
    rw [e167_0, e167_1, show (16 : Int32) = Int32.ofNat 16 from rfl, e167_3 (by simp [Value.category]), (c_low (n := 16) (by decide) (by decide))]
    simp only [mAft, Option.toList_some, List.cons_append, List.nil_append]
    rw [e167_6, e167_7, e167_8, e167_9, e167_10, show (16 : Int32) = Int32.ofNat 16 from rfl, e167_12 (by simp [Value.category]), (c_low (n := 16) (by decide) (by decide))]
    simp only [mAft, Option.toList_some, List.cons_append, List.nil_append]
    rw [e167_15, e167_16, e167_17, e167_18, e167_19 (by simp [Value.category]), here]
    simp only [mAft, Option.toList_some, List.cons_append, List.nil_append]
    rw [e167_22, e167_24, e167_26, if_neg (oi_nneg (by omega)), e167_29, e167_31, e167_33, if_neg (by rw [show (16 : Int32) = Int32.ofNat 16 from rfl, oi_lt (by decide) (by omega)]; omega), e167_36, e167_37, e167_41, e167_43, e167_44]
    rfl
  obtain ⟨l6', l7', e⟩ := head l6 l7
  rw [e]
  clear head e
  generalize lw v 16 = cx at *
  generalize lw (v >>> (4 &&& 31)) 16 = cy at *
  have c16 := (C.1 (16 * cy + cx) (by omega)).2
  have bad := sh_clearBad (L := L) (xs := xs) (k := k) H hx
  have bx : cx < 15 → mW (mRo L xs) mTab 161 0 [some (.ref 8), some (.int (Int32.ofNat (cx + 1))), some (.int (Int32.ofNat cy)), none] [] h k = some (.inl (some (.int (Int32.ofNat (cN (16 * cy + cx + 1))))), h, k) := fun z => by
    have := sh_clearance (L := L) (xs := xs) (k := k) H C (c := 16 * cy + cx + 1) (by omega)
    rwa [show (16 * cy + cx + 1) % 16 = cx + 1 by omega, show (16 * cy + cx + 1) / 16 = cy by omega] at this
  have by1 : cy < 15 → mW (mRo L xs) mTab 161 0 [some (.ref 8), some (.int (Int32.ofNat cx)), some (.int (Int32.ofNat (cy + 1))), none] [] h k = some (.inl (some (.int (Int32.ofNat (cN (16 * cy + cx + 16))))), h, k) := fun z => by
    have := sh_clearance (L := L) (xs := xs) (k := k) H C (c := 16 * cy + cx + 16) (by omega)
    rwa [show (16 * cy + cx + 16) % 16 = cx by omega, show (16 * cy + cx + 16) / 16 = cy + 1 by omega] at this
  have e15 : ∀ x, x < 16 → ((15 : Int32) ≤ Int32.ofNat x ↔ ¬ x < 15) := fun x hx => by
    rw [show (15 : Int32) = Int32.ofNat 15 from rfl, oi_le (by decide) (by omega)]
    omega
  by_cases zx : cx < 15
  · have nx := C.2.2.1 (16 * cy + cx) (by omega) (by omega)
    have x16 := (C.1 (16 * cy + cx + 1) (by omega)).2
    have px : ¬ (15 : Int32) ≤ Int32.ofNat cx := fun z => (e15 cx hx).mp z zx
    have bx := bx zx
    by_cases zy : cy < 15
    · have ny := C.2.2.2 (16 * cy + cx) (by omega) (by omega)
      have y16 := (C.1 (16 * cy + cx + 16) (by omega)).2
      have py : ¬ (15 : Int32) ≤ Int32.ofNat cy := fun z => (e15 cy hy).mp z zy
      have by1 := by1 zy
      rw [e167_113, e167_114, e167_116, if_neg px, e167_119, e167_120, e167_121, e167_122, oi_succ, e167_123, e167_124 (by simp [Value.category]), bx]
      simp only [mAft, Option.toList_some, List.cons_append, List.nil_append]
      rw [e167_127, e167_132, e167_134, e167_135, e167_137, if_neg py, e167_140, e167_141, e167_142, e167_143, e167_144, oi_succ, e167_145 (by simp [Value.category]), by1]
      simp only [mAft, Option.toList_some, List.cons_append, List.nil_append]
      rw [e167_148, e167_153, e167_155, e167_157, if_neg (by decide), e167_160, e167_162, e167_164, e167_165, e167_166, if_neg (sub_2 x16 c16 nx.2), e167_169, e167_171, e167_173, e167_174, e167_175, if_neg (sub_2 c16 x16 nx.1), e167_178, e167_180, e167_182, e167_183, e167_184, if_neg (sub_2 y16 c16 ny.2), e167_187, e167_189, e167_191, e167_192, e167_193, if_neg (sub_2 c16 y16 ny.1), e167_196, e167_197, e167_198, e167_200 (by simp [Value.category]), bad]
      simp only [mAft, Option.toList_some, List.cons_append, List.nil_append]
      rw [e167_203, e167_205, if_neg (fun z => z rfl), e167_208, e167_209, e167_213 (Or.inr rfl)]
    · have py : (15 : Int32) ≤ Int32.ofNat cy := (e15 cy hy).mpr zy
      rw [e167_113, e167_114, e167_116, if_neg px, e167_119, e167_120, e167_121, e167_122, oi_succ, e167_123, e167_124 (by simp [Value.category]), bx]
      simp only [mAft, Option.toList_some, List.cons_append, List.nil_append]
      rw [e167_127, e167_132, e167_134, e167_135, e167_137, if_pos py, e167_151, e167_153, e167_155, e167_157, if_neg (by decide), e167_160, e167_162, e167_164, e167_165, e167_166, if_neg (sub_2 x16 c16 nx.2), e167_169, e167_171, e167_173, e167_174, e167_175, if_neg (sub_2 c16 x16 nx.1), e167_178, e167_180, e167_182, e167_183, e167_184, if_neg (sub_2 c16 c16 (Nat.le_succ _)), e167_187, e167_189, e167_191, e167_192, e167_193, if_neg (sub_2 c16 c16 (Nat.le_succ _)), e167_196, e167_197, e167_198, e167_200 (by simp [Value.category]), bad]
      simp only [mAft, Option.toList_some, List.cons_append, List.nil_append]
      rw [e167_203, e167_205, if_neg (fun z => z rfl), e167_208, e167_209, e167_213 (Or.inr rfl)]
  · have px : (15 : Int32) ≤ Int32.ofNat cx := (e15 cx hx).mpr zx
    by_cases zy : cy < 15
    · have ny := C.2.2.2 (16 * cy + cx) (by omega) (by omega)
      have y16 := (C.1 (16 * cy + cx + 16) (by omega)).2
      have py : ¬ (15 : Int32) ≤ Int32.ofNat cy := fun z => (e15 cy hy).mp z zy
      have by1 := by1 zy
      rw [e167_113, e167_114, e167_116, if_pos px, e167_130, e167_132, e167_134, e167_135, e167_137, if_neg py, e167_140, e167_141, e167_142, e167_143, e167_144, oi_succ, e167_145 (by simp [Value.category]), by1]
      simp only [mAft, Option.toList_some, List.cons_append, List.nil_append]
      rw [e167_148, e167_153, e167_155, e167_157, if_neg (by decide), e167_160, e167_162, e167_164, e167_165, e167_166, if_neg (sub_2 c16 c16 (Nat.le_succ _)), e167_169, e167_171, e167_173, e167_174, e167_175, if_neg (sub_2 c16 c16 (Nat.le_succ _)), e167_178, e167_180, e167_182, e167_183, e167_184, if_neg (sub_2 y16 c16 ny.2), e167_187, e167_189, e167_191, e167_192, e167_193, if_neg (sub_2 c16 y16 ny.1), e167_196, e167_197, e167_198, e167_200 (by simp [Value.category]), bad]
      simp only [mAft, Option.toList_some, List.cons_append, List.nil_append]
      rw [e167_203, e167_205, if_neg (fun z => z rfl), e167_208, e167_209, e167_213 (Or.inr rfl)]
    · have py : (15 : Int32) ≤ Int32.ofNat cy := (e15 cy hy).mpr zy
      rw [e167_113, e167_114, e167_116, if_pos px, e167_130, e167_132, e167_134, e167_135, e167_137, if_pos py, e167_151, e167_153, e167_155, e167_157, if_neg (by decide), e167_160, e167_162, e167_164, e167_165, e167_166, if_neg (sub_2 c16 c16 (Nat.le_succ _)), e167_169, e167_171, e167_173, e167_174, e167_175, if_neg (sub_2 c16 c16 (Nat.le_succ _)), e167_178, e167_180, e167_182, e167_183, e167_184, if_neg (sub_2 c16 c16 (Nat.le_succ _)), e167_187, e167_189, e167_191, e167_192, e167_193, if_neg (sub_2 c16 c16 (Nat.le_succ _)), e167_196, e167_197, e167_198, e167_200 (by simp [Value.category]), bad]
      simp only [mAft, Option.toList_some, List.cons_append, List.nil_append]
      rw [e167_203, e167_205, if_neg (fun z => z rfl), e167_208, e167_209, e167_213 (Or.inr rfl)]
end
