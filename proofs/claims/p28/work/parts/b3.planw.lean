section
variable {L : Nat} {xs : Nat → Int32} {k : Nat} {h : List mCel}
theorem upd_at {f : Nat → Int32} {i : Nat} {v : Int32} : upd f i v i = v := by unfold upd; exact if_pos rfl
theorem upd_ne {f : Nat → Int32} {i j : Nat} {v : Int32} (hj : j ≠ i) : upd f i v j = f j := by unfold upd; exact if_neg hj
theorem oi_i1 {n : Nat} : Int32.ofNat n + 1 = Int32.ofNat (n + 1) := by rw [oi_succ]

variable {oc np fr be cu mg st ar fa sl isr rq : Nat} {rT : List (Nat × Nat)} {gone : Nat → Bool} {pl : List (Nat × List (Nat × Nat))} {s : wS} {cov fcl fop fg fz fe : Nat → Int32}

theorem pl_g3 (H : SH oc np fr be cu mg st ar fa sl isr rq rT gone pl s cov fcl fop fg fz fe h) {c : Nat} (G0 : LG oc np c pl gone fg fz fe) {l2 l3 l4 l5 l6 l7 l8 l9 l10 l11 l12 l13 l14 l15 : Option Value} {v : Int32} : ∃ h' fg', mW (mRo L xs) mTab 179 98 [some (.ref 8), some (.ref 42), l2, l3, l4, l5, l6, l7, l8, l9, l10, l11, l12, l13, l14, l15] [.int v] h k = mW (mRo L xs) mTab 179 107 [some (.ref 8), some (.ref 42), l2, l3, l4, l5, l6, l7, l8, l9, l10, l11, some (.int v), l13, l14, l15] [] h' k ∧ SH oc np fr be cu mg st ar fa sl isr rq rT gone pl s cov fcl fop fg' fz fe h' ∧ LG oc np (c + 1) pl gone fg' fz fe := by
  have g42 := (sh_g H).1
  refine ⟨_, upd fg (3 : Int32).toNatClampNeg (fg 3 + 1), ?_, sh_setG H _, ?_⟩
  rotate_left
  · have e3 : (3 : Int32).toNatClampNeg = 3 := rfl
    rw [e3]
    refine ⟨(upd_ne (by decide)).trans G0.1, (upd_ne (by decide)).trans G0.2.1, (upd_ne (by decide)).trans G0.2.2.1, ?_, G0.2.2.2.2⟩
    rw [upd_at, G0.2.2.2.1]
    exact oi_i1
  rw [e179_98, e179_100, e179_101, e179_102, e179_103, rd (J := 3) (j := 3) g42 rfl (by decide) (by decide), e179_104, e179_105, e179_106, wr (J := 3) (j := 3) g42 rfl (by decide) (by decide)]

theorem pl_w {p q : Nat} {T : List (Nat × Nat)} (H : SH oc np fr be cu mg st ar fa sl isr rq rT gone (pl ++ [(p, T)]) s cov fcl fop fg fz fe h) {c : Nat} (G0 : LG oc np c pl gone fg fz fe) (hp : p < 2048) (hq : q < 2048) (hf : Sho.fin p T = q) (hn : pl.length < 12) {l3 l4 l11 l12 l13 l15 : Option Value} :
    ∃ h' fg' fe', mW (mRo L xs) mTab 179 210 [some (.ref 8), some (.ref 42), some (.ref 44), l3, l4, some (.int (Int32.ofNat (p % 16))), some (.int (Int32.ofNat (p / 16 % 16))), some (.int (Int32.ofNat (p / 256))), some (.int (Int32.ofNat (q % 16))), some (.int (Int32.ofNat (q / 16 % 16))), some (.int (Int32.ofNat (q / 256))), l11, l12, l13, some (.int (Int32.ofNat pl.length)), l15] [] h k = mW (mRo L xs) mTab 179 249 [some (.ref 8), some (.ref 42), some (.ref 44), l3, l4, some (.int (Int32.ofNat (p % 16))), some (.int (Int32.ofNat (p / 16 % 16))), some (.int (Int32.ofNat (p / 256))), some (.int (Int32.ofNat (q % 16))), some (.int (Int32.ofNat (q / 16 % 16))), some (.int (Int32.ofNat (q / 256))), l11, l12, l13, some (.int (Int32.ofNat pl.length)), l15] [] h' k ∧ SH oc np fr be cu mg st ar fa sl isr rq rT gone (pl ++ [(p, T)]) s cov fcl fop fg' fz fe' h' ∧ LG oc np c (pl ++ [(p, T)]) gone fg' fz fe' := by
  have e2i : (2 : Int32) * Int32.ofNat pl.length = Int32.ofNat (2 * pl.length) := (oi_mul 2 _).symm
  have e2j : (2 : Int32) * Int32.ofNat pl.length + 1 = Int32.ofNat (2 * pl.length + 1) := by rw [e2i, oi_i1]
  have n1 : ((2 : Int32) * Int32.ofNat pl.length).toNatClampNeg = 2 * pl.length := by rw [e2i, oi_nat (by omega)]
  have n2 : ((2 : Int32) * Int32.ofNat pl.length + 1).toNatClampNeg = 2 * pl.length + 1 := by rw [e2j, oi_nat (by omega)]
  have g44 := (sh_g H).2.2.1
  have H1 := sh_setE H (upd fe ((2 : Int32) * Int32.ofNat pl.length).toNatClampNeg (told p))
  have g44b := (sh_g H1).2.2.1
  have H2 := sh_setE H1 (upd (upd fe ((2 : Int32) * Int32.ofNat pl.length).toNatClampNeg (told p)) ((2 : Int32) * Int32.ofNat pl.length + 1).toNatClampNeg (told q))
  have g42 := (sh_g H2).1
  refine ⟨_, upd fg (2 : Int32).toNatClampNeg (fg 2 + 1), _, ?_, sh_setG H2 _, ?_⟩
  rotate_left
  · have e3 : (2 : Int32).toNatClampNeg = 2 := rfl
    rw [e3, n1, n2]
    refine ⟨(upd_ne (by decide)).trans G0.1, (upd_ne (by decide)).trans G0.2.1, ?_, (upd_ne (by decide)).trans G0.2.2.2.1, G0.2.2.2.2.1, fun i x hi => ?_⟩
    · rw [upd_at, G0.2.2.1, List.length_append, List.length_singleton]
      exact oi_i1
    · by_cases z : i < pl.length
      · rw [List.getElem?_append_left z] at hi
        rw [upd_ne (by omega), upd_ne (by omega), upd_ne (by omega), upd_ne (by omega)]
        exact G0.2.2.2.2.2 i x hi
      · have hl := (List.getElem?_eq_some_iff.mp hi).1
        rw [List.length_append, List.length_singleton] at hl
        have ei : i = pl.length := by omega
        subst ei
        rw [List.getElem?_append_right (Nat.le_refl _), Nat.sub_self] at hi
        cases hi
        rw [upd_ne (by omega), upd_at, upd_at]
        exact ⟨rfl, by rw [hf]⟩
  rw [e179_210, e179_211, e179_212, e179_214, e179_215, e179_217, e179_219, e179_221 (by simp [Value.category]), (c_told hp)]
  simp only [mAft, Option.toList_some, List.cons_append, List.nil_append]
  rw [e179_224, wr g44 e2i (by omega) (by decide), e179_225, e179_226, e179_227, e179_229, e179_230, e179_231, e179_232, e179_234, e179_236, e179_238 (by simp [Value.category]), (c_told hq)]
  simp only [mAft, Option.toList_some, List.cons_append, List.nil_append]
  rw [e179_241, wr g44b e2j (by omega) (by decide), e179_242, e179_243, e179_244, e179_245, rd (J := 2) (j := 2) g42 rfl (by decide) (by decide), e179_246, e179_247, e179_248, wr (J := 2) (j := 2) g42 rfl (by decide) (by decide)]
end
