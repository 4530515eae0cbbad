section
/-- a float as a whole number of the least ones -/
noncomputable def Zf (a : UInt32) : Int := FP.Core.zval FP.Core.b32 (FP.Core.val32 a)
def Mx : Int := 10000 * (FP.Core.one32 : Int)
/-- a square of a speed: a number, 0 at least, 10000 at most -/
def Fok (v : UInt32) : Prop := FP.Core.FFin v ∧ 0 ≤ Zf v ∧ Zf v ≤ Mx
/-- what a square can change by -/
def Chg (v : UInt32) : Prop := FP.Core.FFin v ∧ 0 < Zf v
theorem fadd_pos {a b : UInt32} (ha : Fok a) (hb : Chg b) : FP.Core.val32 (FP.fadd a b) ≠ FP.Core.Datum.nan ∧ 0 < Zf (FP.fadd a b) := by
  refine ⟨(FP.Core.notNaN_iff32 _).mp (FP.Core.fadd_out ha.1.notNaN hb.1), ?_⟩
  have h0 : FP.Core.zval FP.Core.b32 (FP.Core.val32 b) ≤ FP.Core.zval FP.Core.b32 (FP.Core.val32 a) + FP.Core.zval FP.Core.b32 (FP.Core.val32 b) := by
    have := ha.2.1
    unfold Zf at this
    omega
  have h1 := FP.Core.sum_ge FP.Core.good_b32 ha.1 hb.1 (FP.Core.val32_fits a) (FP.Core.val32_fits b) (FP.Core.val32_fits b) hb.1.ne_nan h0
  rw [← FP.Core.val32_fadd] at h1
  exact Int.lt_of_lt_of_le hb.2 h1
theorem top_big : 10000 * FP.Core.one32 < FP.Core.b32.tails * 2 ^ (FP.Core.b32.exps - 2) := by decide +kernel
/-- what is no more than a square is one -/
theorem fok_le {v w : UInt32} (hv : FP.Core.val32 v ≠ FP.Core.Datum.nan) (h0 : 0 ≤ Zf v) (hw : Fok w) (h : Zf v ≤ Zf w) : Fok v := by
  refine ⟨?_, h0, Int.le_trans h hw.2.2⟩
  have hM : Zf v ≤ Mx := Int.le_trans h hw.2.2
  unfold Zf at h0 hM
  cases hc : FP.Core.val32 v with
  | nan => exact absurd hc hv
  | inf s =>
    exfalso
    have tb := top_big
    have e : FP.Core.zval FP.Core.b32 (FP.Core.Datum.inf s) = FP.Core.signed s (FP.Core.b32.tails * 2 ^ (FP.Core.b32.exps - 2)) := rfl
    rw [hc, e] at h0 hM
    unfold Mx at hM
    unfold FP.Core.signed at h0 hM
    generalize FP.Core.b32.tails * 2 ^ (FP.Core.b32.exps - 2) = top at *
    generalize FP.Core.one32 = one at *
    cases s
    · rw [if_neg (by decide)] at h0 hM
      omega
    · rw [if_pos rfl] at h0 hM
      omega
  | fin s c q => exact ⟨s, c, q, hc⟩
theorem zf_zero : Zf 0 = 0 := FP.Core.zval32_zero
theorem fok_zero : Fok 0 := ⟨⟨_, _, _, FP.Core.val32_zero⟩, by rw [zf_zero]; exact Int.le_refl _, by rw [zf_zero]; exact Int.mul_nonneg (by decide) (Int.natCast_nonneg _)⟩
/-- the lesser of two -/
noncomputable def lsF (a b : UInt32) : UInt32 := if Zf a < Zf b then a else b
theorem ls_pos {a b : UInt32} (ha : Fok a) (hb : FP.Core.val32 b ≠ FP.Core.Datum.nan) (hp : 0 < Zf b) : Fok (lsF a b) ∧ (Zf a = 0 → Zf (lsF a b) = 0) ∧ (0 < Zf a → 0 < Zf (lsF a b)) := by
  unfold lsF
  by_cases z : Zf a < Zf b
  · rw [if_pos z]; exact ⟨ha, id, id⟩
  · rw [if_neg z]
    exact ⟨fok_le hb (Int.le_of_lt hp) ha (Int.not_lt.mp z), fun y => by omega, fun _ => hp⟩
theorem zf_10000 : Zf 1176256512 = Mx := by
  show FP.Core.zval FP.Core.b32 (FP.Core.val32 1176256512) = 10000 * ((2 ^ 149 : Nat) : Int)
  decide +kernel
end
