section
theorem kFN_ok {v : UInt32} {k : Option mOut} (h : FP.Core.val32 v ≠ FP.Core.Datum.nan) : kFN v k = k := by
  unfold kFN
  refine if_pos ?_
  rw [UInt32.le_iff_toNat_le, FP.Core.mask_toNat32]
  have h2 : ¬ FP.Core.infBits FP.Core.b32 < FP.Core.mag FP.Core.b32 v.toNat := fun z => h ((FP.Core.decode_nan v.toNat).mpr z)
  have h3 : FP.Core.infBits FP.Core.b32 = 2139095040 := by decide
  have h4 : FP.Core.half FP.Core.b32 = 2 ^ 31 := by decide
  unfold FP.Core.mag at h2
  rw [h3, h4] at h2
  have h5 : (2139095040 : UInt32).toNat = 2139095040 := rfl
  omega
theorem ck_lim : allB 301 (fun v => decide (v = 0 ∨ (FP.fcmp (FP.i2f (Int32.ofNat v)) 0 = some .gt ∧ (FP.fcmp (FP.i2f (Int32.ofNat v)) 1176256512 = some .lt ∨ FP.fcmp (FP.i2f (Int32.ofNat v)) 1176256512 = some .eq)))) = true := by decide +kernel
theorem lim_ok {v : Nat} (h : v ≤ 300) (h0 : v ≠ 0) : Fok (FP.i2f (Int32.ofNat v)) ∧ 0 < Zf (FP.i2f (Int32.ofNat v)) := by
  have ck := (of_decide_eq_true (allB_get ck_lim v (by omega))).resolve_left h0
  have g := (FP.Core.fcmp_gt.mp ck.1).2.2
  have l := (FP.Core.fcmp_le.mp ck.2).2.2
  rw [FP.Core.zval32_zero] at g
  have l2 : Zf (FP.i2f (Int32.ofNat v)) ≤ Zf 1176256512 := l
  rw [zf_10000] at l2
  exact ⟨⟨FP.Core.i2f_fin _, Int.le_of_lt g, l2⟩, g⟩
/-- how long a move is -/
def lenF (p m : Nat) : UInt32 := if m % 3 = 0 then (if p / 256 % 2 = 0 then 1065353216 else 1068827891) else 1075479162
def chF (r p m : Nat) : UInt32 := FP.fmul (FP.fmul 1073741824 (FP.i2f (Int32.ofNat r))) (lenF p m)
theorem ck_chg : allB 31 (fun r => decide (r = 0 ∨ ((FP.fmul 1073741824 (FP.i2f (Int32.ofNat r))).toNat % 2 ^ 31 < 2139095040 ∧
    ((FP.fmul (FP.fmul 1073741824 (FP.i2f (Int32.ofNat r))) 1065353216).toNat % 2 ^ 31 < 2139095040 ∧ FP.fcmp (FP.fmul (FP.fmul 1073741824 (FP.i2f (Int32.ofNat r))) 1065353216) 0 = some .gt) ∧
    ((FP.fmul (FP.fmul 1073741824 (FP.i2f (Int32.ofNat r))) 1068827891).toNat % 2 ^ 31 < 2139095040 ∧ FP.fcmp (FP.fmul (FP.fmul 1073741824 (FP.i2f (Int32.ofNat r))) 1068827891) 0 = some .gt) ∧
    ((FP.fmul (FP.fmul 1073741824 (FP.i2f (Int32.ofNat r))) 1075479162).toNat % 2 ^ 31 < 2139095040 ∧ FP.fcmp (FP.fmul (FP.fmul 1073741824 (FP.i2f (Int32.ofNat r))) 1075479162) 0 = some .gt)))) = true := by decide +kernel
theorem chg_ok {r : Nat} (h : r ≤ 30) (h0 : r ≠ 0) (p m : Nat) : FP.Core.val32 (FP.fmul 1073741824 (FP.i2f (Int32.ofNat r))) ≠ FP.Core.Datum.nan ∧ Chg (chF r p m) := by
  obtain ⟨c1, c2, c3, c4⟩ := (of_decide_eq_true (allB_get ck_chg r (by omega))).resolve_left h0
  refine ⟨((FP.Core.fin_bits32 _).mpr c1).ne_nan, ?_⟩
  have key : ∀ v : UInt32, (v.toNat % 2 ^ 31 < 2139095040 ∧ FP.fcmp v 0 = some .gt) → Chg v := fun v hv => by
    have g := (FP.Core.fcmp_gt.mp hv.2).2.2
    rw [FP.Core.zval32_zero] at g
    exact ⟨(FP.Core.fin_bits32 _).mpr hv.1, g⟩
  unfold chF lenF
  by_cases h3 : m % 3 = 0
  · rw [if_pos h3]
    by_cases hp : p / 256 % 2 = 0
    · rw [if_pos hp]; exact key _ c2
    · rw [if_neg hp]; exact key _ c3
  · rw [if_neg h3]; exact key _ c4
variable {L : Nat} {xs : Nat → Int32} {k : Nat} {h : List mCel}
theorem c_lesser {a b : UInt32} (ha : FP.Core.val32 a ≠ FP.Core.Datum.nan) (hb : FP.Core.val32 b ≠ FP.Core.Datum.nan) : mW (mRo L xs) mTab 94 0 [some (.float a), some (.float b)] [] h k = some (.inl (some (.float (lsF a b))), h, k) := by
  obtain ⟨r, hr⟩ := FP.Core.fcmp_of_notNaN ((FP.Core.notNaN_iff32 a).mpr ha) ((FP.Core.notNaN_iff32 b).mpr hb)
  have lt : r = .lt ↔ Zf a < Zf b := by
    refine ⟨fun z => (FP.Core.fcmp_lt.mp (z ▸ hr)).2.2, fun z => ?_⟩
    have := FP.Core.fcmp_lt.mpr ⟨ha, hb, z⟩
    rw [hr] at this
    exact Option.some.inj this
  have hr' : FP.fcmp a b = some r := hr
  rw [e94_0, e94_1, e94_2, hr', e94_3]
  unfold lsF
  cases r with
  | lt => rw [if_neg (show ¬ (0 : Int32) ≤ Op.cmpValue (some .lt) .g by decide), if_pos (lt.mp rfl), e94_6, e94_7, e94_11]
  | eq => rw [if_pos (show (0 : Int32) ≤ Op.cmpValue (some .eq) .g by decide), if_neg (show ¬ Zf a < Zf b from fun z => by cases lt.mpr z), e94_10, e94_11]
  | gt => rw [if_pos (show (0 : Int32) ≤ Op.cmpValue (some .gt) .g by decide), if_neg (show ¬ Zf a < Zf b from fun z => by cases lt.mpr z), e94_10, e94_11]
theorem c_lengthOf {p m : Nat} (hp : p < 2048) (hm : m < 6) : mW (mRo L xs) mTab 93 0 [some (.int (Int32.ofNat p)), some (.int (Int32.ofNat m))] [] h k = some (.inl (some (.float (lenF p m))), h, k) := by
  have e03 : (Int32.ofNat m = 0 ∨ Int32.ofNat m = 3) ↔ m % 3 = 0 := by
    obtain rfl | rfl | rfl | rfl | rfl | rfl : m = 0 ∨ m = 1 ∨ m = 2 ∨ m = 3 ∨ m = 4 ∨ m = 5 := by omega
    all_goals decide
  have ev : (Int32.ofNat (p / 256) &&& 1 = 0) ↔ p / 256 % 2 = 0 := by
    have h8 : p / 256 < 8 := by omega
    generalize p / 256 = g at *
    obtain rfl | rfl | rfl | rfl | rfl | rfl | rfl | rfl : g = 0 ∨ g = 1 ∨ g = 2 ∨ g = 3 ∨ g = 4 ∨ g = 5 ∨ g = 6 ∨ g = 7 := by omega
    all_goals decide
  rw [e93_0, e93_1 (by simp [Value.category]), c_isArc]
  simp only [mAft, Option.toList_some, List.cons_append, List.nil_append]
  rw [e93_4]
  unfold lenF
  by_cases h3 : m % 3 = 0
  · rw [if_pos (e03.mpr h3), if_pos rfl, if_pos h3, e93_10, e93_11 (by simp [Value.category]), c_headingOf, (ph_eq hp).1]
    simp only [mAft, Option.toList_some, List.cons_append, List.nil_append]
    rw [e93_14 (by simp [Value.category]), c_isEven]
    simp only [mAft, Option.toList_some, List.cons_append, List.nil_append]
    rw [e93_17]
    by_cases he : p / 256 % 2 = 0
    · rw [if_pos he, pB_pos (ev.mpr he), if_neg (by decide), e93_20, e93_21, e93_26]
    · rw [if_neg he, pB_neg (fun z => he (ev.mp z)), if_pos rfl, e93_24, e93_26]
  · rw [if_neg (fun z => h3 (e03.mp z)), if_neg (by decide), if_neg h3, e93_7, e93_9]
end
