section
theorem pk_ok {v : UInt32} (hv : Fok v) : 0 ≤ (FP.f2i v).toInt ∧ (FP.f2i v).toInt ≤ 10000 ∧ Zf v < ((FP.f2i v).toInt + 1) * (FP.Core.one32 : Int) := by
  obtain ⟨h1, h2, h3⟩ := hv
  have e := FP.Core.f2i_val h1.ne_nan
  have op : 0 < FP.Core.one32 := FP.Core.one32_pos
  unfold Zf FP.Core.zval FP.Core.signed at h2 h3 ⊢
  unfold FP.Core.signed at e
  unfold Mx at h3
  generalize FP.Core.zmag FP.Core.b32 (FP.Core.val32 v) = z at *
  generalize FP.Core.sgn (FP.Core.val32 v) = sg at *
  generalize FP.Core.one32 = one at *
  have dm := Nat.div_add_mod z one
  have ml := Nat.mod_lt z op
  cases sg
  · simp only [Bool.false_eq_true, if_false] at e h2 h3 ⊢
    have q1 : z / one ≤ 10000 := by
      refine Classical.byContradiction fun y => ?_
      have : 10001 * one ≤ one * (z / one) := by
        rw [Nat.mul_comm one]
        exact Nat.mul_le_mul_right one (by omega)
      have h4 : z ≤ 10000 * one := by omega
      omega
    have e2 : (FP.f2i v).toInt = ((z / one : Nat) : Int) := by
      clear dm ml h2 h3
      generalize z / one = w at *
      rw [e, Int.min_eq_right (by omega), Int.max_eq_right (by omega)]
    rw [e2]
    refine ⟨Int.natCast_nonneg _, by clear dm ml h2 h3 e e2; generalize z / one = w at *; omega, ?_⟩
    have : z < (z / one + 1) * one := by
      rw [Nat.add_mul, Nat.one_mul, Nat.mul_comm (z / one)]
      omega
    exact_mod_cast this
  · simp only [if_true] at e h2 h3 ⊢
    have z0 : z = 0 := by omega
    subst z0
    rw [Nat.zero_div] at e
    have e2 : (FP.f2i v).toInt = 0 := by rw [e]; decide
    rw [e2]
    refine ⟨by omega, by omega, ?_⟩
    omega
theorem sp_lt {s v : UInt32} (hs : Fok s) (hv : Fok v) (h : Zf s ≤ Zf v) : FP.Core.val32 (FP.fadd 1065353216 (FP.i2f (FP.f2i v))) ≠ FP.Core.Datum.nan ∧ FP.fcmp s (FP.fadd 1065353216 (FP.i2f (FP.f2i v))) = some .lt := by
  obtain ⟨p1, p2, p3⟩ := pk_ok hv
  have i1 : FP.Core.FInt 1 1065353216 := by
    have := FP.Core.i2f_int (a := 1) (by decide)
    rw [show FP.Core.i2f 1 = 1065353216 by decide +kernel] at this
    exact this
  have i2 := FP.Core.fadd_int i1 (FP.Core.i2f_int (a := FP.f2i v) (by omega)) (by omega)
  have nn := FP.Core.FInt_ne_nan i2
  refine ⟨nn, FP.Core.fcmp_lt.mpr ⟨hs.1.ne_nan, nn, ?_⟩⟩
  rw [FP.Core.FInt_zval i2, Int.add_comm 1]
  exact Int.lt_of_le_of_lt h p3
theorem fz_eq {s : UInt32} (hs : Fok s) (h : Zf s = 0) : FP.fcmp s 0 = some .eq := by
  obtain ⟨r, hr⟩ := FP.Core.fcmp_of_notNaN ((FP.Core.notNaN_iff32 s).mpr hs.1.ne_nan) ((FP.Core.notNaN_iff32 0).mpr fok_zero.1.ne_nan)
  have hr' : FP.fcmp s 0 = some r := hr
  rw [hr']
  cases r with
  | lt =>
    have := (FP.Core.fcmp_lt.mp hr).2.2
    rw [FP.Core.zval32_zero] at this
    have h2 : FP.Core.zval FP.Core.b32 (FP.Core.val32 s) = 0 := h
    omega
  | eq => rfl
  | gt =>
    have := (FP.Core.fcmp_gt.mp hr).2.2
    rw [FP.Core.zval32_zero] at this
    have h2 : FP.Core.zval FP.Core.b32 (FP.Core.val32 s) = 0 := h
    omega
theorem fz_gt {s : UInt32} (hs : Fok s) (h : 0 < Zf s) : FP.fcmp s 0 = some .gt :=
  FP.Core.fcmp_gt.mpr ⟨hs.1.ne_nan, fok_zero.1.ne_nan, by rw [FP.Core.zval32_zero]; exact h⟩
theorem fc_out : FP.fcmp 3379831824 3379831824 = some .eq := by decide +kernel
/-- poses as they are told -/
theorem ck_told : allP (fun p => allB 1 fun _ => decide ((1000 : Int32) * Int32.ofNat (p / 256) + 16 * Int32.ofNat (p / 16 % 16) + Int32.ofNat (p % 16) = Int32.ofNat (1000 * (p / 256) + p % 256) ∧ told p = Int32.ofNat (1000 * (p / 256) + p % 256))) = true := by decide +kernel
theorem told_eq {p : Nat} (hp : p < 2048) : (1000 : Int32) * Int32.ofNat (p / 256) + 16 * Int32.ofNat (p / 16 % 16) + Int32.ofNat (p % 16) = told p ∧ told p = Int32.ofNat (1000 * (p / 256) + p % 256) := by
  obtain ⟨a, b⟩ := of_decide_eq_true (allB_get (allP_get ck_told hp) 0 (by decide))
  exact ⟨a.trans b.symm, b⟩
theorem told_inj {p q : Nat} (hp : p < 2048) (hq : q < 2048) (h : told p = told q) : p = q := by
  rw [(told_eq hp).2, (told_eq hq).2] at h
  have := congrArg Int32.toNatClampNeg h
  rw [oi_nat (by omega), oi_nat (by omega)] at this
  omega
theorem ck_seg : allB 6 (fun b => allB 100 fun a => decide ((100 * Int32.ofNat b + Int32.ofNat a) / 100 = Int32.ofNat b ∧ 100 * Int32.ofNat b + Int32.ofNat a - (100 * Int32.ofNat b + Int32.ofNat a) / 100 * 100 = Int32.ofNat a)) = true := by decide +kernel
theorem seg_int {b a : Nat} (hb : b < 6) (ha : a < 100) : (100 * Int32.ofNat b + Int32.ofNat a) / 100 = Int32.ofNat b ∧ 100 * Int32.ofNat b + Int32.ofNat a - (100 * Int32.ofNat b + Int32.ofNat a) / 100 * 100 = Int32.ofNat a :=
  of_decide_eq_true (allB_get (allB_get ck_seg b hb) a ha)
/-- segments -/
theorem nSeg_app : ∀ (E : List (Nat × Nat)) (l : Option Nat) (F : List (Nat × Nat)), nSeg l (E ++ F) = nSeg l E + nSeg (Sho.lst l E) F
  | [], l, F => by rw [List.nil_append, nSeg, Nat.zero_add]; rfl
  | x :: E, l, F => by
    rw [List.cons_append, nSeg, nSeg, nSeg_app E (some x.1) F, Nat.add_assoc]
    rfl
theorem nSeg_same {m : Nat} : ∀ (A : List (Nat × Nat)), (∀ x ∈ A, x.1 = m) → nSeg (some m) A = 0
  | [], _ => rfl
  | x :: A, h => by
    have hx := h x List.mem_cons_self
    rw [nSeg, hx, if_pos rfl, nSeg_same A (fun y hy => h y (List.mem_cons_of_mem _ hy))]
theorem nSeg_le : ∀ (T : List (Nat × Nat)) (l : Option Nat), nSeg l T ≤ T.length
  | [], _ => Nat.le_refl _
  | x :: T, l => by
    rw [nSeg, List.length_cons]
    have := nSeg_le T (some x.1)
    split <;> omega
theorem nCus_le : ∀ (T : List (Nat × Nat)) (l : Option Nat), nCus l T ≤ nSeg l T
  | [], _ => Nat.le_refl _
  | x :: T, l => by
    rw [nSeg, nCus]
    have := nCus_le T (some x.1)
    by_cases z : l = some x.1
    · have e : tcN 1 l (some x.1) = 0 := by rw [z]; unfold tcN; dsimp only; rw [if_pos rfl]
      rw [if_pos z, if_pos e]
      omega
    · rw [if_neg z]
      split <;> omega
theorem nCus_lt {T : List (Nat × Nat)} (h : T ≠ []) : nCus none T < nSeg none T := by
  cases T with
  | nil => exact absurd rfl h
  | cons x T =>
    rw [nSeg, nCus, if_pos (show tcN 1 none (some x.1) = 0 from rfl), if_neg (fun z => by cases z)]
    have := nCus_le T (some x.1)
    omega
theorem sg_at {i : Nat} {b : Nat × Nat} {B : List (Nat × Nat)} : ∀ (E : List (Nat × Nat)) (l : Option Nat) (c a : Nat), c + nSeg l E = i → Sho.lst l E ≠ some b.1 → sgA i l (E ++ b :: B) c a = some (a + E.length)
  | [], l, c, a, h, hl => by
    rw [nSeg] at h
    rw [List.nil_append, sgA, if_neg (show ¬ l = some b.1 from hl), if_pos (by omega)]
    rfl
  | x :: E, l, c, a, h, hl => by
    rw [nSeg] at h
    rw [List.cons_append, sgA, if_neg (by omega), sg_at E (some x.1) _ (a + 1) (by omega) hl, List.length_cons]
    congr 1
    omega
theorem sg_none {i : Nat} : ∀ (B : List (Nat × Nat)) (l : Option Nat) (c a : Nat), c + nSeg l B ≤ i → sgA i l B c a = none
  | [], _, _, _, _ => rfl
  | x :: B, l, c, a, h => by
    rw [nSeg] at h
    rw [sgA, if_neg (by omega)]
    exact sg_none B _ _ _ (by omega)
theorem alk_cut {m : Nat} : ∀ (B : List (Nat × Nat)), ∃ A C, B = A ++ C ∧ A.length = alk m B ∧ (∀ x ∈ A, x.1 = m) ∧ Sho.hd C ≠ some m
  | [] => ⟨[], [], rfl, rfl, fun x hx => (List.not_mem_nil hx).elim, fun z => by cases z⟩
  | b :: B => by
    by_cases z : b.1 = m
    · obtain ⟨A, C, h1, h2, h3, h4⟩ := alk_cut (m := m) B
      refine ⟨b :: A, C, by rw [h1]; rfl, by rw [List.length_cons, h2, alk, if_pos z], fun x hx => ?_, h4⟩
      rcases List.mem_cons.1 hx with y | y
      · rw [y]; exact z
      · exact h3 x y
    · exact ⟨[], b :: B, rfl, by rw [alk, if_neg z]; rfl, fun x hx => (List.not_mem_nil hx).elim, fun y => z (Option.some.inj y)⟩
theorem lst_app : ∀ (E F : List (Nat × Nat)) (l : Option Nat), Sho.lst l (E ++ F) = Sho.lst (Sho.lst l E) F
  | [], F, l => rfl
  | x :: E, F, l => lst_app E F (some x.1)
theorem lst_all {m : Nat} : ∀ (A : List (Nat × Nat)) (l : Option Nat), (∀ x ∈ A, x.1 = m) → A ≠ [] → Sho.lst l A = some m
  | [], _, _, h => absurd rfl h
  | [x], l, h, _ => by show some x.1 = some m; rw [h x List.mem_cons_self]
  | x :: y :: A, l, h, _ => lst_all (y :: A) (some x.1) (fun z hz => h z (List.mem_cons_of_mem _ hz)) (by simp)
/-- the segment that comes next -/
theorem seg_next {q : Nat} {T E B : List (Nat × Nat)} {b : Nat × Nat} (hP : PI q T) (hT : T = E ++ b :: B) (hl : Sho.lst none E ≠ some b.1) : ∃ A C, b :: B = A ++ C ∧ A.length = alk b.1 (b :: B) ∧ 0 < alk b.1 (b :: B) ∧ alk b.1 (b :: B) < 100 ∧ nSeg none (E ++ A) = nSeg none E + 1 ∧ Sho.lst none (E ++ A) = some b.1 ∧ Sho.hd C ≠ some b.1 := by
  obtain ⟨A, C, h1, h2, h3, h4⟩ := alk_cut (m := b.1) (b :: B)
  have pos : 0 < alk b.1 (b :: B) := by rw [alk, if_pos rfl]; omega
  cases A with
  | nil => rw [← h2] at pos; exact absurd pos (Nat.lt_irrefl _)
  | cons a A =>
    have ha : a.1 = b.1 := h3 a List.mem_cons_self
    refine ⟨a :: A, C, h1, h2, pos, ?_, ?_, ?_, h4⟩
    · rw [← h2]
      exact hP.2.2.2.2.1 E (a :: A) C b.1 (by rw [hT, h1]) h3
    · rw [nSeg_app, nSeg, ha, if_neg hl, nSeg_same A (fun x hx => h3 x (List.mem_cons_of_mem _ hx))]
    · rw [lst_app]
      exact lst_all (a :: A) _ h3 (by simp)
/-- draws -/
def lw (v : Int32) (n : Nat) : Nat := (v &&& 2147483647).toNatClampNeg % n
theorem and_pos (v : Int32) : ∃ m, m < 2 ^ 31 ∧ v &&& 2147483647 = Int32.ofNat m := by
  have h : (v &&& 2147483647).toInt = (v.toUInt32.toNat % 2 ^ 31 : Nat) := by
    have e : (v &&& 2147483647).toUInt32 = v.toUInt32 &&& 2147483647 := rfl
    have e2 : (v &&& 2147483647).toUInt32.toNat = v.toUInt32.toNat % 2 ^ 31 := by
      rw [e, UInt32.toNat_and]
      exact Nat.and_two_pow_sub_one_eq_mod _ 31
    have e3 : (v &&& 2147483647).toBitVec.toNat = v.toUInt32.toNat % 2 ^ 31 := e2
    have lt := Nat.mod_lt v.toUInt32.toNat (show 0 < 2 ^ 31 by decide)
    show (v &&& 2147483647).toBitVec.toInt = _
    rw [BitVec.toInt_eq_toNat_cond, e3, if_pos (by omega)]
  refine ⟨v.toUInt32.toNat % 2 ^ 31, Nat.mod_lt _ (by decide), ?_⟩
  refine Int32.toInt.inj ?_
  rw [h, oi_int (Nat.mod_lt _ (by decide))]
theorem oi_mod {m n : Nat} (hm : m < 2 ^ 31) (hn : n < 2 ^ 31) (h0 : n ≠ 0) : Int32.ofNat m - Int32.ofNat m / Int32.ofNat n * Int32.ofNat n = Int32.ofNat (m % n) := by
  have d : Int32.ofNat m / Int32.ofNat n = Int32.ofNat (m / n) := by
    refine Int32.toInt.inj ?_
    have hq : m / n < 2 ^ 31 := Nat.lt_of_le_of_lt (Nat.div_le_self _ _) hm
    rw [oi_int hq, Int32.toInt_div, oi_int hm, oi_int hn]
    have e : ((m : Int).tdiv (n : Int)) = ((m / n : Nat) : Int) := by rw [Int.natCast_ediv]; exact Int.tdiv_eq_ediv_of_nonneg (Int.natCast_nonneg _)
    rw [e]
    clear e
    generalize m / n = d at *
    exact Int.bmod_eq_of_le (by omega) (by omega)
  rw [d, ← oi_mul]
  have e := Nat.div_add_mod m n
  rw [Nat.mul_comm] at e
  conv => lhs; arg 1; rw [← e, oi_add]
  rw [Int32.add_comm]
  exact Int32.add_sub_cancel _ _
variable {L : Nat} {xs : Nat → Int32} {k : Nat} {h : List mCel}
theorem c_low {v : Int32} {n : Nat} (hn : n < 2 ^ 31) (h0 : n ≠ 0) : mW (mRo L xs) mTab 173 0 [some (.int v), some (.int (Int32.ofNat n))] [] h k = some (.inl (some (.int (Int32.ofNat (lw v n)))), h, k) := by
  obtain ⟨m, hm, e⟩ := and_pos v
  have nz : ¬ Int32.ofNat n = 0 := fun z => by
    have := congrArg Int32.toInt z
    rw [oi_int hn] at this
    have h2 : (0 : Int32).toInt = 0 := rfl
    omega
  have l : lw v n = m % n := by unfold lw; rw [e, oi_nat hm]
  rw [e173_0, e173_1, e173_3, e173_4, e173_5 nz, e173_6, e, oi_mod hm hn h0, l]
theorem lw_lt {v : Int32} {n : Nat} (h0 : 0 < n) : lw v n < n := Nat.mod_lt _ h0
theorem c_told {p : Nat} (hp : p < 2048) : mW (mRo L xs) mTab 188 0 [some (.int (Int32.ofNat (p % 16))), some (.int (Int32.ofNat (p / 16 % 16))), some (.int (Int32.ofNat (p / 256)))] [] h k = some (.inl (some (.int (told p))), h, k) := by
  rw [e188_0, e188_3, e188_4, e188_5, e188_7, e188_8, e188_9, e188_10, e188_11, e188_12, (told_eq hp).1]
end
