section
variable {e : Nat → Nat → Nat} {wt : Nat → Nat → Nat → Nat} {cu rv q m : Nat} {N : Nat → Nat → Nat}
/-- what is left behind some moves -/
def labN (N : Nat → Nat → Nat) : Nat → List (Nat × Nat) → Nat
  | c, [] => c
  | _, a :: A => labN N (N 0 (a.2 + 2048 * gear a.1)) A
theorem tr_snoc : ∀ (A : List (Nat × Nat)) (l : Option Nat) (p c : Nat) (a : Nat × Nat), TrL e wt cu rv q N l p c A → Sho.fin p A ≠ q → a.1 < 3 + 3 * rv → e (Sho.fin p A) a.1 = a.2 + 1 → a.2 < 2048 → wt (Sho.fin p A) a.1 a.2 + tcN cu (Sho.lst l A) (some a.1) + N 0 (a.2 + 2048 * gear a.1) = labN N c A → TrL e wt cu rv q N l p c (A ++ [a])
  | [], l, p, c, a, _, h1, h2, h3, h4, h5 => ⟨h1, h2, h3, h4, h5, trivial⟩
  | b :: A, l, p, c, a, ⟨t1, t2, t3, t4, t5, t6⟩, h1, h2, h3, h4, h5 => ⟨t1, t2, t3, t4, t5, tr_snoc A (some b.1) b.2 _ a t6 h1 h2 h3 h4 h5⟩
theorem lab_snoc : ∀ (A : List (Nat × Nat)) (c : Nat) (a : Nat × Nat), labN N c (A ++ [a]) = N 0 (a.2 + 2048 * gear a.1)
  | [], _, _ => rfl
  | b :: A, c, a => lab_snoc A _ a
theorem tr_lab (HL : geoL e) (HS : geoS e) (hrv : rv < 2) (hm : m < 536870912) (h10 : ∀ p a x, 10 ≤ wt p a x) (LB : gLab (adjS e wt cu rv 1) (seedS q rv) N m) : ∀ (A : List (Nat × Nat)) (l : Option Nat) (p c : Nat), Gd e wt cu rv q m l p c → TrL e wt cu rv q N l p c A → Gd e wt cu rv q m (Sho.lst l A) (Sho.fin p A) (labN N c A)
  | [], l, p, c, G, _ => G
  | a :: A, l, p, c, G, ⟨h1, h2, h3, h4, h5, h6⟩ => tr_lab HL HS hrv hm h10 LB A (some a.1) a.2 _ (gd_next HL HS hrv hm h10 LB G h2 h3 h4 h5).1 h6
theorem tr_ok : ∀ (A : List (Nat × Nat)) (l : Option Nat) (p c : Nat), rv < 2 → TrL e wt cu rv q N l p c A → ∀ x ∈ A, x.1 < 6 ∧ x.2 < 2048
  | [], _, _, _, _, _ => fun x hx => (List.not_mem_nil hx).elim
  | a :: A, l, p, c, hrv, ⟨h1, h2, h3, h4, h5, h6⟩ => fun x hx => (List.mem_cons.mp hx).elim (fun z => z ▸ ⟨by omega, h4⟩) (tr_ok A _ _ _ hrv h6 x)
theorem sp_lt2 : ∀ (T : List (Nat × Nat)) (q : Nat), q < 2048 → (∀ x ∈ T, x.1 < 6 ∧ x.2 < 2048) → ∀ y ∈ Sho.sp q T, y < 2048
  | [], _, _, _ => fun y hy => (List.not_mem_nil hy).elim
  | a :: T, q, hq, hT => fun y hy => by
    rw [Sho.sp, List.mem_cons] at hy
    rcases hy with z | z
    · rw [z]; exact hq
    · exact sp_lt2 T a.2 (hT a List.mem_cons_self).2 (fun x hx => hT x (List.mem_cons_of_mem _ hx)) y z
theorem sum_one (N : Nat) : Sho.sumTo (fun _ => 1) N = N := by
  induction N with
  | zero => rfl
  | succ n ih => rw [Sho.sumTo, ih]
theorem map_one (Y : List Nat) : (Y.map fun _ => 1).sum = Y.length := by
  induction Y with
  | nil => rfl
  | cons a Y ih => rw [List.map_cons, List.sum_cons, ih, List.length_cons, Nat.add_comm]
theorem tr_avoid : ∀ (T : List (Nat × Nat)) (l : Option Nat) (p c : Nat), TrL e wt cu rv q N l p c T → q ∉ Sho.sp p T
  | [], _, _, _, _ => List.not_mem_nil
  | a :: T, l, p, c, ⟨h1, h2, h3, h4, h5, h6⟩ => fun hz => (List.mem_cons.mp hz).elim (fun z => h1 z.symm) (tr_avoid T _ _ _ h6)
theorem tr_len {p c : Nat} {l : Option Nat} {T : List (Nat × Nat)} (HL : geoL e) (HS : geoS e) (hrv : rv < 2) (hq : q < 2048) (hm : m < 536870912) (h10 : ∀ p a x, 10 ≤ wt p a x) (LB : gLab (adjS e wt cu rv 1) (seedS q rv) N m) (G : Gd e wt cu rv q m l p c) (h : TrL e wt cu rv q N l p c T) : T.length ≤ 2047 := by
  have nd := tr_nodup HL HS hrv hm h10 LB T l p c G h
  have := Sho.nodup_sum (fun _ => 1) 2048 (q :: Sho.sp p T) (List.nodup_cons.2 ⟨tr_avoid T l p c h, nd⟩) (fun y hy => (List.mem_cons.mp hy).elim (fun z => z ▸ hq) (sp_lt2 T p G.1 (tr_ok T l p c hrv h) y))
  rw [sum_one, map_one, List.length_cons, Sho.sp_len] at this
  omega
variable {L : Nat} {xs : Nat → Int32} {k : Nat} {ad : Nat → Nat} {w F P op cl rt p0 : Nat} {fw fF : List Value} {mg : Int32} {fo fc : Nat → Int32}
/-- the cells that a search reads and writes -/
def wCs (ad : Nat → Nat) (w F P op cl : Nat) : List Nat := [w, F, P, op, cl, ad 0, ad 1, ad 2, ad 3, ad 4]
theorem w_new {h h' : List mCel} {pa ma pa' ma' : Nat} (W : wH ad w F P op cl fw fF (Int32.ofNat cu) mg fo fc h) (Q : qH ad N h) (D : Dj [rt, pa, ma] (wCs ad w F P op cl)) (x : mExt (fun a => a = rt ∨ a = pa ∨ a = ma) h h') (h1 : pa' = pa ∨ 8 + h.length ≤ pa') (h2 : ma' = ma ∨ 8 + h.length ≤ ma') :
    wH ad w F P op cl fw fF (Int32.ofNat cu) mg fo fc h' ∧ qH ad N h' ∧ Dj [rt, pa', ma'] (wCs ad w F P op cl) := by
  obtain ⟨⟨a1, a2⟩, ⟨b1, b2⟩, cP, cO, cC, nn⟩ := W
  have n3 : ∀ y, y ∈ wCs ad w F P op cl → ¬ (y = rt ∨ y = pa ∨ y = ma) := fun y hy z => by rcases z with z | z | z <;> exact D _ (by simp) y hy z.symm
  have kp : ∀ y c, y ∈ wCs ad w F P op cl → mCell h y = some c → mCell h' y = some c := fun y c hy hc => (x.2 y (by have := cell_8 hc; omega) (n3 y hy)).trans hc
  have lt : ∀ y, y ∈ wCs ad w F P op cl → y < 8 + h.length := by
    intro y hy
    have : ∃ c, mCell h y = some c := by
      unfold wCs at hy
      simp only [List.mem_cons, List.not_mem_nil, or_false] at hy
      rcases hy with z | z | z | z | z | z | z | z | z | z <;> rw [z]
      · exact ⟨_, a1⟩
      · exact ⟨_, b1⟩
      · exact ⟨_, cP⟩
      · exact ⟨_, cO⟩
      · exact ⟨_, cC⟩
      · exact ⟨_, Q.1 0 (by decide)⟩
      · exact ⟨_, Q.1 1 (by decide)⟩
      · exact ⟨_, Q.1 2 (by decide)⟩
      · exact ⟨_, Q.1 3 (by decide)⟩
      · exact ⟨_, Q.2.1⟩
    obtain ⟨c, hc⟩ := this
    have := cell_8 hc
    omega
  refine ⟨⟨⟨kp _ _ (by simp [wCs]) a1, a2⟩, ⟨kp _ _ (by simp [wCs]) b1, b2⟩, kp _ _ (by simp [wCs]) cP, kp _ _ (by simp [wCs]) cO, kp _ _ (by simp [wCs]) cC, nn⟩, ⟨fun r hr => kp _ _ ?_ (Q.1 r hr), kp _ _ (by simp [wCs]) Q.2.1, Q.2.2⟩, fun a ha y hy => ?_⟩
  · obtain rfl | rfl | rfl | rfl : r = 0 ∨ r = 1 ∨ r = 2 ∨ r = 3 := by omega
    all_goals simp [wCs]
  · simp only [List.mem_cons, List.not_mem_nil, or_false] at ha
    rcases ha with z | z | z
    · rw [z]; exact D _ (by simp) y hy
    · rw [z]; exact ne_new h1 (D _ (by simp) y hy) (lt y hy)
    · rw [z]; exact ne_new h2 (D _ (by simp) y hy) (lt y hy)
theorem tr_hz {a0 a1 a2 b0 b1 b2 : Nat} (h1 : a1 + b0 = a0 + b1) (h2 : a2 + b1 = a1 + b2) : a2 + b0 = a0 + b2 := by omega
theorem tr_ln {l0 l1 l2 e0 e1 e2 : Nat} (h1 : l1 = l0 + 2 * (e1 - e0)) (h2 : l2 = l1 + 2 * (e2 - e1)) (a1 : e0 ≤ e1) (a2 : e1 ≤ e2) : l2 = l0 + 2 * (e2 - e0) := by omega
theorem grow_two {e0 e1 e2 n : Nat} (a : e1 = e0 ∨ 64 * 2 ^ e0 ≤ n + 1 ∧ e1 = e0 + 1) (b : e2 = e1 ∨ 64 * 2 ^ (e2 - 1) ≤ 2047) (hn : n + 1 ≤ 2047) : e2 = e0 ∨ 64 * 2 ^ (e2 - 1) ≤ 2047 := by
  rcases b with b | b
  · rcases a with a | ⟨a, a'⟩
    · exact Or.inl (b.trans a)
    · right
      rw [b, a', Nat.add_sub_cancel]
      exact Nat.le_trans a hn
  · exact Or.inr b
theorem trace_loop (HE : geoE fo e) (HW : geoW fc mg wt) (HL : geoL e) (HS : geoS e) (hcu : cu ≤ 100) (hrv : rv < 2) (hq : q < 2048) (hm : m < 1000000) (h10 : ∀ p a x, 10 ≤ wt p a x) (LB : gLab (adjS e wt cu rv 1) (seedS q rv) N m) (G : Gd e wt cu rv q m none p0 m) (o : qOk N) (hrt : fw[3]? = some (.ref rt)) (n : Nat) :
    ∀ (E : List (Nat × Nat)) (pa ma e0 : Nat) (h : List mCel) (l6 l7 : Option Value), labN N m E ≤ n → TrL e wt cu rv q N none p0 m E → RT rt pa ma e0 p0 E h → qH ad N h → wH ad w F P op cl fw fF (Int32.ofNat cu) mg fo fc h → Dj [rt, pa, ma] (wCs ad w F P op cl) →
    ∃ h' pa' ma' e' T, mW (mRo L xs) mTab 154 40 [some (.ref w), some (.int (Int32.ofNat p0)), some (.int (Int32.ofNat q)), some (.int (Int32.ofNat rv)), some (.int (Int32.ofNat (labN N m E))), some (.int (Int32.ofNat E.length)), l6, l7] [] h k = some (.inl (some (.ref rt)), h', k) ∧
      RT rt pa' ma' e' p0 T h' ∧ TrL e wt cu rv q N none p0 m T ∧ Sho.fin p0 T = q ∧ e0 ≤ e' ∧ h'.length = h.length + 2 * (e' - e0) ∧ hz h' + 256 * 2 ^ e0 = hz h + 256 * 2 ^ e' ∧ mExt (fun a => a = rt ∨ a = pa ∨ a = ma) h h' ∧ (pa' = pa ∨ 8 + h.length ≤ pa') ∧ (ma' = ma ∨ 8 + h.length ≤ ma') ∧ (e' = e0 ∨ 64 * 2 ^ (e' - 1) ≤ 2047) := by
  have hm2 : m < 536870912 := by omega
  induction n with
  | zero =>
    intro E pa ma e0 h l6 l7 hn TR R Q W D
    have GE := tr_lab HL HS hrv hm2 h10 LB E none p0 m G TR
    have okE := tr_ok E none p0 m hrv TR
    have fE := fin_lt G.1 okE
    have lE := tr_len HL HS hrv hq hm2 h10 LB G TR
    have rk := kR_eq R.2.choose_spec.choose_spec.1.1
    have fq : Sho.fin p0 E = q := Classical.byContradiction fun z => by
      obtain ⟨v, x, a1, a2, a3, a4⟩ := gd_step HL HS hrv hq hm2 h10 LB GE z
      have := h10 (Sho.fin p0 E) v x
      omega
    have out : mW (mRo L xs) mTab 154 129 [some (.ref w), some (.int (Int32.ofNat p0)), some (.int (Int32.ofNat q)), some (.int (Int32.ofNat rv)), some (.int (Int32.ofNat (labN N m E))), some (.int (Int32.ofNat E.length)), l6, l7] [] h k = some (.inl (some (.ref rt)), h, k) := by
      rw [e154_129, e154_130, kF_eq W.1.1 hrt, e154_133]
    refine ⟨h, pa, ma, e0, E, ?_, R, TR, fq, Nat.le_refl _, by rw [Nat.sub_self]; rfl, rfl, ext_refl, Or.inl rfl, Or.inl rfl, Or.inl rfl⟩
    rw [e154_40, e154_42, e154_45]
    by_cases g : (2048 : Int32) ≤ Int32.ofNat E.length
    · rw [if_pos g]; exact out
    · rw [if_neg g, e154_48, e154_49, kF_eq W.1.1 hrt, e154_52 rk (by simp), rt_lastPose R]
      simp only [mAft, Option.toList_some, List.cons_append, List.nil_append]
      rw [e154_55, e154_56, fq, if_pos rfl]
      exact out
  | succ n IH =>
    intro E pa ma e0 h l6 l7 hn TR R Q W D
    have GE := tr_lab HL HS hrv hm2 h10 LB E none p0 m G TR
    have okE := tr_ok E none p0 m hrv TR
    have fE := fin_lt G.1 okE
    have lE := tr_len HL HS hrv hq hm2 h10 LB G TR
    have rk := kR_eq R.2.choose_spec.choose_spec.1.1
    have out : mW (mRo L xs) mTab 154 129 [some (.ref w), some (.int (Int32.ofNat p0)), some (.int (Int32.ofNat q)), some (.int (Int32.ofNat rv)), some (.int (Int32.ofNat (labN N m E))), some (.int (Int32.ofNat E.length)), l6, l7] [] h k = some (.inl (some (.ref rt)), h, k) := by
      rw [e154_129, e154_130, kF_eq W.1.1 hrt, e154_133]
    by_cases fq : Sho.fin p0 E = q
    · refine ⟨h, pa, ma, e0, E, ?_, R, TR, fq, Nat.le_refl _, by rw [Nat.sub_self]; rfl, rfl, ext_refl, Or.inl rfl, Or.inl rfl, Or.inl rfl⟩
      rw [e154_40, e154_42, e154_45]
      by_cases g : (2048 : Int32) ≤ Int32.ofNat E.length
      · rw [if_pos g]; exact out
      · rw [if_neg g, e154_48, e154_49, kF_eq W.1.1 hrt, e154_52 rk (by simp), rt_lastPose R]
        simp only [mAft, Option.toList_some, List.cons_append, List.nil_append]
        rw [e154_55, e154_56, fq, if_pos rfl]
        exact out
    · obtain ⟨v, x, s1, s2, s3, s4⟩ := gd_step HL HS hrv hq hm2 h10 LB GE fq
      have lab_le := GE.2.1
      -- one more fits
      have l2047 : E.length < 2047 := by
        have := tr_len HL HS hrv hq hm2 h10 LB G (tr_snoc E none p0 m (v, x) TR fq s1 s2 s3 s4)
        rw [List.length_append, List.length_singleton] at this
        omega
      have l2046 : E.length + 1 ≤ 2047 := by omega
      have n1 : ¬ ((2048 : Int32) ≤ Int32.ofNat E.length) := by
        rw [show (2048 : Int32) = Int32.ofNat 2048 from rfl, oi_le (by decide) (by omega)]; omega
      have n2 : ¬ Int32.ofNat (Sho.fin p0 E) = Int32.ofNat q := fun z => fq (by
        have := congrArg Int32.toInt z
        rw [oi_int (by omega), oi_int (by omega)] at this
        omega)
      obtain ⟨u, u1, u2, u3, u4⟩ := c_lowestM (L := L) (xs := xs) (k := k) HE HW hcu fE (by omega : labN N m E < 1000000) hrv Q o W hrt R okE rfl
      have u0 : u ≠ 0 := fun z => u3 z v s1 ⟨by omega, by rw [s2, Nat.add_sub_cancel]; exact s4⟩
      obtain ⟨u5, u6, u7⟩ := u4 u0
      have E2 := (HE (Sho.fin p0 E) (u - 1) fE (by omega)).2
      have E1 := (HE (Sho.fin p0 E) (u - 1) fE (by omega)).1
      generalize hx' : e (Sho.fin p0 E) (u - 1) - 1 = x' at *
      have ex : e (Sho.fin p0 E) (u - 1) = x' + 1 := by omega
      have hx8 : x' < 2048 := by omega
      have en : pEnded (Int32.ofNat (Sho.fin p0 E)) (Int32.ofNat (u - 1)) = Int32.ofNat x' := by
        rw [ended_eq (fo := fo) (by rw [E1, enc_eq (by omega)]; omega), E1, dec_put u6, hx']
      have TR2 := tr_snoc E none p0 m (u - 1, x') TR fq u5 ex hx8 u7
      have nx := (gd_next HL HS hrv hm2 h10 LB GE u5 ex hx8 u7).2
      obtain ⟨h1, pa1, ma1, e1, A1, A2, A3, A4, A5, A6, A7, A8, A9⟩ := rt_add2 (L := L) (xs := xs) (k := k) R (m := u - 1) (p := x') (by omega)
      obtain ⟨W1, Q1, D1⟩ := w_new W Q D A6 A7 A8
      have gu := gear_lt (u - 1)
      have s8 : x' + 2048 * gear (u - 1) < 4096 := by omega
      have hgb : (if Int32.ofNat (u - 1) < 3 then (0 : Int32) else 1) = Int32.ofNat (gear (u - 1)) := by
        simp only [oi_lt3 (show u - 1 < 2 ^ 31 by omega)]; unfold gear; split <;> rfl
      obtain ⟨h2, pa2, ma2, e2, T, B1, B2, B3, B4, B5, B6, B7, B8, B9, B10, B11⟩ := IH (E ++ [(u - 1, x')]) pa1 ma1 e1 h1 (some (.int (Int32.ofNat (u - 1)))) (some (.int (Int32.ofNat x'))) (by rw [lab_snoc]; dsimp only; omega) TR2 A2 Q1 W1 D1
      rw [lab_snoc, List.length_append, List.length_singleton] at B1
      refine ⟨h2, pa2, ma2, e2, T, ?_, B2, B3, B4, Nat.le_trans A3 B5, tr_ln A4 B6 A3 B5, tr_hz A5 B7, ext_old A6 B8 (fun y hy z => z.imp id (fun z => z.imp (fun z => A7.elim (fun w => z.trans w) (fun w => absurd (z ▸ w) (Nat.not_le.mpr hy))) (fun z => A8.elim (fun w => z.trans w) (fun w => absurd (z ▸ w) (Nat.not_le.mpr hy))))), new_new (Nat.add_le_add_left A6.1 8) A7 B9, new_new (Nat.add_le_add_left A6.1 8) A8 B10, grow_two A9 B11 l2046⟩
      rw [e154_40, e154_42, e154_45, if_neg n1, e154_48, e154_49, kF_eq W.1.1 hrt, e154_52 rk (by simp), rt_lastPose R]
      simp only [mAft, Option.toList_some, List.cons_append, List.nil_append]
      rw [e154_55, e154_56, if_neg n2, e154_59, e154_60, e154_62, e154_63 (kR_eq W.1.1) (by simp), u2]
      simp only [mAft, Option.toList_some, List.cons_append, List.nil_append]
      rw [e154_66, e154_68, e154_70, e154_71]
      simp only [enc_eq (show u ≤ 4096 by omega)]
      rw [if_pos u0, dec_put (by omega : 0 < u), e154_79, e154_80, kF_eq W.1.1 hrt, e154_83 rk (by simp), rt_lastPose R]
      simp only [mAft, Option.toList_some, List.cons_append, List.nil_append]
      rw [e154_86, e154_88 (by simp), c_ended, en]
      simp only [mAft, Option.toList_some, List.cons_append, List.nil_append]
      rw [e154_91, e154_93, e154_94, kF_eq W.1.1 hrt, e154_97, e154_99, e154_101 rk (by simp), A1]
      simp only [mAft, Option.toList_none, List.nil_append]
      rw [e154_104, e154_105, kF_eq W1.1.1 W1.1.2.2.2, e154_108, e154_110, e154_112 (by simp [Value.category]), c_isBack, hgb]
      simp only [mAft, Option.toList_some, List.cons_append, List.nil_append]
      rw [e154_115 (by simp [Value.category]), c_stateOf, st_of gu]
      simp only [mAft, Option.toList_some, List.cons_append, List.nil_append]
      rw [e154_118 (q_R Q1) (by simp), c_qCost Q1 s8]
      simp only [mAft, Option.toList_some, List.cons_append, List.nil_append]
      rw [e154_121, e154_123, oi_succ, e154_126]
      exact B1
end
