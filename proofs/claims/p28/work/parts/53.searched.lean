section
variable {L : Nat} {xs : Nat → Int32} {k : Nat} {ad : Nat → Nat} {w F P op cl cu : Nat} {fw fF : List Value} {mg : Int32} {fo fc : Nat → Int32}
theorem oi_sub {a b : Nat} (hb : b ≤ a) : Int32.ofNat a - Int32.ofNat b = Int32.ofNat (a - b) := by
  obtain ⟨c, rfl⟩ : ∃ c, a = c + b := ⟨a - b, by omega⟩
  rw [oi_add, Int32.add_sub_cancel, Nat.add_sub_cancel]
def BI (adj : Nat → List (Nat × Nat)) (sd : Nat → Bool) (N : Nat → Nat → Nat) (tk : Nat → Bool) : Prop := qOk N ∧ ∃ J rk cl, QI N J rk cl ∧ JD N J tk ∧ DI adj sd N tk
/-- one state taken and spread -/
theorem bi_take {adj : Nat → List (Nat × Nat)} {sd : Nat → Bool} {N : Nat → Nat → Nat} {tk : Nat → Bool} (ha : ∀ s, s < 4096 → ∀ e, e ∈ adj s → e.1 < 4096 ∧ e.2 ≤ 149) (B : BI adj sd N tk) (o : qOk (nTake 256 N).2) :
    (nTake 256 N).1 = 0 ∨ ∃ s, (nTake 256 N).1 = s + 1 ∧ s < 4096 ∧ tk s = false ∧ (nTake 256 N).2 0 s < 536870912 ∧ SI (nTake 256 N).2 (updN tk s true) ((nTake 256 N).2 0 s) ∧ BI adj sd (nLows ((nTake 256 N).2 0 s) (adj s) (nTake 256 N).2) (updN tk s true) := by
  obtain ⟨o0, J, rk, cl, h, hj, hd⟩ := B
  by_cases ex : ∃ t, J t = true
  · right
    obtain ⟨t0, ht0⟩ := ex
    obtain ⟨s, k1, k2, k3, k4, k5, k6⟩ := nTake_get 256 N h ⟨t0, ht0, (h.1 t0 ht0).2.2.1⟩
    have hs := (hj s).1 k2
    have hbd := (hd.1 s hs.1 hs.2.1).1
    have hcs : tk s = false := hs.2.2
    have hcn := cnt_on hcs 4096 hs.1
    have hcl := cnt_le (J := updN tk s true) 4096
    have hj' : JD (nTake 256 N).2 (updN J s false) (updN tk s true) := by
      intro t; rw [k5]; unfold updN
      by_cases q : t = s
      · rw [if_pos q, if_pos q]; simp
      · rw [if_neg q, if_neg q]; exact hj t
    have htk' : ∀ t, updN tk s true t = true → (nTake 256 N).2 0 t ≤ N 0 s := by
      intro t z; rw [k5]; unfold updN at z
      by_cases q : t = s
      · subst q; omega
      · rw [if_neg q] at z
        have := (hd.2.1 t z).2.2.1; have := (h.1 s k2).2.1; omega
    have S : SI (nTake 256 N).2 (updN tk s true) (N 0 s) := ⟨o, k6, by omega, htk', _, _, _, k4, hj'⟩
    refine ⟨s, k1, hs.1, hcs, by rw [k5]; exact hs.2.1, by rw [k5]; exact S, ?_⟩
    rw [k5]
    obtain ⟨J2, rk2, cl2, b1, b2, b3, b4, b5, b6, b7⟩ := nLows_ok (c := N 0 s) (by omega) (adj s) (nTake 256 N).2 (updN J s false) rk cl k4 hj' (ha s hs.1) k6 htk'
    simp only [k5] at b4 b6 b7
    refine ⟨(si_cost (s := 0) (adj s) _ S (ha s hs.1)).1, J2, rk2, cl2, b1, b2, ?_⟩
    refine ⟨?_, ?_, ?_⟩
    · intro t ht8 hf
      rcases b6 t with q | ⟨w, q, r⟩
      · rw [q] at hf ⊢
        obtain ⟨u, v⟩ := hd.1 t ht8 hf
        exact ⟨by omega, v⟩
      · rw [r]
        have hw := (ha s hs.1 _ q).2
        simp only [] at hw
        refine ⟨by omega, ?_⟩
        obtain ⟨n, v⟩ := (hd.1 s hs.1 hs.2.1).2
        exact ⟨n + 1, s, N 0 s, w, v, q, rfl⟩
    · intro t z
      rw [b7 t z, b3]
      unfold updN at z
      by_cases q : t = s
      · subst q; exact ⟨hs.1, hs.2.1, Nat.le_refl _, fun e he => b5 e he⟩
      · rw [if_neg q] at z
        obtain ⟨u1, u2, u3, u4⟩ := hd.2.1 t z
        refine ⟨u1, u2, ?_, fun e he => Nat.le_trans (b4 _) (u4 e he)⟩
        have := (h.1 s k2).2.1; omega
    · intro t z
      obtain ⟨u1, u2⟩ := hd.2.2 t z
      refine ⟨u1, ?_⟩
      have := b4 t; omega
  · left
    have hnJ : ∀ t, J t = false := by
      intro t; cases hq : J t
      · rfl
      · exact absurd ⟨t, hq⟩ ex
    rw [nTake_none 256 N h hnJ]
/-- the class's graphs: from the end (1), or from the start (0) -/
def adjS (e : Nat → Nat → Nat) (wt : Nat → Nat → Nat → Nat) (cu rv fe s : Nat) : List (Nat × Nat) :=
  if fe = 0 then (List.range (3 + 3 * rv)).flatMap (fEntry e wt cu (s % 2048) (s / 2048)) else (List.range' (3 * (s / 2048)) 3).flatMap (bEntry e wt cu rv (s % 2048) (s / 2048))
def goalS (q t : Nat) : Bool := decide (t < 4096 ∧ t % 2048 = q)
theorem adj_ok {e : Nat → Nat → Nat} {wt : Nat → Nat → Nat → Nat} {rv fe : Nat} (HE : geoE fo e) (HW : geoW fc mg wt) (hcu : cu ≤ 100) (hrv : rv < 2) : ∀ s, s < 4096 → ∀ x, x ∈ adjS e wt cu rv fe s → x.1 < 4096 ∧ x.2 ≤ 149 := by
  intro s hs x hx
  have hp : s % 2048 < 2048 := Nat.mod_lt _ (by decide)
  unfold adjS at hx
  split at hx
  · rw [List.mem_flatMap] at hx
    obtain ⟨m, hm, hx⟩ := hx
    rw [List.mem_range] at hm
    unfold fEntry at hx
    split at hx
    · simp at hx
    · have E := (HE (s % 2048) m hp (by omega)).2
      have W := (HW (s % 2048) m (e (s % 2048) m - 1) hp (by omega) (by omega)).2
      rw [List.mem_singleton] at hx
      subst hx
      refine ⟨?_, ?_⟩
      · show e (s % 2048) m - 1 + (if m < 3 then 0 else 2048) < 4096
        split <;> omega
      · show wt (s % 2048) m (e (s % 2048) m - 1) + (if (if m < 3 then 0 else 1) = s / 2048 then 0 else cu) ≤ 149
        by_cases y : (if m < 3 then 0 else 1) = s / 2048
        · rw [if_pos y]; omega
        · rw [if_neg y]; omega
  · rw [List.mem_flatMap] at hx
    obtain ⟨m, hm, hx⟩ := hx
    rw [List.mem_range'_1] at hm
    have ho : (if m < 3 then m + 3 else m - 3) < 6 := by split <;> omega
    unfold bEntry at hx
    generalize (if m < 3 then m + 3 else m - 3) = o at *
    split at hx
    · simp at hx
    · have E := (HE (s % 2048) o hp ho).2
      have W := (HW (e (s % 2048) o - 1) m (s % 2048) (by omega) (by omega) hp).2
      rw [List.mem_cons] at hx
      rcases hx with hx | hx
      · subst hx; exact ⟨by show _ + 2048 * (s / 2048) < 4096; omega, by show wt _ _ _ ≤ 149; omega⟩
      · split at hx
        · simp at hx
        · rw [List.mem_singleton] at hx
          subst hx; exact ⟨by show _ + 2048 * (1 - s / 2048) < 4096; omega, by show wt _ _ _ + cu ≤ 149; omega⟩
theorem search_loop {e : Nat → Nat → Nat} {wt : Nat → Nat → Nat → Nat} {rv fe sdp gl : Nat} {sd : Nat → Bool} (HE : geoE fo e) (HW : geoW fc mg wt) (hcu : cu ≤ 100) (hrv : rv < 2) (hfe : fe < 2) (hgl : gl < 2048) (d : Nat) :
    ∀ (i : Nat) (N : Nat → Nat → Nat) (h : List mCel) (tk : Nat → Bool) (l6 l7 l8 : Option Value), i + d = 4096 → qH ad N h → wH ad w F P op cl fw fF (Int32.ofNat cu) mg fo fc h → BI (adjS e wt cu rv fe) sd N tk →
    ∃ h', mW (mRo L xs) mTab 150 69 [some (.ref w), some (.int (Int32.ofNat sdp)), some (.int (Int32.ofNat gl)), some (.int (Int32.ofNat rv)), some (.int (Int32.ofNat fe)), some (.int (Int32.ofNat i)), l6, l7, l8] [] h k = some (.inl (some (.int (qDec 1 (nRun (adjS e wt cu rv fe) (goalS gl) d N).1))), h', k) ∧ mKeep (qAd ad) h h' ∧ qH ad (nRun (adjS e wt cu rv fe) (goalS gl) d N).2 h' ∧ qOk (nRun (adjS e wt cu rv fe) (goalS gl) d N).2 := by
  induction d with
  | zero =>
    intro i N h tk l6 l7 l8 hi Q W B
    obtain rfl : i = 4096 := by omega
    rw [e150_69, e150_71, e150_74, if_pos (by decide), e150_175, e150_176]
    exact ⟨h, by rw [show (nRun (adjS e wt cu rv fe) (goalS gl) 0 N).1 = 0 from rfl, enc_zero], keep_refl, Q, B.1⟩
  | succ d IH =>
    intro i N h tk l6 l7 l8 hi Q W B
    obtain ⟨⟨a1, a2, a3, a4⟩, ⟨b1, b2, b3⟩, cP, cO, cC, nn⟩ := id W
    have hlt : ¬ ((4096 : Int32) ≤ Int32.ofNat i) := by
      rw [show (4096 : Int32) = Int32.ofNat 4096 from rfl, oi_le (by decide) (by omega)]; omega
    obtain ⟨o0, J, rk, cl', I, D, DD⟩ := id B
    obtain ⟨h1, T1, T2, T3, T4⟩ := c_take (L := L) (xs := xs) (k := k) Q o0 I (fun t z => ((D t).1 z).2.1)
    rw [e150_69, e150_71, e150_74, if_neg hlt, e150_77, e150_78, kF_eq a1 a4, e150_81 (q_R Q) (by simp), T1]
    simp only [mAft, Option.toList_some, List.cons_append, List.nil_append]
    rw [e150_84, e150_86, e150_88, e150_89]
    unfold nRun
    have W1 := w_keep W T2
    obtain ⟨⟨a1', a2', a3', a4'⟩, ⟨b1', b2', b3'⟩, cP', cO', cC', nn'⟩ := id W1
    rcases bi_take (adj_ok HE HW hcu hrv) B T4 with z | ⟨s, z, hs, ht, hf, S, B'⟩
    · rw [z, if_pos rfl, enc_zero, if_neg (by decide), e150_92, e150_93]
      exact ⟨h1, rfl, T2, T3, T4⟩
    · rw [z, if_neg (show ¬ (s + 1 = 0) by omega), Nat.add_sub_cancel, enc_succ]
      have ne : ¬ Int32.ofNat s = -1 := by
        intro y
        have := oi_nneg (i := s) (by omega)
        rw [y] at this; exact this (by decide)
      rw [if_pos ne, e150_94, e150_96, e150_99]
      have hlt2 : (Int32.ofNat s < 2048) = (s < 2048) := oi_lt (by omega) (by decide)
      simp only [hlt2]
      have hg : s / 2048 < 2 := by omega
      have G : ∀ l7 : Option Value, ∃ l7', (if s < 2048 then mW (mRo L xs) mTab 150 106 [some (.ref w), some (.int (Int32.ofNat sdp)), some (.int (Int32.ofNat gl)), some (.int (Int32.ofNat rv)), some (.int (Int32.ofNat fe)), some (.int (Int32.ofNat i)), some (.int (Int32.ofNat s)), l7, l8] [] h1 k
          else mW (mRo L xs) mTab 150 102 [some (.ref w), some (.int (Int32.ofNat sdp)), some (.int (Int32.ofNat gl)), some (.int (Int32.ofNat rv)), some (.int (Int32.ofNat fe)), some (.int (Int32.ofNat i)), some (.int (Int32.ofNat s)), l7, l8] [] h1 k) =
          mW (mRo L xs) mTab 150 129 [some (.ref w), some (.int (Int32.ofNat sdp)), some (.int (Int32.ofNat gl)), some (.int (Int32.ofNat rv)), some (.int (Int32.ofNat fe)), some (.int (Int32.ofNat i)), some (.int (Int32.ofNat s)), some (.int (Int32.ofNat (s / 2048))), l7'] [.int (Int32.ofNat (s % 2048))] h1 k ∧ l7' = some (.int (Int32.ofNat (s % 2048))) := by
        intro l7
        refine ⟨_, ?_, rfl⟩
        by_cases y : s < 2048
        · rw [if_pos y, e150_106, e150_107, e150_109, show s / 2048 = 0 by omega, show s % 2048 = s by omega, e150_111, if_pos (by decide), e150_123, e150_125, e150_127]; rfl
        · rw [if_neg y, e150_102, e150_103, e150_107, e150_109, show s / 2048 = 1 by omega, e150_111, if_neg (by decide), e150_114, e150_116, e150_119, e150_120, e150_125]
          have : Int32.ofNat s - 2048 = Int32.ofNat (s % 2048) := by
            rw [show (2048 : Int32) = Int32.ofNat 2048 from rfl, oi_sub (by omega), show s - 2048 = s % 2048 by omega]
          rw [this, e150_127]; rfl
      obtain ⟨l7', G1, rfl⟩ := G l7
      rw [G1, e150_129, e150_130]
      have hpg : (Int32.ofNat (s % 2048) = Int32.ofNat gl) = (s % 2048 = gl) := by
        apply propext; constructor
        · intro y
          have := congrArg Int32.toNatClampNeg y
          rwa [oi_nat (by omega), oi_nat (by omega)] at this
        · rintro rfl; rfl
      simp only [hpg]
      have hgo : (goalS gl s = true) = (s % 2048 = gl) := by unfold goalS; simp [hs]
      simp only [hgo]
      by_cases y : s % 2048 = gl
      · rw [if_neg (not_not_intro y), if_pos y, e150_133, e150_134, kF_eq a1' a4', e150_137, e150_139 (q_R T3) (by simp), c_qCost T3 hs]
        simp only [mAft, Option.toList_some, List.cons_append, List.nil_append]
        rw [e150_142]
        exact ⟨h1, by rw [enc_succ], T2, T3, T4⟩
      · rw [if_pos y, if_neg y, e150_143, e150_145]
        have hp : s % 2048 < 2048 := Nat.mod_lt _ (by decide)
        have hsp : s % 2048 + 2048 * (s / 2048) = s := by omega
        have S' : SI (nTake 256 N).2 (updN tk s true) ((nTake 256 N).2 0 (s % 2048 + 2048 * (s / 2048))) := by rw [hsp]; exact S
        obtain rfl | rfl : fe = 0 ∨ fe = 1 := by omega
        · obtain ⟨h2, C1, C2, C3, C4⟩ := c_along (L := L) (xs := xs) (k := k) (rv := rv) HE HW hcu hp hg hrv T3 W1 S'
          rw [hsp] at C3 C4
          rw [if_pos (by decide), e150_160, e150_161, e150_163, e150_165, e150_166 (kR_eq a1') (by simp [Value.category]), C1]
          simp only [mAft, Option.toList_none, List.nil_append]
          rw [e150_169, e150_172, oi_succ]
          obtain ⟨h3, R1, R2, R3, R4⟩ := IH (i + 1) _ h2 _ (some (.int (Int32.ofNat s))) (some (.int (Int32.ofNat (s / 2048)))) (some (.int (Int32.ofNat (s % 2048)))) (by omega) C3 (w_keep W1 C2) B'
          exact ⟨h3, R1, keep_trans (keep_trans T2 C2) R2, R3, R4⟩
        · obtain ⟨h2, C1, C2, C3, C4⟩ := c_against (L := L) (xs := xs) (k := k) (rv := rv) HE HW hcu hp hg hrv T3 W1 S'
          rw [hsp] at C3 C4
          rw [if_neg (by decide), e150_148, e150_149, e150_151, e150_153, e150_154 (kR_eq a1') (by simp [Value.category]), C1]
          simp only [mAft, Option.toList_none, List.nil_append]
          rw [e150_157, e150_169, e150_172, oi_succ]
          obtain ⟨h3, R1, R2, R3, R4⟩ := IH (i + 1) _ h2 _ (some (.int (Int32.ofNat s))) (some (.int (Int32.ofNat (s / 2048)))) (some (.int (Int32.ofNat (s % 2048)))) (by omega) C3 (w_keep W1 C2) B'
          exact ⟨h3, R1, keep_trans (keep_trans T2 C2) R2, R3, R4⟩
end
