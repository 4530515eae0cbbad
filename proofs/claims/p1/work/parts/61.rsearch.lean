section
variable {L : Nat} {xs : Nat → Int32} {k : Nat} {ad : Nat → Nat} {fs0 : List Value} {M : Nat → Nat → Nat} {h : List mCel} {ca cl cu : Nat} {fcan fc : Nat → Int32} {mg : Int32}
theorem mem_range3 {m g : Nat} (hm : m < 6) (hg : g < 2) : m ∈ List.range' (3 * g) 3 ↔ gear m = g := by
  rw [List.mem_range'_1]; unfold gear; split <;> omega
theorem mem_rAdj {en can : Nat → Nat → Nat} {wt : Nat → Nat → Nat → Nat} {rv s t w : Nat} (HN : geoN en) (HB : geoB en) (hs : s < 4096) (hrv : rv < 2) :
    (t, w) ∈ rAdj en can wt cu rv s ↔ ∃ p g m, p < 2048 ∧ g < 2 ∧ m < 3 + 3 * rv ∧ 0 < en p m ∧ can p m ≠ 0 ∧ s = en p m - 1 + 2048 * gear m ∧ t = p + 2048 * g ∧ w = wt p m (en p m - 1) + (if g = gear m then 0 else cu) := by
  have hq : s % 2048 < 2048 := Nat.mod_lt _ (by decide)
  have hg : s / 2048 < 2 := by omega
  unfold rAdj
  constructor
  · intro z
    split at z
    · rename_i hle
      rw [List.mem_flatMap] at z
      obtain ⟨m, hm, hx⟩ := z
      have hm6 : m < 6 := by rw [List.mem_range'_1] at hm; omega
      have hgm := (mem_range3 hm6 hg).1 hm
      have hm3 : m < 3 + 3 * rv := by unfold gear at hgm; split at hgm <;> omega
      have hb := HB (s % 2048) m hq hm6
      have n2 := (HN (s % 2048) ((m + 3) % 6) hq (Nat.mod_lt _ (by decide))).2
      unfold rEntry at hx
      split at hx
      · simp at hx
      · split at hx
        · simp at hx
        · rename_i e1 e2
          have hb := hb (by omega)
          have hp8 : en (s % 2048) ((m + 3) % 6) - 1 < 2048 := by omega
          generalize en (s % 2048) ((m + 3) % 6) - 1 = p at *
          have hen : en p m - 1 = s % 2048 := by omega
          have hs2 : s = en p m - 1 + 2048 * gear m := by rw [hen, hgm]; omega
          simp only [List.mem_cons, List.not_mem_nil, or_false, Prod.mk.injEq] at hx
          rcases hx with ⟨rfl, rfl⟩ | ⟨rfl, rfl⟩
          · refine ⟨t, 0, m, by omega, by decide, hm3, by omega, e2, hs2, by omega, ?_⟩
            rw [hen, hgm]
            by_cases y : s / 2048 = 0
            · rw [if_pos y, if_pos y.symm]
            · rw [if_neg y, if_neg (Ne.symm y)]
          · refine ⟨p, 1, m, by omega, by decide, hm3, by omega, e2, hs2, by omega, ?_⟩
            rw [hen, hgm]
            by_cases y : s / 2048 = 1
            · rw [if_pos y, if_pos y.symm]
            · rw [if_neg y, if_neg (Ne.symm y)]
    · simp at z
  · rintro ⟨p, g, m, hp, hg2, hm, he, hc, rfl, rfl, rfl⟩
    have hm6 : m < 6 := by omega
    have n2 := (HN p m hp hm6).2
    have hgm : gear m < 2 := by unfold gear; split <;> omega
    have q1 : (en p m - 1 + 2048 * gear m) % 2048 = en p m - 1 := by omega
    have q2 : (en p m - 1 + 2048 * gear m) / 2048 = gear m := by omega
    have hle : gear m ≤ rv := by unfold gear; split <;> omega
    rw [q1, q2, if_pos hle, List.mem_flatMap]
    refine ⟨m, (mem_range3 hm6 hgm).2 rfl, ?_⟩
    have hb := HB p ((m + 3) % 6) hp (Nat.mod_lt _ (by decide))
    rw [show ((m + 3) % 6 + 3) % 6 = m by omega] at hb
    have hb := hb he
    unfold rEntry
    rw [hb, if_neg (by omega), Nat.add_sub_cancel, if_neg hc]
    simp only [List.mem_cons, List.not_mem_nil, or_false, Prod.mk.injEq]
    obtain rfl | rfl : g = 0 ∨ g = 1 := by omega
    · left; refine ⟨by omega, ?_⟩
      by_cases y : gear m = 0
      · rw [if_pos y, if_pos y.symm]
      · rw [if_neg y, if_neg (Ne.symm y)]
    · right; refine ⟨by omega, ?_⟩
      by_cases y : gear m = 1
      · rw [if_pos y, if_pos y.symm]
      · rw [if_neg y, if_neg (Ne.symm y)]
/-- what the reference's search says: none below its bound, or the least -/
def rLeast (adj : Nat → List (Nat × Nat)) (sd goal : Nat → Bool) (r : Nat) : Prop :=
  (r = 0 → ∀ n t c, goal t = true → gW adj sd n t c → 1000000 ≤ c) ∧
  (∀ m, r = m + 1 → (∃ n t, goal t = true ∧ gW adj sd n t m) ∧ ∀ n t c, goal t = true → gW adj sd n t c → m ≤ c)
theorem d_ways {en can : Nat → Nat → Nat} {wt : Nat → Nat → Nat → Nat} {rv p q : Nat} (HN : geoN en) (HC : geoC fcan can) (HV : geoV fc mg en wt) (HB : geoB en) (hcu : cu ≤ 100) (hcan : ∀ p m, p < 2048 → m < 6 → can p m ≠ 0 → 0 < en p m) (hrv : rv < 2) (hp : p < 2048) (hq : q < 2048) (Q : rH ad fs0 M h) (V : vH ad fs0 ca cl cu mg fcan fc h)
    (hw : M 3 1 = 0) (hqf : M 3 0 < 4096) (hfl : ∀ s, s < 4096 → M 2 s = 0) :
    ∃ h' r, mW (mRo L xs) mTab 142 0 [some (.ref (ad 3)), some (.int (Int32.ofNat p)), some (.int (Int32.ofNat q)), some (.int (Int32.ofNat (3 + 3 * rv))), none] [] h k = some (.inl (some (.int (qDec 1 r))), h', k) ∧ mKeep (rAd ad) h h' ∧
      (∃ M', rH ad fs0 M' h' ∧ RC (rAdj en can wt cu rv) (seedS q 1) (fun _ => False) M' ∧ M' 3 1 = 0) ∧ rLeast (rAdj en can wt cu rv) (seedS q 1) (goalS p) r := by
  have ha : ∀ s, s < 4096 → ∀ e, e ∈ rAdj en can wt cu rv s → e.1 < 4096 := by
    rintro s hs ⟨t, w⟩ he
    obtain ⟨p', g, m, h1, h2, _, _, _, _, h3, _⟩ := (mem_rAdj HN HB hs hrv).1 he
    show t < 4096
    omega
  obtain ⟨h1, M1, A1, A2, A3, A4, A5⟩ := rfill_loop (L := L) (xs := xs) (k := k) (l1 := some (.int (Int32.ofNat p))) (l2 := some (.int (Int32.ofNat q))) (l3 := some (.int (Int32.ofNat (3 + 3 * rv)))) 4096 0 M h rfl Q
  have I1 : RI M1 := by
    have w1 : M1 3 1 = 0 := by rw [A5 3 1 (by decide), hw]
    refine ⟨fun i hi => absurd hi (by omega), fun i j hij hj => absurd hj (by omega), ?_, by rw [A5 3 0 (by decide)]; exact hqf, fun s hs => by rw [A5 2 s (by decide)]; exact Or.inl (hfl s hs), fun s hs => by rw [A4, if_pos ⟨by omega, hs⟩]; omega⟩
    rw [w1, cnt_congr (J := rFlag M1) (K := fun _ => false) 4096 (fun s hs => by unfold rFlag; rw [A5 2 s (by decide), hfl s hs]; rfl), cnt_false]
  obtain ⟨h2, B1, B2, B3⟩ := d_lowers (L := L) (xs := xs) (k := k) A3 I1 (s := q) (c := 0) (by omega) (by decide)
  obtain ⟨I2, a1, a2, a3⟩ := ri_lower (s := q) (c := 0) I1 (by omega)
  obtain ⟨h3, C1, C2, C3⟩ := d_lowers (L := L) (xs := xs) (k := k) B3 I2 (s := 2048 + q) (c := 0) (by omega) (by decide)
  obtain ⟨I3, b1, b2, b3⟩ := ri_lower (s := 2048 + q) (c := 0) I2 (by omega)
  have L1 : ∀ s, s < 4096 → M1 0 s = 1000000 := fun s hs => by rw [A4, if_pos ⟨by omega, hs⟩]
  have sd0 : ∀ s, seedS q 1 s = true ↔ s = q ∨ s = 2048 + q := by intro s; unfold seedS; simp; omega
  have L3 : ∀ s, s < 4096 → rLower (rLower M1 q 0) (2048 + q) 0 0 s = if s = q ∨ s = 2048 + q then 0 else 1000000 := by
    intro s hs
    rw [b1, a1, a1, L1 s hs, L1 (2048 + q) (by omega), L1 q (by omega)]
    by_cases e1 : s = q
    · rw [if_neg (by omega), if_pos ⟨e1, by decide⟩, if_pos (Or.inl e1)]
    · by_cases e2 : s = 2048 + q
      · rw [if_pos ⟨e2, by rw [if_neg (by omega)]; decide⟩, if_pos (Or.inr e2)]
      · rw [if_neg (fun z => e2 z.1), if_neg (fun z => e1 z.1), if_neg (fun z => z.elim e1 e2)]
  have F3 : ∀ s, s < 4096 → rLower (rLower M1 q 0) (2048 + q) 0 2 s = if s = q ∨ s = 2048 + q then 1 else 0 := by
    intro s hs
    rw [b2, a2, a1, L1 (2048 + q) (by omega), L1 q (by omega), A5 2 s (by decide), hfl s hs]
    by_cases e1 : s = q
    · rw [if_neg (by omega), if_pos ⟨e1, by decide⟩, if_pos (Or.inl e1)]
    · by_cases e2 : s = 2048 + q
      · rw [if_pos ⟨e2, by rw [if_neg (by omega)]; decide⟩, if_pos (Or.inr e2)]
      · rw [if_neg (fun z => e2 z.1), if_neg (fun z => e1 z.1), if_neg (fun z => z.elim e1 e2)]
  have R3 : RC (rAdj en can wt cu rv) (seedS q 1) (fun _ => False) (rLower (rLower M1 q 0) (2048 + q) 0) := by
    refine ⟨I3, ?_, ?_, ?_⟩
    · intro s hs; rw [L3 s hs]
      by_cases e : s = q ∨ s = 2048 + q
      · rw [if_pos e]; exact Or.inr ⟨0, (sd0 s).2 e, rfl⟩
      · rw [if_neg e]; exact Or.inl rfl
    · intro s hs _ f2 f0
      rw [F3 s hs] at f2
      rw [L3 s hs] at f0
      by_cases e : s = q ∨ s = 2048 + q
      · rw [if_pos e] at f2; omega
      · rw [if_neg e] at f0; omega
    · intro s hs
      have e := (sd0 s).1 hs
      have h8 : s < 4096 := by omega
      exact ⟨h8, by rw [L3 s h8, if_pos e]⟩
  have V3 := v_keep (v_keep (v_keep V A2) B2) C2
  obtain ⟨h4, M4, l4', D1, D2, D3, D4, D5⟩ := ways_loop (L := L) (xs := xs) (k := k) (l1 := some (.int (Int32.ofNat p))) (l2 := some (.int (Int32.ofNat q))) HN HC HV HB hcu hrv ha _ _ h3 (some (.int (Int32.ofNat 4096))) (Nat.le_refl _) C3 R3 V3
  obtain ⟨E1, E2⟩ := rc_end ha D4 D5
  have V4 := v_keep V3 D2
  have start : mW (mRo L xs) mTab 142 0 [some (.ref (ad 3)), some (.int (Int32.ofNat p)), some (.int (Int32.ofNat q)), some (.int (Int32.ofNat (3 + 3 * rv))), none] [] h k = mW (mRo L xs) mTab 142 102 [some (.ref (ad 3)), some (.int (Int32.ofNat p)), some (.int (Int32.ofNat q)), some (.int (Int32.ofNat (3 + 3 * rv))), l4'] [] h4 k := by
    rw [e142_0, e142_1, show (0 : Int32) = Int32.ofNat 0 from rfl, A1, e142_26, e142_27, e142_28, show (0 : Int32) = Int32.ofNat 0 from rfl, e142_29 (r_R A3) (by simp), B1]
    simp only [mAft, Option.toList_none, List.nil_append]
    rw [e142_32, e142_33, e142_36, e142_37, show (2048 : Int32) + Int32.ofNat q = Int32.ofNat (2048 + q) from (oi_add _ _).symm, e142_38, show (0 : Int32) = Int32.ofNat 0 from rfl, e142_39 (r_R B3) (by simp), C1]
    simp only [mAft, Option.toList_none, List.nil_append]
    exact D1
  have KK := keep_trans (keep_trans (keep_trans A2 B2) C2) D2
  have hpq : (Int32.ofNat p = Int32.ofNat q) = (p = q) := by
    apply propext; constructor
    · intro y
      have := congrArg Int32.toNatClampNeg y
      rwa [oi_nat (by omega), oi_nat (by omega)] at this
    · rintro rfl; rfl
  have goal : ∀ t, goalS p t = true ↔ t < 4096 ∧ t % 2048 = p := by intro t; unfold goalS; simp
  by_cases y : p = q
  · refine ⟨h4, 1, ?_, KK, ⟨M4, D3, D4, D5⟩, fun z => by omega, ?_⟩
    · rw [start, e142_102, e142_103, e142_104]
      simp only [hpq]
      rw [if_neg (not_not_intro y), e142_107, e142_108, e142_118, e142_120, e142_122, e142_124, if_pos (by decide), e142_131, e142_133]
      rfl
    · intro m hm
      obtain rfl : m = 0 := by omega
      exact ⟨⟨0, p, (goal p).2 ⟨by omega, Nat.mod_eq_of_lt hp⟩, (sd0 p).2 (Or.inl y), rfl⟩, fun _ _ _ _ _ => Nat.zero_le _⟩
  · have LB := d_leastBy (L := L) (xs := xs) (k := k) (dr := 2) (kinds := 3 + 3 * rv) HN HC HV hcu hcan hp (by decide) (by omega) D4.1.2.2.2.2.2 D3 V4
    generalize hlb : lbN (can p) (byN en wt cu M4 p 2) (3 + 3 * rv) 0 1000000 = lb at LB
    have lle : lb ≤ 1000000 := by rw [← hlb]; exact lb_le _ _ _
    have ex : mW (mRo L xs) mTab 142 102 [some (.ref (ad 3)), some (.int (Int32.ofNat p)), some (.int (Int32.ofNat q)), some (.int (Int32.ofNat (3 + 3 * rv))), l4'] [] h4 k = some (.inl (some (.int (qDec 1 (if lb < 1000000 then lb + 1 else 0)))), h4, k) := by
      rw [e142_102, e142_103, e142_104]
      simp only [hpq]
      rw [if_pos y, e142_111, e142_112, e142_113, e142_114, show (2 : Int32) = Int32.ofNat 2 from rfl, e142_115 (r_R D3) (by simp), LB]
      simp only [mAft, Option.toList_some, List.cons_append, List.nil_append]
      rw [e142_118, e142_120, e142_122, e142_124]
      have : (Int32.ofNat lb < 1000000) = (lb < 1000000) := oi_lt (by omega) (by decide)
      simp only [this]
      by_cases z : lb < 1000000
      · rw [if_pos z, if_pos z, e142_131, e142_133, enc_succ]
      · rw [if_neg z, if_neg z, e142_127, e142_128, e142_133, enc_zero]
    -- every walk to the goal costs at least lb
    have lower : ∀ n t c, goalS p t = true → gW (rAdj en can wt cu rv) (seedS q 1) n t c → lb ≤ c := by
      intro n t c gt w
      obtain ⟨t8, tp⟩ := (goal t).1 gt
      cases n with
      | zero =>
        exfalso
        rcases (sd0 t).1 w.1 with z | z <;> omega
      | succ n =>
        obtain ⟨s, c', w', a, b, rfl⟩ := w
        obtain ⟨s8, sc⟩ := E2 n s c' a
        obtain ⟨p', g, m, k1, k2, k3, k4, k5, k6, k7, k8⟩ := (mem_rAdj HN HB s8 hrv).1 b
        obtain rfl : p' = p := by omega
        have := lb_all (can := can p') (b := byN en wt cu M4 p' 2) (3 + 3 * rv) 0 1000000 m (by omega) (by omega) k5
        rw [hlb] at this
        unfold byN at this
        rw [if_pos (Or.inl rfl), show 2048 * gear m + (en p' m - 1) = s by omega] at this
        omega
    refine ⟨h4, if lb < 1000000 then lb + 1 else 0, by rw [start]; exact ex, KK, ⟨M4, D3, D4, D5⟩, ?_, ?_⟩
    · intro z n t c gt w
      have := lower n t c gt w
      split at z
      · omega
      · omega
    · intro m hm
      split at hm
      · rename_i z
        obtain rfl : m = lb := by omega
        refine ⟨?_, lower⟩
        rcases lb_get (can := can p) (b := byN en wt cu M4 p 2) (3 + 3 * rv) 0 1000000 with e | ⟨mv, m1, m2, m3, m4⟩
        · omega
        · rw [hlb] at m4
          have he := hcan p mv hp (by omega) m3
          have n2 := (HN p mv hp (by omega)).2
          have hgm : gear mv < 2 := by unfold gear; split <;> omega
          unfold byN at m4
          rw [if_pos (Or.inl rfl), Nat.add_zero] at m4
          have s8 : 2048 * gear mv + (en p mv - 1) < 4096 := by omega
          rcases E1 _ s8 with f | ⟨n, wk⟩
          · omega
          · refine ⟨n + 1, p + 2048 * gear mv, (goal _).2 ⟨by omega, by omega⟩, _, _, wt p mv (en p mv - 1), wk, ?_, by omega⟩
            rw [mem_rAdj HN HB s8 hrv]
            exact ⟨p, gear mv, mv, hp, hgm, by omega, he, m3, by omega, rfl, by rw [if_pos rfl]; rfl⟩
      · omega
end
