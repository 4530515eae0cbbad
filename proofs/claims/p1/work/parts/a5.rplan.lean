section
variable {xs : Nat → Int32} {k : Nat} {h h1 h2 : List mCel} {fX fY fc fo fcl fcan : Nat → Int32}
theorem pl_pre {a1 a2 a3 a4 a5 a6 : Int32} {p q rv r : Nat} {A : Prop} [Decidable A] (hrv : rv < 2) (hA : A ↔ ((((0 ≤ a1 ∧ a1 ≤ 15) ∧ 0 ≤ a2 ∧ a2 ≤ 15) ∧ 0 ≤ a3 ∧ a3 ≤ 7) ∧ (((0 ≤ a4 ∧ a4 ≤ 15) ∧ 0 ≤ a5 ∧ a5 ≤ 15) ∧ 0 ≤ a6 ∧ a6 ≤ 7)))
    (e1 : A → 256 * a3 + 16 * a2 + a1 = Int32.ofNat p) (e2 : A → 256 * a6 + 16 * a5 + a4 = Int32.ofNat q) (z1 : ¬ A → p = 0 ∧ q = 0) (M : mCell h 42 = some (.inr (11, mFS 42))) (hr : r ≤ 1000001)
    (E : mW (mRo 8 xs) mTab 142 0 [some (.ref 42), some (.int (Int32.ofNat p)), some (.int (Int32.ofNat q)), some (.int (Int32.ofNat (3 + 3 * rv))), none] [] h k = some (.inl (some (.int (qDec 1 r))), h2, k)) :
    mW (mRo 8 xs) mTab 121 0 [some (.ref 42), some (.int a1), some (.int a2), some (.int a3), some (.int a4), some (.int a5), some (.int a6), some (.int (Int32.ofNat rv)), none, none, none, none] [] h k =
      mW (mRo 8 xs) mTab 121 96 [some (.ref 42), some (.int a1), some (.int a2), some (.int a3), some (.int a4), some (.int a5), some (.int a6), some (.int (Int32.ofNat rv)), some (.int (pB A)), some (.int (Int32.ofNat p)), some (.int (Int32.ofNat q)), some (.int (Int32.ofNat (3 + 3 * rv)))] [.int 1, .int (pB (r ≠ 0)), .int (pB A), .ref 42] h2 k := by
  have eA : pB ((((0 ≤ a1 ∧ a1 ≤ 15) ∧ 0 ≤ a2 ∧ a2 ≤ 15) ∧ 0 ≤ a3 ∧ a3 ≤ 7) ∧ (((0 ≤ a4 ∧ a4 ≤ 15) ∧ 0 ≤ a5 ∧ a5 ≤ 15) ∧ 0 ≤ a6 ∧ a6 ≤ 7)) = pB A := by
    by_cases z : A
    · rw [pB_pos z, pB_pos (hA.1 z)]
    · rw [pB_neg z, pB_neg (fun y => z (hA.2 y))]
  have er : (qDec 1 r = -1) = (r = 0) := by
    apply propext
    constructor
    · intro y
      by_cases e : 0 < r
      · rw [dec_put e] at y
        have := oi_nneg (i := r - 1) (by omega)
        rw [y] at this; exact absurd (by decide) this
      · omega
    · rintro rfl; exact enc_zero
  have tail : mW (mRo 8 xs) mTab 121 51 [some (.ref 42), some (.int a1), some (.int a2), some (.int a3), some (.int a4), some (.int a5), some (.int a6), some (.int (Int32.ofNat rv)), some (.int (pB A)), some (.int (Int32.ofNat p)), some (.int (Int32.ofNat q)), none] [] h k =
      mW (mRo 8 xs) mTab 121 96 [some (.ref 42), some (.int a1), some (.int a2), some (.int a3), some (.int a4), some (.int a5), some (.int a6), some (.int (Int32.ofNat rv)), some (.int (pB A)), some (.int (Int32.ofNat p)), some (.int (Int32.ofNat q)), some (.int (Int32.ofNat (3 + 3 * rv)))] [.int 1, .int (pB (r ≠ 0)), .int (pB A), .ref 42] h2 k := by
    have t2 : mW (mRo 8 xs) mTab 121 62 [some (.ref 42), some (.int a1), some (.int a2), some (.int a3), some (.int a4), some (.int a5), some (.int a6), some (.int (Int32.ofNat rv)), some (.int (pB A)), some (.int (Int32.ofNat p)), some (.int (Int32.ofNat q)), none] [.int (Int32.ofNat (3 + 3 * rv))] h k =
        mW (mRo 8 xs) mTab 121 96 [some (.ref 42), some (.int a1), some (.int a2), some (.int a3), some (.int a4), some (.int a5), some (.int a6), some (.int (Int32.ofNat rv)), some (.int (pB A)), some (.int (Int32.ofNat p)), some (.int (Int32.ofNat q)), some (.int (Int32.ofNat (3 + 3 * rv)))] [.int 1, .int (pB (r ≠ 0)), .int (pB A), .ref 42] h2 k := by
      rw [e121_62, e121_64, e121_65, e121_67, e121_68, kF_eq M (v := .int 0) rfl, e121_71, e121_73, if_neg (by decide), e121_76, e121_77, e121_79, e121_81, e121_83 (kR_eq M) (by simp [Value.category]), E]
      simp only [mAft, Option.toList_some, List.cons_append, List.nil_append]
      rw [e121_86, e121_87]
      simp only [er]
      by_cases y : r = 0
      · rw [if_pos y, e121_94, e121_95, show pB (r ≠ 0) = 0 from pB_neg (fun z => z y)]
      · rw [if_neg y, e121_90, e121_91, e121_95, show pB (r ≠ 0) = 1 from pB_pos y]
    rw [e121_51, e121_53]
    obtain rfl | rfl : rv = 0 ∨ rv = 1 := by omega
    · rw [if_pos (by decide), e121_61]; exact t2
    · rw [if_neg (by decide), e121_56, e121_58]; exact t2
  rw [e121_0, e121_1, e121_2, e121_3, e121_5, e121_7, e121_9 (by simp), d_are, eA]
  simp only [mAft, Option.toList_some, List.cons_append, List.nil_append]
  rw [e121_12, e121_14, e121_16]
  by_cases z : A
  · have P : pB A = 1 := pB_pos z
    rw [P] at tail ⊢
    rw [if_neg (by decide), e121_19, e121_20, e121_21, e121_22 (by simp), d_poseAt, e1 z]
    simp only [mAft, Option.toList_some, List.cons_append, List.nil_append]
    rw [e121_25, e121_29, e121_31, e121_33, if_neg (by decide), e121_36, e121_38, e121_40, e121_42 (by simp), d_poseAt, e2 z]
    simp only [mAft, Option.toList_some, List.cons_append, List.nil_append]
    rw [e121_45, e121_49]
    exact tail
  · obtain ⟨rfl, rfl⟩ := z1 z
    have P : pB A = 0 := pB_neg z
    rw [P] at tail ⊢
    rw [if_pos rfl, e121_28, e121_29, e121_31, e121_33, if_pos rfl, e121_48, e121_49]
    exact tail
theorem rfs_45 {M' : Nat → Nat → Nat} {v w : Int32} : (rFs ((mFS 42).set 45 (.int v)) M').set 45 (.int w) = rFs ((mFS 42).set 45 (.int w)) M' := by
  unfold rFs
  rw [List.set_comm (i := 21) (j := 45) _ _ (by decide), List.set_comm (i := 20) (j := 45) _ _ (by decide), List.set_set]
theorem mfs_0 : mFS 42 = (mFS 42).set 45 (.int 0) := rfl
/-- a plan that is refused -/
theorem pl_no {a1 a2 a3 a4 a5 a6 : Int32} {p q rv r : Nat} {A : Prop} [Decidable A] {fs : List Value} (hn : ¬ (A ∧ r ≠ 0)) (M2 : mCell h2 42 = some (.inr (11, fs))) (hl : fs.length = 46) :
    mW (mRo 8 xs) mTab 121 96 [some (.ref 42), some (.int a1), some (.int a2), some (.int a3), some (.int a4), some (.int a5), some (.int a6), some (.int (Int32.ofNat rv)), some (.int (pB A)), some (.int (Int32.ofNat p)), some (.int (Int32.ofNat q)), some (.int (Int32.ofNat (3 + 3 * rv)))] [.int 1, .int (pB (r ≠ 0)), .int (pB A), .ref 42] h2 k =
      some (.inl (some (.int 0)), h2.set (42 - 8) (.inr (11, fs.set 45 (.int (qT A (r ≠ 0) True)))), k) := by
  have G := d_goes (L := 8) (xs := xs) (k := k) (P1 := A) (P2 := r ≠ 0) (P3 := True) M2 hl
  rw [pB_neg (fun z : A ∧ r ≠ 0 ∧ True => hn ⟨z.1, z.2.1⟩), show pB True = 1 from rfl] at G
  rw [e121_96 (kR_eq M2) (by simp), G]
  simp only [mAft, Option.toList_some, List.cons_append, List.nil_append]
  rw [e121_99, if_neg (not_not_intro rfl), e121_102, e121_103]
/-- a plan that is written -/
theorem pl_yes {a1 a2 a3 a4 a5 a6 : Int32} {p q rv m : Nat} {M' : Nat → Nat → Nat} {A : Prop} [Decidable A] (hA : A) (hc : p1Can fcan) (h16 : all16 fcl) (hrv : rv < 2) (hp : p < 2048) (hq : q < 2048) (Q : rH rad ((mFS 42).set 45 (.int 0)) M' h2) (R : RC (rAdj enN canN wtF 20 rv) (seedS q 1) (fun _ => False) M') (hw : M' 3 1 = 0)
    (hr : rLeast (rAdj enN canN wtF 20 rv) (seedS q 1) (goalS p) (m + 1)) (hm : m ≤ 600) (c50 : mCell h2 50 = some (.inl (0, 256, .inl fcl))) (c51 : mCell h2 51 = some (.inl (1, 12288, .inl fcan))) (c55 : mCell h2 55 = some (zI 12)) (c56 : mCell h2 56 = some (zI 12)) (c57 : mCell h2 57 = some (zI 24576)) :
    ∃ h3 fs, mW (mRo 8 xs) mTab 121 96 [some (.ref 42), some (.int a1), some (.int a2), some (.int a3), some (.int a4), some (.int a5), some (.int a6), some (.int (Int32.ofNat rv)), some (.int (pB A)), some (.int (Int32.ofNat p)), some (.int (Int32.ofNat q)), some (.int (Int32.ofNat (3 + 3 * rv)))] [.int 1, .int (pB (m + 1 ≠ 0)), .int (pB A), .ref 42] h2 k =
      some (.inl (some (.int 0)), h3, k) ∧ mKeep Pm h2 h3 ∧ mCell h3 42 = some (.inr (11, fs)) ∧ fs[45]? = some (.int 0) := by
  have M2 : mCell h2 42 = some (.inr (11, rFs ((mFS 42).set 45 (.int 0)) M')) := Q.2.1
  have G := d_goes (L := 8) (xs := xs) (k := k) (P1 := A) (P2 := m + 1 ≠ 0) (P3 := True) M2 (r_len Q)
  rw [pB_pos (show A ∧ m + 1 ≠ 0 ∧ True from ⟨hA, by omega, trivial⟩), show pB True = 1 from rfl, show qT A (m + 1 ≠ 0) True = 0 by unfold qT; rw [if_pos hA, if_pos (by omega)]; rfl, rfs_45, cell_same M2] at G
  have V : vH rad ((mFS 42).set 45 (.int 0)) 51 50 20 0 fcan fcl h2 := ⟨⟨rfl, rfl, rfl, rfl⟩, c51, c50, rad_n (by decide), rad_n (by decide)⟩
  -- begins
  have K1 : mKeep (fun x => x = 55) h2 (h2.set (55 - 8) (.inl (0, 12, .inl (upd (fun _ => 0) (Int32.toNatClampNeg 0) (Int32.ofNat p))))) := keep_set c55 rfl rfl
  have S1 : ∀ qq : Nat → (Nat → Int32) → Option mOut, kIS h2 55 0 qq = qq 12 (fun _ => 0) := by
    intro qq; unfold kIS; rw [c55]; rfl
  have r55 : ∀ r, r < 4 → ¬ rad r = 55 := by
    intro r hr
    obtain rfl | rfl | rfl | rfl : r = 0 ∨ r = 1 ∨ r = 2 ∨ r = 3 := by omega
    all_goals decide
  have Q1 := r_keep Q K1 r55
  have V1 : vH rad ((mFS 42).set 45 (.int 0)) 51 50 20 0 fcan fcl (h2.set (55 - 8) (.inl (0, 12, .inl (upd (fun _ => 0) (Int32.toNatClampNeg 0) (Int32.ofNat p))))) := ⟨V.1, (K1.2.2 _ (by decide)).trans V.2.1, (K1.2.2 _ (by decide)).trans V.2.2.1, V.2.2.2⟩
  have d57 := (K1.2.2 57 (by decide)).trans c57
  have d56 := (K1.2.2 56 (by decide)).trans c56
  generalize hg : h2.set (55 - 8) (.inl (0, 12, .inl (upd (fun _ => 0) (Int32.toNatClampNeg 0) (Int32.ofNat p)))) = g1 at K1 Q1 V1 d57 d56
  have M3 : mCell g1 42 = some (.inr (11, rFs ((mFS 42).set 45 (.int 0)) M')) := Q1.2.1
  -- writes
  have h0 := R.1.2.2.2.2.2
  have LB := d_leastBy (L := 8) (xs := xs) (k := k) (p := p) (dr := 2) (kinds := 3 + 3 * rv) geo_N (geo_C hc) (geo_V h16) (show 20 ≤ 100 by decide) can_pos hp (by decide) (by omega) h0 Q1 V1
  have WR : ∃ g2 sum, mW (mRo 8 xs) mTab 144 0 [some (.ref 42), some (.int 0), some (.int (Int32.ofNat p)), some (.int (Int32.ofNat q)), some (.int (Int32.ofNat (3 + 3 * rv))), none, none, none, none, none, none] [] g1 k = some (.inl (some (.int (Int32.ofNat sum))), g2, k) ∧ mKeep (fun x => x = 57) g1 g2 := by
    have hl : lbN (canN p) (byN enN wtF 20 M' p 2) (3 + 3 * rv) 0 1000000 ≤ 1000000 := lb_le _ _ _
    have LOOP : ∃ g2 sum, mW (mRo 8 xs) mTab 144 19 [some (.ref 42), some (.int 0), some (.int (Int32.ofNat p)), some (.int (Int32.ofNat q)), some (.int (Int32.ofNat (3 + 3 * rv))), some (.int (Int32.ofNat p)), some (.int (Int32.ofNat 2)), some (.int (Int32.ofNat (lbN (canN p) (byN enN wtF 20 M' p 2) (3 + 3 * rv) 0 1000000))), some (.int (Int32.ofNat 0)), none, none] [] g1 k = some (.inl (some (.int (Int32.ofNat sum))), g2, k) ∧ mKeep (fun x => x = 57) g1 g2 := by
      by_cases e : p = q
      · exact ⟨g1, 0, by rw [e144_19, e144_21, e144_22, e, if_pos rfl, e144_146, e144_148], keep_refl⟩
      · -- the least of the moves costs no more than the way
        obtain ⟨⟨n, t, gt, wk⟩, _⟩ := hr.2 m rfl
        obtain ⟨t8, tp⟩ := goal_iff.1 gt
        have ha : ∀ s, s < 4096 → ∀ e, e ∈ rAdj enN canN wtF 20 rv s → e.1 < 4096 := by
          rintro s hs ⟨t, w⟩ he
          obtain ⟨p', g, m, h1, h2, _, _, _, _, h3, _⟩ := (mem_rAdj geo_N geo_B hs hrv).1 he
          show t < 4096
          omega
        obtain ⟨E1, E2⟩ := rc_end ha R hw
        have low : lbN (canN p) (byN enN wtF 20 M' p 2) (3 + 3 * rv) 0 1000000 ≤ m := by
          cases n with
          | zero => exfalso; rcases seed_iff.1 wk.1 with z | ⟨_, z⟩ <;> omega
          | succ n =>
            obtain ⟨s, c', w', a, b, d⟩ := wk
            obtain ⟨s8, sc⟩ := E2 n s c' a
            obtain ⟨p', g, mm, k1, k2, k3, k4, k5, k6, k7, k8⟩ := (mem_rAdj geo_N geo_B s8 hrv).1 b
            obtain rfl : p' = p := by omega
            have := lb_all (can := canN p') (b := byN enN wtF 20 M' p' 2) (3 + 3 * rv) 0 1000000 mm (by omega) (by omega) k5
            unfold byN at this
            rw [if_pos (Or.inl rfl), show 2048 * gear mm + (enN p' mm - 1) = s by omega] at this
            unfold byN
            omega
        have ex : p = q ∨ ∃ mm, mm < 3 + 3 * rv ∧ canN p mm ≠ 0 ∧ byN enN wtF 20 M' p 2 mm = lbN (canN p) (byN enN wtF 20 M' p 2) (3 + 3 * rv) 0 1000000 := by
          right
          rcases lb_get (can := canN p) (b := byN enN wtF 20 M' p 2) (3 + 3 * rv) 0 1000000 with z | ⟨mm, m1, m2, m3, m4⟩
          · omega
          · exact ⟨mm, by omega, m3, m4.symm⟩
        obtain ⟨g2, sum, W1, W2⟩ := writes_loop (L := 8) (xs := xs) (k := k) (p0 := p) (mv := 57) geo_N (geo_C hc) (geo_V h16) geo_B (show 20 ≤ 100 by decide) can_pos wt_10 hrv hq R hw rfl (rad_n (by decide)) (by decide) (by decide) _ p 2 _ 0 _ g1 none none (Nat.le_refl _) (by omega) hp (by decide) ex Q1 V1 d57
        exact ⟨g2, sum, W1, W2⟩
    obtain ⟨g2, sum, W1, W2⟩ := LOOP
    refine ⟨g2, sum, ?_, W2⟩
    rw [e144_0, e144_1, e144_3, e144_4, e144_6, e144_7, e144_8, e144_9, e144_11 (kR_eq M3) (by simp), show mW (mRo 8 xs) mTab 113 0 [some (.ref 42), some (.int (Int32.ofNat p)), some (.int 2), some (.int (Int32.ofNat (3 + 3 * rv))), none, none, none] [] g1 k = _ from LB]
    simp only [mAft, Option.toList_some, List.cons_append, List.nil_append]
    rw [e144_14, e144_16, e144_17]
    exact W1
  obtain ⟨g2, sum, W1, W2⟩ := WR
  have M4 : mCell g2 42 = some (.inr (11, rFs ((mFS 42).set 45 (.int 0)) M')) := (W2.2.2 42 (by decide)).trans M3
  have f56 := (W2.2.2 56 (by decide)).trans d56
  have S2 : ∀ qq : Nat → (Nat → Int32) → Option mOut, kIS g2 56 0 qq = qq 12 (fun _ => 0) := by
    intro qq; unfold kIS; rw [f56]; rfl
  have K3 : mKeep Pm g2 (g2.set (56 - 8) (.inl (0, 12, .inl (upd (fun _ => 0) (Int32.toNatClampNeg 0) (Int32.ofNat sum))))) := keep_set f56 rfl (show Pm 56 from ⟨by decide, by decide⟩)
  have M5 := (cell_setne (d := .inl (0, 12, .inl (upd (fun _ => 0) (Int32.toNatClampNeg 0) (Int32.ofNat sum)))) (show 56 ≠ 42 by decide) (by decide)).trans M4
  have K4 : mKeep Pm _ _ := keep_set (d := .inr (11, (rFs ((mFS 42).set 45 (.int 0)) M').set 32 (.int 1))) M5 (by simp [hz1]) (show Pm 42 from ⟨by decide, by decide⟩)
  have M6 := cell_set (d := .inr (11, (rFs ((mFS 42).set 45 (.int 0)) M').set 32 (.int 1))) M5
  have g32 : ∀ {v : Value}, (rFs ((mFS 42).set 45 (.int 0)) M')[32]? = some v ↔ v = .int 0 := by
    intro v; rw [rfs_get (by decide) (by decide)]; exact ⟨fun z => (Option.some.inj z).symm, fun z => by rw [z]; rfl⟩
  have gx : ∀ i, i ≠ 20 → i ≠ 21 → (rFs ((mFS 42).set 45 (.int 0)) M')[i]? = ((mFS 42).set 45 (.int 0))[i]? := fun i h1 h2 => rfs_get h1 h2
  refine ⟨_, _, ?_, keep_trans (keep_trans (keep_trans (keep_mono K1 (fun x hx => by rw [hx]; exact ⟨by decide, by decide⟩)) (keep_mono W2 (fun x hx => by rw [hx]; exact ⟨by decide, by decide⟩))) K3) K4, M6, ?_⟩
  · rw [e121_96 (kR_eq M2) (by simp), G]
    simp only [mAft, Option.toList_some, List.cons_append, List.nil_append]
    rw [e121_99, if_pos (by decide), e121_104, e121_105, kF_eq M2 (v := .ref 55) (gx 33 (by decide) (by decide)), e121_108, e121_109, kF_eq M2 (v := .int 0) (gx 32 (by decide) (by decide)), e121_112, e121_114, S1, hg]
    rw [e121_115, e121_116, kF_eq M3 (v := .ref 56) (gx 34 (by decide) (by decide)), e121_119, e121_120, kF_eq M3 (v := .int 0) (gx 32 (by decide) (by decide)), e121_123, e121_124, e121_125, kF_eq M3 (v := .int 0) (gx 32 (by decide) (by decide)), e121_128, e121_130, e121_132, e121_134 (kR_eq M3) (by simp [Value.category]), W1]
    simp only [mAft, Option.toList_some, List.cons_append, List.nil_append]
    rw [e121_137, S2, e121_138, e121_139r, e121_140, kF_eq M5 (v := .int 0) (gx 32 (by decide) (by decide)), e121_143, e121_144, show (0 : Int32) + 1 = 1 from rfl, e121_145, kP_eq M5 (by rw [r_len Q]; decide), e121_148, e121_149, kF_eq M6 (v := .int 1) (List.getElem?_set_self (by rw [r_len Q]; decide)), e121_152, e121_153, e121_154]
    rfl
  · rw [List.getElem?_set_ne (by decide), rfs_get (by decide) (by decide)]; rfl
end
