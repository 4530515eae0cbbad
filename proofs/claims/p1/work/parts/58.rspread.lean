section
variable {L : Nat} {xs : Nat → Int32} {k : Nat} {ad : Nat → Nat} {fs0 : List Value} {M : Nat → Nat → Nat} {h : List mCel} {ca cl cu : Nat} {fcan fc : Nat → Int32} {mg : Int32}
/-- what the reference's search reads -/
def vH (ad : Nat → Nat) (fs0 : List Value) (ca cl cu : Nat) (mg : Int32) (fcan fc : Nat → Int32) (h : List mCel) : Prop :=
  (fs0[10]? = some (.int (Int32.ofNat cu)) ∧ fs0[11]? = some (.int mg) ∧ fs0[17]? = some (.ref cl) ∧ fs0[18]? = some (.ref ca)) ∧
  mCell h ca = some (.inl (1, 12288, .inl fcan)) ∧ mCell h cl = some (.inl (0, 256, .inl fc)) ∧ ¬ rAd ad ca ∧ ¬ rAd ad cl
theorem v_keep {h' : List mCel} (V : vH ad fs0 ca cl cu mg fcan fc h) (K : mKeep (rAd ad) h h') : vH ad fs0 ca cl cu mg fcan fc h' :=
  ⟨V.1, (K.2.2 _ V.2.2.2.1).trans V.2.1, (K.2.2 _ V.2.2.2.2).trans V.2.2.1, V.2.2.2⟩
def dOf (fc : Nat → Int32) (mg p m : Int32) (q : Nat) : Int32 := qSteps (p / 256) m + (if fc (q % 256) < mg then 5 * (mg - fc (q % 256)) else 0)
theorem d_costOf (Q : rH ad fs0 M h) (V : vH ad fs0 ca cl cu mg fcan fc h) {p m : Int32} {v : Nat} (hv : v ≤ 2048) (he : qEnd p m = qDec 1 v) (hp : 0 < v) :
    mW (mRo L xs) mTab 82 0 [some (.ref (ad 3)), some (.int p), some (.int m), none, none] [] h k = some (.inl (some (.int (dOf fc mg p m (v - 1)))), h, k) := by
  obtain ⟨⟨v1, v2, v3, v4⟩, v5, v6, v7, v8⟩ := V
  rw [e82_0, e82_1, e82_2 (by simp), d_endOf, he, dec_put hp]
  simp only [mAft, Option.toList_some, List.cons_append, List.nil_append]
  have ne : ¬ Int32.ofNat (v - 1) = -1 := by
    intro y; have := oi_nneg (i := v - 1) (by omega); rw [y] at this; exact this (by decide)
  have hin : 0 ≤ (Int32.ofNat ((v - 1) % 256)).toInt ∧ (Int32.ofNat ((v - 1) % 256)).toInt < (256 : Nat) := by rw [oi_int (by omega)]; omega
  rw [e82_5, e82_6, e82_7, r_F Q (by decide) (by decide) v3, e82_10, e82_11, e82_12, if_pos ne, e82_19, e82_20, e82_23 (by decide), show (256 : Int32) = Int32.ofNat 256 from rfl, oi_rem (by omega) (by decide), e82_24, kIA_int v6 hin, oi_nat (by omega)]
  rw [e82_25, e82_27, e82_28, e82_31 (by decide), e82_32, e82_33 (by simp [Value.category]), d_steps]
  simp only [mAft, Option.toList_some, List.cons_append, List.nil_append]
  rw [e82_36, e82_38, e82_39, r_F Q (by decide) (by decide) v2, e82_42]
  unfold dOf
  by_cases z : mg ≤ fc ((v - 1) % 256)
  · rw [if_pos z, if_neg (Int32.not_lt.2 z), e82_57, e82_58, e82_59]
  · rw [if_neg z, if_pos (Int32.not_le.1 z), e82_45, e82_46, e82_47, r_F Q (by decide) (by decide) v2, e82_50, e82_52, e82_53, e82_54, e82_58, e82_59]
def geoN (en : Nat → Nat → Nat) : Prop := ∀ p m, p < 2048 → m < 6 → qEnd (Int32.ofNat p) (Int32.ofNat m) = qDec 1 (en p m) ∧ en p m ≤ 2048
def geoC (fcan : Nat → Int32) (can : Nat → Nat → Nat) : Prop := ∀ p m, p < 2048 → m < 6 → fcan (6 * p + m) = Int32.ofNat (can p m) ∧ can p m ≤ 1
def geoV (fc : Nat → Int32) (mg : Int32) (en : Nat → Nat → Nat) (wt : Nat → Nat → Nat → Nat) : Prop := ∀ p m, p < 2048 → m < 6 → 0 < en p m → dOf fc mg (Int32.ofNat p) (Int32.ofNat m) (en p m - 1) = Int32.ofNat (wt p m (en p m - 1)) ∧ wt p m (en p m - 1) ≤ 49
/-- a move's opposite leads back -/
def geoB (en : Nat → Nat → Nat) : Prop := ∀ q m, q < 2048 → m < 6 → 0 < en q ((m + 3) % 6) → en (en q ((m + 3) % 6) - 1) m = q + 1
def rEntry (en can : Nat → Nat → Nat) (wt : Nat → Nat → Nat → Nat) (cu q g m : Nat) : List (Nat × Nat) :=
  if en q ((m + 3) % 6) = 0 then [] else if can (en q ((m + 3) % 6) - 1) m = 0 then [] else
    [(en q ((m + 3) % 6) - 1, wt (en q ((m + 3) % 6) - 1) m q + (if g = 0 then 0 else cu)), (2048 + (en q ((m + 3) % 6) - 1), wt (en q ((m + 3) % 6) - 1) m q + (if g = 1 then 0 else cu))]
theorem rl_same {s t c w : Nat} (I : RI M) (ht : t < 4096) (hc : M 0 s = c) : rLower M t (c + w) 0 s = c := by
  rw [(ri_lower I ht).2.1, if_neg]
  · exact hc
  · rintro ⟨z1, z2⟩; rw [← z1] at z2; omega
theorem back_loop {en can : Nat → Nat → Nat} {wt : Nat → Nat → Nat → Nat} {s kinds c : Nat} (HN : geoN en) (HC : geoC fcan can) (HV : geoV fc mg en wt) (HB : geoB en) (hcu : cu ≤ 100) (hs : s < 4096) (hk : 3 * (s / 2048) + 3 ≤ kinds) (hk6 : kinds ≤ 6) (hc : c ≤ 1000000) (d : Nat) :
    ∀ (i : Nat) (M : Nat → Nat → Nat) (h : List mCel) (l5 l6 : Option Value), i + d = 3 * (s / 2048) + 3 → rH ad fs0 M h → RI M → M 0 s = c → vH ad fs0 ca cl cu mg fcan fc h →
    ∃ h', mW (mRo L xs) mTab 96 11 [some (.ref (ad 3)), some (.int (Int32.ofNat s)), some (.int (Int32.ofNat kinds)), some (.int (Int32.ofNat (s / 2048))), some (.int (Int32.ofNat i)), l5, l6] [] h k = some (.inl none, h', k) ∧ mKeep (rAd ad) h h' ∧
      rH ad fs0 (rLows c ((List.range' i d).flatMap (rEntry en can wt cu (s % 2048) (s / 2048))) M) h' := by
  have hg : s / 2048 < 2 := by omega
  have h3g : 3 * Int32.ofNat (s / 2048) + 3 = Int32.ofNat (3 * (s / 2048) + 3) := by rw [oi_add, oi_mul]; rfl
  induction d with
  | zero =>
    intro i M h l5 l6 hi Q I hM V
    obtain rfl : i = 3 * (s / 2048) + 3 := by omega
    rw [e96_11, e96_13, e96_14, e96_15, e96_16, e96_17, h3g, e96_18, if_pos (Int32.le_refl _), e96_136]
    exact ⟨h, rfl, keep_refl, Q⟩
  | succ d IH =>
    intro i M h l5 l6 hi Q I hM V
    obtain ⟨⟨v1, v2, v3, v4⟩, v5, v6, v7, v8⟩ := id V
    have n1 : ¬ (Int32.ofNat (3 * (s / 2048) + 3) ≤ Int32.ofNat i) := by rw [oi_le (by omega) (by omega)]; omega
    have n2 : ¬ (Int32.ofNat kinds ≤ Int32.ofNat i) := by rw [oi_le (by omega) (by omega)]; omega
    have hq : s % 2048 < 2048 := Nat.mod_lt _ (by decide)
    have ho : (i + 3) % 6 < 6 := Nat.mod_lt _ (by decide)
    obtain ⟨N1, N2⟩ := HN (s % 2048) ((i + 3) % 6) hq ho
    have rem1 : Int32.ofNat s - Int32.ofNat s / 2048 * 2048 = Int32.ofNat (s % 2048) := oi_rem (by omega) (by decide)
    have rem2 : Int32.ofNat i + 3 - (Int32.ofNat i + 3) / 6 * 6 = Int32.ofNat ((i + 3) % 6) := by
      rw [show Int32.ofNat i + 3 = Int32.ofNat (i + 3) from (oi_add _ _).symm]; exact oi_rem (by omega) (by decide)
    rw [e96_11, e96_13, e96_14, e96_15, e96_16, e96_17, h3g, e96_18, if_neg n1, e96_21, e96_23, e96_24, if_neg n2]
    rw [e96_27, e96_28, e96_31 (by decide), rem1, e96_32, e96_34, e96_35, e96_36, e96_38 (by decide), rem2, e96_39 (by simp), d_endOf, N1]
    simp only [mAft, Option.toList_some, List.cons_append, List.nil_append]
    rw [e96_42, e96_44, e96_46, e96_47]
    simp only [enc_eq (show en (s % 2048) ((i + 3) % 6) ≤ 4096 by omega)]
    rw [List.range'_succ, List.flatMap_cons]
    have hfe : rEntry en can wt cu (s % 2048) (s / 2048) i = if en (s % 2048) ((i + 3) % 6) = 0 then [] else if can (en (s % 2048) ((i + 3) % 6) - 1) i = 0 then [] else
      [(en (s % 2048) ((i + 3) % 6) - 1, wt (en (s % 2048) ((i + 3) % 6) - 1) i (s % 2048) + (if s / 2048 = 0 then 0 else cu)), (2048 + (en (s % 2048) ((i + 3) % 6) - 1), wt (en (s % 2048) ((i + 3) % 6) - 1) i (s % 2048) + (if s / 2048 = 1 then 0 else cu))] := rfl
    have hb := HB (s % 2048) i hq (by omega)
    generalize hev : en (s % 2048) ((i + 3) % 6) = ev at *
    by_cases z : ev = 0
    · rw [if_pos z, hfe, if_pos z, e96_130, e96_133, oi_succ, List.nil_append]
      exact IH (i + 1) M h _ _ (by omega) Q I hM V
    · rw [if_neg z, hfe, if_neg z]
      have hp : 0 < ev := by omega
      have hb := hb hp
      generalize hu : ev - 1 = u at *
      have hu8 : u < 2048 := by omega
      obtain ⟨C1, C2⟩ := HC u i hu8 (by omega)
      have h6 : (6 : Int32) * Int32.ofNat u + Int32.ofNat i = Int32.ofNat (6 * u + i) := by rw [oi_add, oi_mul]; rfl
      have hin : 0 ≤ (Int32.ofNat (6 * u + i)).toInt ∧ (Int32.ofNat (6 * u + i)).toInt < (12288 : Nat) := by rw [oi_int (by omega)]; omega
      rw [dec_put hp, hu, e96_50, e96_51, r_F Q (by decide) (by decide) v4, e96_54, e96_56, e96_58, e96_59, e96_61, h6, e96_62, kBA_bool v5 hin, oi_nat (by omega), C1, e96_63]
      by_cases y : can u i = 0
      · rw [y, if_pos (by decide), if_pos rfl, e96_130, e96_133, oi_succ, List.nil_append]
        exact IH (i + 1) M h _ _ (by omega) Q I hM V
      · have y1 : can u i = 1 := by omega
        rw [if_neg y, y1, if_neg (by decide)]
        have hen := hb
        obtain ⟨W1, W2⟩ := HV u i hu8 (by omega) (by omega)
        have D := d_costOf (L := L) (xs := xs) (k := k) Q V (p := Int32.ofNat u) (m := Int32.ofNat i) (v := s % 2048 + 1) (by omega) (by rw [(HN u i hu8 (by omega)).1, hen]) (by omega)
        rw [hen, Nat.add_sub_cancel] at W1 W2
        rw [Nat.add_sub_cancel, W1] at D
        rw [e96_66, e96_67, e96_69, e96_71 (r_R Q) (by simp), D]
        simp only [mAft, Option.toList_some, List.cons_append, List.nil_append]
        rw [e96_74, e96_75, r_F19 Q, e96_78, e96_79, r_A Q (by decide) hs, hM, e96_80, ← oi_add, Nat.add_comm (wt u i (s % 2048)) c, e96_81]
        have T1 : mW (mRo L xs) mTab 96 88 [some (.ref (ad 3)), some (.int (Int32.ofNat s)), some (.int (Int32.ofNat kinds)), some (.int (Int32.ofNat (s / 2048))), some (.int (Int32.ofNat i)), some (.int (Int32.ofNat u)), some (.int (Int32.ofNat (c + wt u i (s % 2048))))] [.int (Int32.ofNat (c + wt u i (s % 2048))), .int (Int32.ofNat u), .ref (ad 3)] h k =
            mW (mRo L xs) mTab 96 101 [some (.ref (ad 3)), some (.int (Int32.ofNat s)), some (.int (Int32.ofNat kinds)), some (.int (Int32.ofNat (s / 2048))), some (.int (Int32.ofNat i)), some (.int (Int32.ofNat u)), some (.int (Int32.ofNat (c + wt u i (s % 2048))))] [.int (Int32.ofNat (c + (wt u i (s % 2048) + (if s / 2048 = 0 then 0 else cu)))), .int (Int32.ofNat u), .ref (ad 3)] h k := by
          rw [e96_88, e96_89, ← Nat.add_assoc, oi_add (c + wt u i (s % 2048))]
          by_cases y0 : s / 2048 = 0
          · rw [y0, if_neg (by decide), if_pos rfl, e96_92, e96_93, e96_100]; rfl
          · rw [show s / 2048 = 1 by omega, if_pos (by decide), if_neg (by decide), e96_96, e96_97, r_F Q (by decide) (by decide) v1, e96_100]
        have b1 : (if s / 2048 = 0 then 0 else cu) ≤ cu := by
          by_cases y0 : s / 2048 = 0
          · rw [if_pos y0]; omega
          · rw [if_neg y0]; omega
        have b2 : (if s / 2048 = 1 then 0 else cu) ≤ cu := by
          by_cases y0 : s / 2048 = 1
          · rw [if_pos y0]; omega
          · rw [if_neg y0]; omega
        obtain ⟨h1, A1, A2, A3⟩ := d_lowers (L := L) (xs := xs) (k := k) Q I (s := u) (c := c + (wt u i (s % 2048) + (if s / 2048 = 0 then 0 else cu))) (by omega) (by omega)
        have I1 := (ri_lower (c := c + (wt u i (s % 2048) + (if s / 2048 = 0 then 0 else cu))) I (show u < 4096 by omega)).1
        have M1 := rl_same (w := wt u i (s % 2048) + (if s / 2048 = 0 then 0 else cu)) I (show u < 4096 by omega) hM
        have V1 := v_keep V A2
        have T2 : mW (mRo L xs) mTab 96 111 [some (.ref (ad 3)), some (.int (Int32.ofNat s)), some (.int (Int32.ofNat kinds)), some (.int (Int32.ofNat (s / 2048))), some (.int (Int32.ofNat i)), some (.int (Int32.ofNat u)), some (.int (Int32.ofNat (c + wt u i (s % 2048))))] [.int (Int32.ofNat (2048 + u)), .ref (ad 3)] h1 k =
            mW (mRo L xs) mTab 96 127 [some (.ref (ad 3)), some (.int (Int32.ofNat s)), some (.int (Int32.ofNat kinds)), some (.int (Int32.ofNat (s / 2048))), some (.int (Int32.ofNat i)), some (.int (Int32.ofNat u)), some (.int (Int32.ofNat (c + wt u i (s % 2048))))] [.int (Int32.ofNat (c + (wt u i (s % 2048) + (if s / 2048 = 1 then 0 else cu)))), .int (Int32.ofNat (2048 + u)), .ref (ad 3)] h1 k := by
          rw [e96_111, e96_113, e96_114, e96_115, ← Nat.add_assoc, oi_add (c + wt u i (s % 2048))]
          by_cases y0 : s / 2048 = 1
          · rw [y0, if_neg (by decide), if_pos rfl, e96_118, e96_119, e96_126]; rfl
          · rw [show s / 2048 = 0 by omega, if_pos (by decide), if_neg (by decide), e96_122, e96_123, r_F A3 (by decide) (by decide) v1, e96_126]
        obtain ⟨h2, B1, B2, B3⟩ := d_lowers (L := L) (xs := xs) (k := k) A3 I1 (s := 2048 + u) (c := c + (wt u i (s % 2048) + (if s / 2048 = 1 then 0 else cu))) (by omega) (by omega)
        have I2 := (ri_lower (c := c + (wt u i (s % 2048) + (if s / 2048 = 1 then 0 else cu))) I1 (show 2048 + u < 4096 by omega)).1
        have M2 := rl_same (w := wt u i (s % 2048) + (if s / 2048 = 1 then 0 else cu)) I1 (show 2048 + u < 4096 by omega) M1
        obtain ⟨h3, D1, D2, D3⟩ := IH (i + 1) _ h2 (some (.int (Int32.ofNat u))) (some (.int (Int32.ofNat (c + wt u i (s % 2048))))) (by omega) B3 I2 M2 (v_keep V1 B2)
        refine ⟨h3, ?_, keep_trans (keep_trans A2 B2) D2, D3⟩
        rw [e96_83, e96_84, e96_86, T1, e96_101 (r_R Q) (by simp), A1]
        simp only [mAft, Option.toList_none, List.nil_append]
        rw [e96_104, e96_105, e96_108, e96_110, show (2048 : Int32) + Int32.ofNat u = Int32.ofNat (2048 + u) from (oi_add _ _).symm, T2, e96_127 (r_R A3) (by simp), B1]
        simp only [mAft, Option.toList_none, List.nil_append]
        rw [e96_130, e96_133, oi_succ]
        exact D1
def rAdj (en can : Nat → Nat → Nat) (wt : Nat → Nat → Nat → Nat) (cu rv s : Nat) : List (Nat × Nat) :=
  if s / 2048 ≤ rv then (List.range' (3 * (s / 2048)) 3).flatMap (rEntry en can wt cu (s % 2048) (s / 2048)) else []
theorem d_goesBack {en can : Nat → Nat → Nat} {wt : Nat → Nat → Nat → Nat} {s rv : Nat} (HN : geoN en) (HC : geoC fcan can) (HV : geoV fc mg en wt) (HB : geoB en) (hcu : cu ≤ 100) (hs : s < 4096) (hrv : rv < 2) (Q : rH ad fs0 M h) (I : RI M) (V : vH ad fs0 ca cl cu mg fcan fc h) :
    ∃ h', mW (mRo L xs) mTab 96 0 [some (.ref (ad 3)), some (.int (Int32.ofNat s)), some (.int (Int32.ofNat (3 + 3 * rv))), none, none, none, none] [] h k = some (.inl none, h', k) ∧ mKeep (rAd ad) h h' ∧ rH ad fs0 (rLows (M 0 s) (rAdj en can wt cu rv s) M) h' := by
  have hd : Int32.ofNat s / 2048 = Int32.ofNat (s / 2048) := oi_div (by omega) (by decide)
  have h3 : (3 : Int32) * Int32.ofNat (s / 2048) = Int32.ofNat (3 * (s / 2048)) := (oi_mul _ _).symm
  rw [e96_0, e96_1, e96_4 (by decide), hd, e96_5, e96_6, e96_7, e96_8, h3, e96_9]
  unfold rAdj
  by_cases z : s / 2048 ≤ rv
  · rw [if_pos z]
    exact back_loop (L := L) (xs := xs) (k := k) HN HC HV HB hcu hs (by omega) (by omega) (I.2.2.2.2.2 s hs) 3 (3 * (s / 2048)) M h none none rfl Q I rfl V
  · have z0 : rv = 0 := by omega
    have z1 : s / 2048 = 1 := by omega
    rw [if_neg z, z0, z1, e96_11, e96_13, e96_14, e96_15, e96_16, e96_17, e96_18, if_neg (by decide), e96_21, e96_23, e96_24, if_pos (by decide), e96_136]
    exact ⟨h, rfl, keep_refl, Q⟩
end
