section
variable {L : Nat} {xs : Nat → Int32} {k : Nat} {ad : Nat → Nat} {fs0 : List Value} {M : Nat → Nat → Nat} {h : List mCel} {ca cl cu : Nat} {fcan fc : Nat → Int32} {mg : Int32}
/-- the last move that costs what is left: the moves are tried from the highest on down -/
def bestF (can by' : Nat → Nat) (left : Nat) : Nat → Nat → Nat
  | 0, b => b
  | m + 1, b => bestF can by' left m (if can m ≠ 0 ∧ by' m = left then m + 1 else b)
theorem best_get {can by' : Nat → Nat} {left : Nat} : ∀ (d b : Nat), (bestF can by' left d b = b ∧ ∀ m, m < d → ¬ (can m ≠ 0 ∧ by' m = left)) ∨ ∃ m, m < d ∧ bestF can by' left d b = m + 1 ∧ can m ≠ 0 ∧ by' m = left
  | 0, b => Or.inl ⟨rfl, fun m hm => absurd hm (by omega)⟩
  | d + 1, b => by
    unfold bestF
    by_cases c : can d ≠ 0 ∧ by' d = left
    · rw [if_pos c]
      rcases best_get (can := can) (by' := by') (left := left) d (d + 1) with ⟨a, e⟩ | ⟨m, a, e⟩
      · exact Or.inr ⟨d, by omega, a, c⟩
      · exact Or.inr ⟨m, by omega, e⟩
    · rw [if_neg c]
      rcases best_get (can := can) (by' := by') (left := left) d b with ⟨a, e⟩ | ⟨m, a, e⟩
      · refine Or.inl ⟨a, fun m hm => ?_⟩
        by_cases q : m = d
        · rw [q]; exact c
        · exact e m (by omega)
      · exact Or.inr ⟨m, by omega, e⟩
theorem dec_lt0 {d : Nat} (hd : d ≤ 4096) : (qDec 1 d < 0) = (d = 0) := by
  apply propext
  cases d with
  | zero => rw [enc_zero]; decide
  | succ d => rw [enc_succ]; exact ⟨fun z => absurd z (oi_nneg (by omega)), fun z => by omega⟩
theorem best_loop {en can : Nat → Nat → Nat} {wt : Nat → Nat → Nat → Nat} {p dr left : Nat} {l1 l2 l3 l4 l8 : Option Value} (HN : geoN en) (HC : geoC fcan can) (HV : geoV fc mg en wt) (hcu : cu ≤ 100) (hcan : ∀ p m, p < 2048 → m < 6 → can p m ≠ 0 → 0 < en p m) (hp : p < 2048) (hd : dr < 3) (hleft : left < 2 ^ 31) (h0 : ∀ s, s < 4096 → M 0 s ≤ 1000000) (Q : rH ad fs0 M h) (V : vH ad fs0 ca cl cu mg fcan fc h) (d : Nat) :
    ∀ (b : Nat), d ≤ 6 → b ≤ 6 →
    mW (mRo L xs) mTab 144 34 [some (.ref (ad 3)), l1, l2, l3, l4, some (.int (Int32.ofNat p)), some (.int (Int32.ofNat dr)), some (.int (Int32.ofNat left)), l8, some (.int (qDec 1 b)), some (.int (qDec 1 d))] [] h k = mW (mRo L xs) mTab 144 85 [some (.ref (ad 3)), l1, l2, l3, l4, some (.int (Int32.ofNat p)), some (.int (Int32.ofNat dr)), some (.int (Int32.ofNat left)), l8, some (.int (qDec 1 (bestF (can p) (byN en wt cu M p dr) left d b))), some (.int (qDec 1 0))] [] h k := by
  obtain ⟨⟨v1, v2, v3, v4⟩, v5, v6, v7, v8⟩ := id V
  induction d with
  | zero =>
    intro b _ _
    rw [e144_34, e144_36]
    simp only [dec_lt0 (show 0 ≤ 4096 by omega), if_true]
    rfl
  | succ d IH =>
    intro b hd6 hb6
    obtain ⟨C1, C2⟩ := HC p d hp (by omega)
    have h6 : (6 : Int32) * Int32.ofNat p + Int32.ofNat d = Int32.ofNat (6 * p + d) := by rw [oi_add, oi_mul]; rfl
    have hin : 0 ≤ (Int32.ofNat (6 * p + d)).toInt ∧ (Int32.ofNat (6 * p + d)).toInt < (12288 : Nat) := by rw [oi_int (by omega)]; omega
    have nn := oi_nneg (i := d) (by omega)
    have bs : bestF (can p) (byN en wt cu M p dr) left (d + 1) b = bestF (can p) (byN en wt cu M p dr) left d (if can p d ≠ 0 ∧ byN en wt cu M p dr d = left then d + 1 else b) := rfl
    rw [bs, enc_succ, e144_34, e144_36, if_neg nn, e144_39, e144_40, r_F Q (by decide) (by decide) v4, e144_43, e144_45, e144_47, e144_48, e144_50, h6, e144_51, kBA_bool v5 hin, oi_nat (by omega), C1, e144_52]
    have nx : ∀ (st : Int32) (b' : Nat), b' ≤ 6 → st = qDec 1 b' → mW (mRo L xs) mTab 144 77 [some (.ref (ad 3)), l1, l2, l3, l4, some (.int (Int32.ofNat p)), some (.int (Int32.ofNat dr)), some (.int (Int32.ofNat left)), l8, some (.int (qDec 1 b)), some (.int (Int32.ofNat d))] [.int st] h k = mW (mRo L xs) mTab 144 85 [some (.ref (ad 3)), l1, l2, l3, l4, some (.int (Int32.ofNat p)), some (.int (Int32.ofNat dr)), some (.int (Int32.ofNat left)), l8, some (.int (qDec 1 (bestF (can p) (byN en wt cu M p dr) left d b'))), some (.int (qDec 1 0))] [] h k := by
      intro st b' hb' hst
      rw [hst, e144_77, e144_79, e144_82]
      exact IH b' (by omega) hb'
    by_cases c : can p d = 0
    · rw [c, if_pos (by decide), if_neg (fun z => z.1 rfl), e144_75]
      exact nx _ b hb6 rfl
    · have c1 : can p d = 1 := by omega
      have he := hcan p d hp (by omega) c
      have hb : byN en wt cu M p dr d < 2 ^ 31 := by
        have W2 := (HV p d hp (by omega) he).2
        have N2 := (HN p d hp (by omega)).2
        have hg := gear_lt d
        have := h0 (2048 * gear d + (en p d - 1)) (by omega)
        have b1 : (if dr = 2 ∨ dr = gear d then 0 else cu) ≤ cu := by
          by_cases y0 : dr = 2 ∨ dr = gear d
          · rw [if_pos y0]; omega
          · rw [if_neg y0]; omega
        unfold byN; omega
      have eqv : (Int32.ofNat (byN en wt cu M p dr d) = Int32.ofNat left) = (byN en wt cu M p dr d = left) := by
        apply propext; constructor
        · intro y
          have := congrArg Int32.toNatClampNeg y
          rwa [oi_nat hb, oi_nat hleft] at this
        · intro y; rw [y]
      rw [c1, if_neg (by decide), e144_55, e144_56, e144_58, e144_60, e144_62 (r_R Q) (by simp [Value.category]), d_by (can := can) HN HV hcu hp (by omega) hd he h0 Q V]
      simp only [mAft, Option.toList_some, List.cons_append, List.nil_append]
      rw [e144_65, e144_67]
      simp only [eqv]
      by_cases y : byN en wt cu M p dr d = left
      · rw [if_neg (not_not_intro y), if_pos ⟨by decide, y⟩, e144_70, e144_72]
        exact nx _ (d + 1) (by omega) (enc_succ d).symm
      · rw [if_pos y, if_neg (fun z => y z.2), e144_75]
        exact nx _ b hb6 rfl
theorem writes_loop {en can : Nat → Nat → Nat} {wt : Nat → Nat → Nat → Nat} {q rv mv p0 : Nat} (HN : geoN en) (HC : geoC fcan can) (HV : geoV fc mg en wt) (HB : geoB en) (hcu : cu ≤ 100) (hcan : ∀ p m, p < 2048 → m < 6 → can p m ≠ 0 → 0 < en p m) (h10 : ∀ p m q, 10 ≤ wt p m q) (hrv : rv < 2) (hq : q < 2048)
    (R : RC (rAdj en can wt cu rv) (seedS q 1) (fun _ => False) M) (hw : M 3 1 = 0) (hmv : fs0[35]? = some (.ref mv)) (hm1 : ¬ rAd ad mv) (hm2 : mv ≠ ca) (hm3 : mv ≠ cl) (n : Nat) :
    ∀ (p dr left sum : Nat) (g : Nat → Int32) (h : List mCel) (l9 l10 : Option Value), left ≤ n → sum * 10 + left ≤ 20000 → p < 2048 → dr < 3 → (p = q ∨ ∃ m, m < 3 + 3 * rv ∧ can p m ≠ 0 ∧ byN en wt cu M p dr m = left) → rH ad fs0 M h → vH ad fs0 ca cl cu mg fcan fc h → mCell h mv = some (.inl (0, 24576, .inl g)) →
    ∃ h' sum', mW (mRo L xs) mTab 144 19 [some (.ref (ad 3)), some (.int 0), some (.int (Int32.ofNat p0)), some (.int (Int32.ofNat q)), some (.int (Int32.ofNat (3 + 3 * rv))), some (.int (Int32.ofNat p)), some (.int (Int32.ofNat dr)), some (.int (Int32.ofNat left)), some (.int (Int32.ofNat sum)), l9, l10] [] h k = some (.inl (some (.int (Int32.ofNat sum'))), h', k) ∧ mKeep (fun x => x = mv) h h' := by
  have ha : ∀ s, s < 4096 → ∀ e, e ∈ rAdj en can wt cu rv s → e.1 < 4096 := by
    rintro s hs ⟨t, w⟩ he
    obtain ⟨p', g, m, h1, h2, _, _, _, _, h3, _⟩ := (mem_rAdj HN HB hs hrv).1 he
    show t < 4096
    omega
  obtain ⟨E1, E2⟩ := rc_end ha R hw
  have h0 := R.1.2.2.2.2.2
  have peq : ∀ p, p < 2048 → (Int32.ofNat p = Int32.ofNat q) = (p = q) := by
    intro p hp; apply propext; constructor
    · intro y
      have := congrArg Int32.toNatClampNeg y
      rwa [oi_nat (by omega), oi_nat (by omega)] at this
    · rintro rfl; rfl
  have fin : ∀ (p dr left sum : Nat) (g : Nat → Int32) (h : List mCel) (l9 l10 : Option Value), p = q → ∃ h' sum', mW (mRo L xs) mTab 144 19 [some (.ref (ad 3)), some (.int 0), some (.int (Int32.ofNat p0)), some (.int (Int32.ofNat q)), some (.int (Int32.ofNat (3 + 3 * rv))), some (.int (Int32.ofNat p)), some (.int (Int32.ofNat dr)), some (.int (Int32.ofNat left)), some (.int (Int32.ofNat sum)), l9, l10] [] h k = some (.inl (some (.int (Int32.ofNat sum'))), h', k) ∧ mKeep (fun x => x = mv) h h' := by
    intro p dr left sum g h l9 l10 e
    exact ⟨h, sum, by rw [e144_19, e144_21, e144_22, e, if_pos rfl, e144_146, e144_148], keep_refl⟩
  induction n with
  | zero =>
    intro p dr left sum g h l9 l10 hn hs hp hd hx Q V Mv
    rcases hx with e | ⟨m, m1, m2, m3⟩
    · exact fin p dr left sum g h l9 l10 e
    · exfalso
      have := h10 p m (en p m - 1)
      unfold byN at m3
      omega
  | succ n IH =>
    intro p dr left sum g h l9 l10 hn hs hp hd hx Q V Mv
    by_cases e : p = q
    · exact fin p dr left sum g h l9 l10 e
    obtain ⟨m0, m1, m2, m3⟩ := hx.resolve_left e
    have BL := best_loop (L := L) (xs := xs) (k := k) (l1 := some (.int 0)) (l2 := some (.int (Int32.ofNat p0))) (l3 := some (.int (Int32.ofNat q))) (l4 := some (.int (Int32.ofNat (3 + 3 * rv)))) (l8 := some (.int (Int32.ofNat sum))) HN HC HV hcu hcan hp hd (show left < 2 ^ 31 by omega) h0 Q V (3 + 3 * rv) 0 (by omega) (by omega)
    rcases best_get (can := can p) (by' := byN en wt cu M p dr) (left := left) (3 + 3 * rv) 0 with ⟨_, no⟩ | ⟨m, mk, mb, mc, my⟩
    · exact absurd ⟨m2, m3⟩ (no m0 m1)
    rw [mb, enc_succ] at BL
    have he := hcan p m hp (by omega) mc
    obtain ⟨N1, N2⟩ := HN p m hp (by omega)
    have hg := gear_lt m
    have s8 : 2048 * gear m + (en p m - 1) < 4096 := by omega
    have w10 := h10 p m (en p m - 1)
    have lft : M 0 (2048 * gear m + (en p m - 1)) + 10 ≤ left := by unfold byN at my; omega
    have hin : 0 ≤ (Int32.ofNat sum).toInt ∧ (Int32.ofNat sum).toInt < (24576 : Nat) := by rw [oi_int (by omega)]; omega
    have S : ∀ (qq : Nat → (Nat → Int32) → Option mOut), kIS h mv (Int32.ofNat sum) qq = qq 24576 g := by
      intro qq; unfold kIS; rw [Mv]; simp only [if_pos hin]
    have K1 : mKeep (fun x => x = mv) h (h.set (mv - 8) (.inl (0, 24576, .inl (upd g (Int32.ofNat sum).toNatClampNeg (Int32.ofNat m))))) := keep_set Mv rfl rfl
    have Q1 := r_keep Q K1 (fun r hr z => hm1 ⟨r, hr, z.symm⟩)
    have V1 : vH ad fs0 ca cl cu mg fcan fc (h.set (mv - 8) (.inl (0, 24576, .inl (upd g (Int32.ofNat sum).toNatClampNeg (Int32.ofNat m))))) := ⟨V.1, (K1.2.2 _ (fun z => hm2 z.symm)).trans V.2.1, (K1.2.2 _ (fun z => hm3 z.symm)).trans V.2.2.1, V.2.2.2⟩
    have hgb : mW (mRo L xs) mTab 110 0 [some (.int (Int32.ofNat m))] [] (h.set (mv - 8) (.inl (0, 24576, .inl (upd g (Int32.ofNat sum).toNatClampNeg (Int32.ofNat m))))) k = some (.inl (some (.int (pB (2 < Int32.ofNat m)))), (h.set (mv - 8) (.inl (0, 24576, .inl (upd g (Int32.ofNat sum).toNatClampNeg (Int32.ofNat m))))), k) := d_isReverse
    have lt2 : (2 < Int32.ofNat m) = (2 < m) := oi_lt (by decide) (by omega)
    have nextcond : en p m - 1 = q ∨ ∃ m', m' < 3 + 3 * rv ∧ can (en p m - 1) m' ≠ 0 ∧ byN en wt cu M (en p m - 1) (gear m) m' = M 0 (2048 * gear m + (en p m - 1)) := by
      rcases E1 _ s8 with z | ⟨w, wk⟩
      · omega
      · cases w with
        | zero =>
          left
          have := seed_iff.1 wk.1
          rcases this with z | ⟨_, z⟩ <;> omega
        | succ w =>
          obtain ⟨s, c', ww, a1, a2, a3⟩ := wk
          obtain ⟨s9, sc⟩ := E2 w s c' a1
          obtain ⟨p', g', m', k1, k2, k3, k4, k5, k6, k7, k8⟩ := (mem_rAdj HN HB s9 hrv).1 a2
          have hg' := gear_lt m'
          obtain rfl : p' = en p m - 1 := by omega
          have g2 : g' = gear m := by omega
          right
          refine ⟨m', k3, k5, ?_⟩
          have low : M 0 (2048 * gear m + (en p m - 1)) ≤ M 0 s + ww := by
            rcases E1 s s9 with z | ⟨v, vk⟩
            · have := h0 _ s8; omega
            · exact (E2 (v + 1) _ _ ⟨s, M 0 s, ww, vk, a2, rfl⟩).2
          unfold byN
          rw [show 2048 * gear m' + (en (en p m - 1) m' - 1) = s by omega]
          subst g2
          by_cases y : gear m = gear m'
          · rw [if_pos (Or.inr y)]; rw [if_pos y] at k8; omega
          · rw [if_neg (fun z => z.elim (fun z => by omega) y)]; rw [if_neg y] at k8; omega
    obtain ⟨h2, sum', I1, I2⟩ := IH (en p m - 1) (gear m) (M 0 (2048 * gear m + (en p m - 1))) (sum + 1) _ _ (some (.int (Int32.ofNat m))) (some (.int (qDec 1 0))) (by omega) (by omega) (by omega) (by omega) nextcond Q1 V1 (cell_set Mv)
    refine ⟨h2, sum', ?_, keep_trans K1 I2⟩
    rw [e144_19, e144_21, e144_22]
    simp only [peq p hp]
    have km : Int32.ofNat (3 + 3 * rv) - 1 = qDec 1 (3 + 3 * rv) := by
      rw [oi_sub1 (by omega), dec_put (by omega)]
    rw [if_neg e, e144_25, e144_26, e144_28, e144_30, e144_31, km, e144_32, ← enc_zero, BL]
    rw [e144_85, e144_86, r_F Q (by decide) (by decide) hmv, e144_89, e144_92, e144_93, show (2048 : Int32) * 0 = 0 from rfl, e144_94, e144_96, Int32.zero_add, e144_97, e144_99, S]
    rw [e144_100, e144_102 (by simp), hgb]
    simp only [mAft, Option.toList_some, List.cons_append, List.nil_append]
    have G : ∀ hh, mW (mRo L xs) mTab 144 105 [some (.ref (ad 3)), some (.int 0), some (.int (Int32.ofNat p0)), some (.int (Int32.ofNat q)), some (.int (Int32.ofNat (3 + 3 * rv))), some (.int (Int32.ofNat p)), some (.int (Int32.ofNat dr)), some (.int (Int32.ofNat left)), some (.int (Int32.ofNat sum)), some (.int (Int32.ofNat m)), some (.int (qDec 1 0))] [.int (pB (2 < Int32.ofNat m))] hh k =
        mW (mRo L xs) mTab 144 115 [some (.ref (ad 3)), some (.int 0), some (.int (Int32.ofNat p0)), some (.int (Int32.ofNat q)), some (.int (Int32.ofNat (3 + 3 * rv))), some (.int (Int32.ofNat p)), some (.int (Int32.ofNat (gear m))), some (.int (Int32.ofNat left)), some (.int (Int32.ofNat sum)), some (.int (Int32.ofNat m)), some (.int (qDec 1 0))] [] hh k := by
      intro hh
      rw [e144_105]
      unfold gear
      by_cases y : m < 3
      · rw [pB_neg (by rw [lt2]; omega), if_pos rfl, if_pos y, e144_112, e144_113]; rfl
      · rw [pB_pos (by rw [lt2]; omega), if_neg (by decide), if_neg y, e144_108, e144_109, e144_113]; rfl
    rw [G, e144_115, e144_117, e144_119 (by simp), d_endOf, N1, dec_put he]
    simp only [mAft, Option.toList_some, List.cons_append, List.nil_append]
    rw [e144_122, e144_124, e144_125, r_F19 Q1, e144_128, e144_131, e144_133, e144_134, e144_136, show (2048 : Int32) * Int32.ofNat (gear m) + Int32.ofNat (en p m - 1) = Int32.ofNat (2048 * gear m + (en p m - 1)) by rw [oi_add, oi_mul]; rfl, e144_137, r_A Q1 (by decide) s8, e144_138, e144_140, oi_succ, e144_143]
    exact I1
end
