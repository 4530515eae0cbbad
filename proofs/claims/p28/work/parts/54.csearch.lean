section
variable {L : Nat} {xs : Nat → Int32} {k : Nat} {ad : Nat → Nat} {w F P op cl cu : Nat} {fw fF : List Value} {mg : Int32} {fo fc : Nat → Int32}
theorem cnt_false : ∀ n, cnt (fun _ => false) n = 0
  | 0 => rfl
  | n + 1 => by rw [cnt, cnt_false n]; rfl
theorem cl_0 {N : Nat → Nat → Nat} {s : Nat} (hs : s < 4096) : nClear N 0 s = 536870912 := by
  unfold nClear; rw [nu_row (by decide), nu_row (by decide)]; unfold nFill; rw [if_neg (by omega), if_pos ⟨rfl, hs⟩]
theorem cl_3 {N : Nat → Nat → Nat} {r : Nat} (hr : r < 256) : nClear N 3 r = 0 := by
  unfold nClear; rw [nu_row (by decide), nu_row (by decide)]; unfold nFill; rw [if_pos ⟨rfl, hr⟩]
theorem cl_12 {N : Nat → Nat → Nat} {r j : Nat} (hr : r = 1 ∨ r = 2) : nClear N r j = N r j := by
  unfold nClear; rw [nu_row (by omega), nu_row (by omega)]; unfold nFill; rw [if_neg (by omega), if_neg (by omega)]
theorem cl_si {N : Nat → Nat → Nat} (o : qOk N) : SI (nClear N) (fun _ => false) 0 := by
  refine ⟨?_, by unfold nClear; exact nu_eq, by decide, (fun t z => by cases z), fun _ => false, fun _ => 0, 0, ?_, ?_⟩
  · intro j hj
    have := o j hj
    rw [cl_0 hj, cl_12 (Or.inl rfl), cl_12 (Or.inr rfl)]
    exact ⟨by decide, this.2.1, this.2.2.1, fun z => by rw [cl_3 z]; omega⟩
  · refine ⟨(fun s z => by cases z), (fun s z => by cases z), (fun s z => by cases z), fun r hr => Or.inl (cl_3 hr), ?_⟩
    rw [cnt_false]; unfold nClear; rw [nu_ne (by decide)]; exact nu_eq
  · intro s; constructor
    · intro z; cases z
    · rintro ⟨a, b, _⟩; rw [cl_0 a] at b; omega
def seedL (p rv : Nat) : List (Nat × Nat) := (p, 0) :: (if rv = 0 then [] else [(p + 2048, 0)])
def seedS (p rv t : Nat) : Bool := decide (t = p ∨ rv ≠ 0 ∧ t = p + 2048)
theorem seed_mem {p rv t : Nat} {w : Nat} : (t, w) ∈ seedL p rv ↔ seedS p rv t = true ∧ w = 0 := by
  unfold seedL seedS
  by_cases z : rv = 0
  · simp [z]
  · simp [z]; omega
theorem seed_bi {adj : Nat → List (Nat × Nat)} {p rv : Nat} {N : Nat → Nat → Nat} (hp : p < 2048) (o : qOk N) : BI adj (seedS p rv) (nLows 0 (seedL p rv) (nClear N)) (fun _ => false) := by
  have S := cl_si o
  have hl : ∀ e, e ∈ seedL p rv → e.1 < 4096 ∧ e.2 ≤ 149 := by
    rintro ⟨t, w⟩ he
    rw [seed_mem] at he
    unfold seedS at he
    have := of_decide_eq_true he.1
    exact ⟨by show t < 4096; omega, by show w ≤ 149; omega⟩
  have S2 := si_cost (s := 0) (seedL p rv) _ S hl
  obtain ⟨_, hlev, _, _, J, rk, cl, I, D⟩ := S
  obtain ⟨J2, rk2, cl2, b1, b2, b3, b4, b5, b6, b7⟩ := nLows_ok (c := 0) (by decide) (seedL p rv) (nClear N) J rk cl I D hl hlev (fun t z => by cases z)
  refine ⟨S2.1, J2, rk2, cl2, b1, b2, ?_, ?_, ?_⟩
  · intro s hs hf
    rcases b6 s with q | ⟨w, q, r⟩
    · rw [q, cl_0 hs] at hf; omega
    · rw [seed_mem] at q
      rw [r, q.2]
      exact ⟨by omega, 0, q.1, rfl⟩
  · intro s z; cases z
  · intro s z
    have h8 := (hl (s, 0) (seed_mem.2 ⟨z, rfl⟩)).1
    have := b5 (s, 0) (seed_mem.2 ⟨z, rfl⟩)
    exact ⟨h8, Nat.le_zero.1 this⟩
theorem nRun_at {adj : Nat → List (Nat × Nat)} {goal : Nat → Bool} : ∀ (d : Nat) (N : Nat → Nat → Nat) (m : Nat), (nRun adj goal d N).1 = m + 1 → ∃ s, goal s = true ∧ (nRun adj goal d N).2 0 s = m
  | 0, N, m, h => by simp [nRun] at h
  | d + 1, N, m, h => by
    unfold nRun at h ⊢
    by_cases z : (nTake 256 N).1 = 0
    · rw [if_pos z] at h; simp at h
    · rw [if_neg z] at h ⊢
      by_cases g : goal ((nTake 256 N).1 - 1) = true
      · rw [if_pos g] at h ⊢
        exact ⟨_, g, by simp only [] at h ⊢; omega⟩
      · rw [if_neg g] at h ⊢
        exact nRun_at d _ m h
theorem c_searched {e : Nat → Nat → Nat} {wt : Nat → Nat → Nat → Nat} {rv fe p gl : Nat} {N : Nat → Nat → Nat} {h : List mCel} (HE : geoE fo e) (HW : geoW fc mg wt) (hcu : cu ≤ 100) (hrv : rv < 2) (hfe : fe < 2) (hp : p < 2048) (hgl : gl < 2048)
    (Q : qH ad N h) (W : wH ad w F P op cl fw fF (Int32.ofNat cu) mg fo fc h) (o : qOk N) :
    ∃ h' r, mW (mRo L xs) mTab 150 0 [some (.ref w), some (.int (Int32.ofNat p)), some (.int (Int32.ofNat gl)), some (.int (Int32.ofNat rv)), some (.int (Int32.ofNat fe)), none, none, none, none] [] h k = some (.inl (some (.int (qDec 1 r))), h', k) ∧ mKeep (qAd ad) h h' ∧ (∃ N', qH ad N' h' ∧ qOk N' ∧ ∀ m, r = m + 1 → (∃ s, goalS gl s = true ∧ N' 0 s = m) ∧ gLab (adjS e wt cu rv fe) (seedS p rv) N' m) ∧
      ((p ≠ gl ∧ ¬ (pOpen fo (Int32.ofNat p) ∧ pOpen fo (Int32.ofNat gl))) → r = 0) ∧ (p = gl ∨ (pOpen fo (Int32.ofNat p) ∧ pOpen fo (Int32.ofNat gl)) → gLeast (adjS e wt cu rv fe) (seedS p rv) (goalS gl) r) := by
  obtain ⟨⟨a1, a2, a3, a4⟩, ⟨b1, b2, b3⟩, cP, cO, cC, nn⟩ := id W
  have hpg : (Int32.ofNat p = Int32.ofNat gl) = (p = gl) := by
    apply propext; constructor
    · intro y
      have := congrArg Int32.toNatClampNeg y
      rwa [oi_nat (by omega), oi_nat (by omega)] at this
    · rintro rfl; rfl
  have main : ∃ h' r, mW (mRo L xs) mTab 150 29 [some (.ref w), some (.int (Int32.ofNat p)), some (.int (Int32.ofNat gl)), some (.int (Int32.ofNat rv)), some (.int (Int32.ofNat fe)), none, none, none, none] [] h k = some (.inl (some (.int (qDec 1 r))), h', k) ∧ mKeep (qAd ad) h h' ∧ (∃ N', qH ad N' h' ∧ qOk N' ∧ ∀ m, r = m + 1 → (∃ s, goalS gl s = true ∧ N' 0 s = m) ∧ gLab (adjS e wt cu rv fe) (seedS p rv) N' m) ∧ gLeast (adjS e wt cu rv fe) (seedS p rv) (goalS gl) r := by
    obtain ⟨h1, A1, A2, A3⟩ := c_qClear (L := L) (xs := xs) (k := k) Q
    have S := cl_si o
    obtain ⟨h2, B1, B2, B3, B4⟩ := c_lowS (L := L) (xs := xs) (k := k) A3 S (s := p) (w := 0) (by omega) (by omega)
    have W1 := w_keep W A2
    have W2 := w_keep W1 B2
    have fin : ∀ h3, mKeep (qAd ad) h h3 → qH ad (nLows 0 (seedL p rv) (nClear N)) h3 → ∃ h' r, mW (mRo L xs) mTab 150 66 [some (.ref w), some (.int (Int32.ofNat p)), some (.int (Int32.ofNat gl)), some (.int (Int32.ofNat rv)), some (.int (Int32.ofNat fe)), none, none, none, none] [] h3 k = some (.inl (some (.int (qDec 1 r))), h', k) ∧ mKeep (qAd ad) h h' ∧ (∃ N', qH ad N' h' ∧ qOk N' ∧ ∀ m, r = m + 1 → (∃ s, goalS gl s = true ∧ N' 0 s = m) ∧ gLab (adjS e wt cu rv fe) (seedS p rv) N' m) ∧ gLeast (adjS e wt cu rv fe) (seedS p rv) (goalS gl) r := by
      intro h3 K3 Q3
      have B := seed_bi (adj := adjS e wt cu rv fe) (rv := rv) hp o
      obtain ⟨h4, C1, C2, C3, C4⟩ := search_loop (L := L) (xs := xs) (k := k) (sdp := p) HE HW hcu hrv hfe hgl 4096 0 _ h3 _ none none none (by omega) Q3 (w_keep W K3) B
      refine ⟨h4, (nRun (adjS e wt cu rv fe) (goalS gl) 4096 (nLows 0 (seedL p rv) (nClear N))).1, ?_, keep_trans K3 C2, ⟨_, C3, C4, fun m hm => ⟨nRun_at 4096 _ m hm, by
        obtain ⟨_, J, rk, cl, I, D, DD⟩ := B
        refine nRun_lab (adj_ok HE HW hcu hrv) (fun t z => ?_) 4096 _ J _ rk cl I D DD (fun t z => by cases z) (by rw [cnt_false]) m hm
        unfold goalS at z; exact (of_decide_eq_true z).1⟩⟩, ?_⟩
      · rw [e150_66, e150_67]; exact C1
      · obtain ⟨_, J, rk, cl, I, D, DD⟩ := B
        refine nRun_ok (adj_ok HE HW hcu hrv) (fun t z => ?_) 4096 _ J _ rk cl I D DD (fun t z => by cases z) (by rw [cnt_false])
        unfold goalS at z; exact (of_decide_eq_true z).1
    have s0 : (if (0 : Int32) = 0 then Int32.ofNat p else Int32.ofNat p + 2048) = Int32.ofNat p := if_pos rfl
    have s1 : (if (1 : Int32) = 0 then Int32.ofNat p else Int32.ofNat p + 2048) = Int32.ofNat (p + 2048) := by rw [if_neg (by decide), oi_add]; rfl
    rw [e150_29, e150_30, kF_eq a1 a4, e150_33 (q_R Q) (by simp), A1]
    simp only [mAft, Option.toList_none, List.nil_append]
    rw [e150_36, e150_37, kF_eq W1.1.1 a4, e150_40, e150_41, e150_42 (by simp [Value.category]), c_stateOf, s0]
    simp only [mAft, Option.toList_some, List.cons_append, List.nil_append]
    rw [e150_45, e150_46 (q_R A3) (by simp), show (0 : Int32) = Int32.ofNat (0 + 0) from rfl, B1]
    simp only [mAft, Option.toList_none, List.nil_append]
    rw [e150_49, e150_50]
    obtain rfl | rfl : rv = 0 ∨ rv = 1 := by omega
    · rw [if_pos (by decide)]
      exact fin h2 (keep_trans A2 B2) B3
    · obtain ⟨h3, C1, C2, C3, C4⟩ := c_lowS (L := L) (xs := xs) (k := k) B3 B4 (s := p + 2048) (w := 0) (by omega) (by omega)
      rw [if_neg (by decide), e150_53, e150_54, kF_eq W2.1.1 a4, e150_57, e150_58, e150_59 (by simp [Value.category]), c_stateOf, s1]
      simp only [mAft, Option.toList_some, List.cons_append, List.nil_append]
      rw [e150_62, e150_63 (q_R B3) (by simp), show (0 : Int32) = Int32.ofNat (0 + 0) from rfl, C1]
      simp only [mAft, Option.toList_none, List.nil_append]
      exact fin h3 (keep_trans (keep_trans A2 B2) C2) C3
  rw [e150_0, e150_1, e150_2]
  simp only [hpg]
  by_cases y : p = gl
  · rw [if_pos y]
    obtain ⟨h', r, m1, m2, m3, m4⟩ := main
    exact ⟨h', r, m1, m2, m3, fun z => absurd y z.1, fun _ => m4⟩
  · have O := fun q : Int32 => c_isOpen (L := L) (xs := xs) (k := k) (p := q) b1 b3 cO
    have bad : ∃ h' r, mW (mRo L xs) mTab 150 27 [some (.ref w), some (.int (Int32.ofNat p)), some (.int (Int32.ofNat gl)), some (.int (Int32.ofNat rv)), some (.int (Int32.ofNat fe)), none, none, none, none] [] h k = some (.inl (some (.int (qDec 1 r))), h', k) ∧ mKeep (qAd ad) h h' ∧ (∃ N', qH ad N' h' ∧ qOk N' ∧ ∀ m, r = m + 1 → (∃ s, goalS gl s = true ∧ N' 0 s = m) ∧ gLab (adjS e wt cu rv fe) (seedS p rv) N' m) ∧ r = 0 :=
      ⟨h, 0, by rw [e150_27, e150_28, enc_zero], keep_refl, ⟨N, Q, o, fun m hm => by omega⟩, rfl⟩
    rw [if_neg y, e150_5, e150_6, kF_eq a1 a2, e150_9, e150_10 (kR_eq b1) (by simp [Value.category]), O]
    simp only [mAft, Option.toList_some, List.cons_append, List.nil_append]
    rw [e150_13]
    by_cases o1 : pOpen fo (Int32.ofNat p)
    · rw [if_pos o1, if_neg (by decide), e150_16, e150_17, kF_eq a1 a2, e150_20, e150_21 (kR_eq b1) (by simp [Value.category]), O]
      simp only [mAft, Option.toList_some, List.cons_append, List.nil_append]
      rw [e150_24]
      by_cases o2 : pOpen fo (Int32.ofNat gl)
      · rw [if_pos o2, if_pos (by decide)]
        obtain ⟨h', r, m1, m2, m3, m4⟩ := main
        exact ⟨h', r, m1, m2, m3, fun z => absurd ⟨o1, o2⟩ z.2, fun _ => m4⟩
      · rw [if_neg o2, if_neg (by decide)]
        obtain ⟨h', r, m1, m2, m3, m4⟩ := bad
        exact ⟨h', r, m1, m2, m3, fun _ => m4, fun z => z.elim (fun q => absurd q y) (fun q => absurd q.2 o2)⟩
    · rw [if_neg o1, if_pos (by decide)]
      obtain ⟨h', r, m1, m2, m3, m4⟩ := bad
      exact ⟨h', r, m1, m2, m3, fun _ => m4, fun z => z.elim (fun q => absurd q y) (fun q => absurd q.1 o1)⟩
end
