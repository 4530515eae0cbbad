def JD (N : Nat → Nat → Nat) (J tk : Nat → Bool) : Prop := ∀ s, J s = true ↔ s < 4096 ∧ N 0 s < 536870912 ∧ tk s = false
theorem nLower_ok {N : Nat → Nat → Nat} {J tk : Nat → Bool} {rk : Nat → Nat} {cl s c : Nat} (h : QI N J rk cl) (hj : JD N J tk) (hs : s < 4096) (hc : N 4 1 ≤ c ∧ c < N 4 1 + 256) (hf : c < 536870912) (ht : tk s = true → N 0 s ≤ c) :
    ∃ J' rk' cl', QI (nLower N s c) J' rk' cl' ∧ JD (nLower N s c) J' tk ∧ (∀ j, nLower N s c 0 j = if j = s ∧ c < N 0 s then c else N 0 j) ∧ nLower N s c 4 1 = N 4 1 := by
  unfold nLower
  by_cases e : N 0 s ≤ c
  · rw [if_pos e]
    exact ⟨J, rk, cl, h, hj, fun j => by rw [if_neg (by omega)], rfl⟩
  · rw [if_neg e]
    have htk : tk s = false := by
      cases hq : tk s
      · rfl
      · exact absurd (ht hq) e
    have key : ∀ (M : Nat → Nat → Nat) (K : Nat → Bool), QI M K rk cl → (∀ t, K t = true ↔ J t = true ∧ t ≠ s) → (∀ j, M 0 j = N 0 j) → M 4 1 = N 4 1 →
        ∃ J' rk' cl', QI (nLink (nu M 0 s c) s) J' rk' cl' ∧ JD (nLink (nu M 0 s c) s) J' tk ∧ (∀ j, nLink (nu M 0 s c) s 0 j = if j = s ∧ c < N 0 s then c else N 0 j) ∧ nLink (nu M 0 s c) s 4 1 = N 4 1 := by
      intro M K hM hK h0 hl
      have hKs : K s = false := by
        cases hq : K s
        · rfl
        · exact absurd rfl ((hK s).1 hq).2
      have h0' : ∀ j, nu M 0 s c 0 j = if j = s ∧ c < N 0 s then c else N 0 j := by
        intro j; unfold nu
        by_cases q : j = s
        · subst q; rw [if_pos ⟨rfl, rfl⟩, if_pos ⟨rfl, by omega⟩]
        · rw [if_neg (fun z => q z.2), if_neg (fun z => q z.1), h0]
      have hl' : nu M 0 s c 4 1 = N 4 1 := by rw [nu_row (by decide), hl]
      refine ⟨updN K s true, updN rk s cl, cl + 1, QI_ln (QI_cost hM hKs) hKs hs (by rw [hl', nu_eq]; exact hc), ?_, ?_, ?_⟩
      · intro t; rw [ln_0, h0']; unfold updN
        by_cases q : t = s
        · subst q; rw [if_pos rfl, if_pos ⟨rfl, by omega⟩]; simp [hs, hf, htk]
        · rw [if_neg q, if_neg (fun z => q z.1)]
          have := hj t; have := hK t
          constructor
          · intro z; exact (hj t).1 ((hK t).1 z).1
          · intro z; exact (hK t).2 ⟨(hj t).2 z, q⟩
      · intro j; rw [ln_0, h0']
      · rw [ln_41, hl']
    by_cases f : N 0 s < 536870912
    · rw [if_pos f]
      have js : J s = true := (hj s).2 ⟨hs, f, htk⟩
      refine key (nUnlink N s) (updN J s false) (QI_un h js) ?_ (fun j => un_0) un_41
      intro t; unfold updN
      by_cases q : t = s
      · rw [if_pos q]; constructor
        · intro z; cases z
        · intro z; exact absurd q z.2
      · rw [if_neg q]; exact ⟨fun z => ⟨z, q⟩, fun z => z.1⟩
    · rw [if_neg f]
      have js : J s = false := by
        cases hq : J s
        · rfl
        · exact absurd ((hj s).1 hq).2.1 f
      refine key N J h ?_ (fun j => rfl) rfl
      intro t; constructor
      · intro z; exact ⟨z, fun w => by rw [w, js] at z; cases z⟩
      · intro z; exact z.1
def nLows (c : Nat) : List (Nat × Nat) → (Nat → Nat → Nat) → (Nat → Nat → Nat)
  | [], N => N
  | e :: l, N => nLows c l (nLower N e.1 (c + e.2))
theorem nLows_ok {tk : Nat → Bool} {c : Nat} (hf : c + 149 < 536870912) : ∀ (l : List (Nat × Nat)) (N : Nat → Nat → Nat) (J : Nat → Bool) (rk : Nat → Nat) (cl : Nat), QI N J rk cl → JD N J tk → (∀ e, e ∈ l → e.1 < 4096 ∧ e.2 ≤ 149) → N 4 1 = c → (∀ t, tk t = true → N 0 t ≤ c) →
    ∃ J' rk' cl', QI (nLows c l N) J' rk' cl' ∧ JD (nLows c l N) J' tk ∧ nLows c l N 4 1 = c ∧ (∀ t, nLows c l N 0 t ≤ N 0 t) ∧ (∀ e, e ∈ l → nLows c l N 0 e.1 ≤ c + e.2) ∧ (∀ t, nLows c l N 0 t = N 0 t ∨ ∃ w, (t, w) ∈ l ∧ nLows c l N 0 t = c + w) ∧ (∀ t, tk t = true → nLows c l N 0 t = N 0 t)
  | [], N, J, rk, cl, h, hj, _, hl, _ => ⟨J, rk, cl, h, hj, hl, fun _ => Nat.le_refl _, fun _ z => by simp at z, fun _ => Or.inl rfl, fun _ _ => rfl⟩
  | e :: l, N, J, rk, cl, h, hj, hw, hl, ht => by
    have he := hw e (List.mem_cons_self ..)
    obtain ⟨J1, rk1, cl1, a1, a2, a3, a4⟩ := nLower_ok (c := c + e.2) h hj he.1 (by omega) (by omega) (fun z => by have := ht _ z; omega)
    have hle : ∀ t, nLower N e.1 (c + e.2) 0 t ≤ N 0 t := by intro t; rw [a3]; split <;> (try omega); rename_i z; rw [z.1]; omega
    have htk : ∀ t, tk t = true → nLower N e.1 (c + e.2) 0 t = N 0 t := by
      intro t z; rw [a3, if_neg]; rintro ⟨q, w⟩; have := ht t z; rw [q] at this; omega
    obtain ⟨J2, rk2, cl2, b1, b2, b3, b4, b5, b6, b7⟩ := nLows_ok hf l (nLower N e.1 (c + e.2)) J1 rk1 cl1 a1 a2 (fun e' z => hw e' (List.mem_cons_of_mem _ z)) (by rw [a4, hl]) (fun t z => by rw [htk t z]; exact ht t z)
    refine ⟨J2, rk2, cl2, b1, b2, b3, ?_, ?_, ?_, ?_⟩
    · intro t; exact Nat.le_trans (b4 t) (hle t)
    · intro e' z
      rcases List.mem_cons.1 z with z | z
      · subst z; refine Nat.le_trans (b4 _) ?_; rw [a3]; split <;> omega
      · exact b5 e' z
    · intro t
      rcases b6 t with q | ⟨w, q, r⟩
      · show nLows c l (nLower N e.1 (c + e.2)) 0 t = _ ∨ _
        by_cases z : t = e.1 ∧ c + e.2 < N 0 e.1
        · refine Or.inr ⟨e.2, ?_, ?_⟩
          · rw [z.1]; exact List.mem_cons_self ..
          · show nLows c l (nLower N e.1 (c + e.2)) 0 t = _
            rw [q, a3, if_pos z]
        · rw [q, a3, if_neg z]; exact Or.inl rfl
      · exact Or.inr ⟨w, List.mem_cons_of_mem _ q, r⟩
    · intro t z; exact (b7 t z).trans (htk t z)
/-- walks from the seeds: how many edges, where to, at which cost -/
def gW (adj : Nat → List (Nat × Nat)) (sd : Nat → Bool) : Nat → Nat → Nat → Prop
  | 0, t, c => sd t = true ∧ c = 0
  | n + 1, t, c => ∃ s c' w, gW adj sd n s c' ∧ (t, w) ∈ adj s ∧ c = c' + w
def nRun (adj : Nat → List (Nat × Nat)) (goal : Nat → Bool) : Nat → (Nat → Nat → Nat) → Nat × (Nat → Nat → Nat)
  | 0, N => (0, N)
  | d + 1, N => if (nTake 256 N).1 = 0 then (0, (nTake 256 N).2) else if goal ((nTake 256 N).1 - 1) = true then ((nTake 256 N).2 0 ((nTake 256 N).1 - 1) + 1, (nTake 256 N).2)
    else nRun adj goal d (nLows ((nTake 256 N).2 0 ((nTake 256 N).1 - 1)) (adj ((nTake 256 N).1 - 1)) (nTake 256 N).2)
def DI (adj : Nat → List (Nat × Nat)) (sd : Nat → Bool) (N : Nat → Nat → Nat) (tk : Nat → Bool) : Prop :=
  (∀ s, s < 4096 → N 0 s < 536870912 → N 0 s ≤ 149 * cnt tk 4096 ∧ ∃ n, gW adj sd n s (N 0 s)) ∧
  (∀ s, tk s = true → s < 4096 ∧ N 0 s < 536870912 ∧ N 0 s ≤ N 4 1 ∧ ∀ e, e ∈ adj s → N 0 e.1 ≤ N 0 s + e.2) ∧
  (∀ s, sd s = true → s < 4096 ∧ N 0 s = 0)
/-- what the search says: the least cost of a walk to a goal, if there is one -/
def gLeast (adj : Nat → List (Nat × Nat)) (sd goal : Nat → Bool) (r : Nat) : Prop :=
  (r = 0 → ∀ n t c, goal t = true → ¬ gW adj sd n t c) ∧
  (∀ m, r = m + 1 → m ≤ 149 * 4096 ∧ (∃ n t, goal t = true ∧ gW adj sd n t m) ∧ ∀ n t c, goal t = true → gW adj sd n t c → m ≤ c)
theorem nRun_ok {adj : Nat → List (Nat × Nat)} {sd goal : Nat → Bool} (ha : ∀ s, s < 4096 → ∀ e, e ∈ adj s → e.1 < 4096 ∧ e.2 ≤ 149) (hg : ∀ t, goal t = true → t < 4096) :
    ∀ (d : Nat) (N : Nat → Nat → Nat) (J tk : Nat → Bool) (rk : Nat → Nat) (cl : Nat), QI N J rk cl → JD N J tk → DI adj sd N tk → (∀ t, tk t = true → goal t = false) → d + cnt tk 4096 = 4096 →
    gLeast adj sd goal (nRun adj goal d N).1
  | 0, N, J, tk, rk, cl, h, hj, hd, ht, hn => by
    refine ⟨fun _ n t c gt => ?_, fun m z => by simp [nRun] at z⟩
    have := hg t gt
    have e : tk t = true := by
      cases hq : tk t
      · have := cnt_lt hq this; omega
      · rfl
    rw [ht t e] at gt; cases gt
  | d + 1, N, J, tk, rk, cl, h, hj, hd, ht, hn => by
    have hcnt : cnt tk 4096 ≤ 4095 := by omega
    by_cases ex : ∃ t, J t = true
    · obtain ⟨t0, ht0⟩ := ex
      obtain ⟨s, k1, k2, k3, k4, k5, k6⟩ := nTake_get 256 N h ⟨t0, ht0, (h.1 t0 ht0).2.2.1⟩
      have hs := (hj s).1 k2
      -- every walk is taken, or costs at least what was taken
      have W : ∀ n t c, gW adj sd n t c → N 0 t ≤ c ∨ N 0 s ≤ c := by
        intro n
        induction n with
        | zero => intro t c w; left; have := (hd.2.2 t w.1).2; omega
        | succ n ih =>
          rintro t c ⟨u, c', w, a, b, rfl⟩
          rcases ih u c' a with q | q
          · by_cases z : tk u = true
            · left; have := (hd.2.1 u z).2.2.2 _ b; simp only [] at this; omega
            · right
              by_cases f : N 0 u < 536870912
              · by_cases f8 : u < 4096
                · have := k3 u ((hj u).2 ⟨f8, f, by simpa using z⟩); omega
                · exfalso
                  -- walks stay among the states
                  have : ∀ n t c, gW adj sd n t c → t < 4096 := by
                    intro n
                    induction n with
                    | zero => intro t c w; exact (hd.2.2 t w.1).1
                    | succ n ih => rintro t c ⟨u, c', w, a, b, _⟩; exact (ha u (ih u c' a) _ b).1
                  exact f8 (this _ _ _ a)
              · omega
          · right; omega
      unfold nRun
      rw [k1, if_neg (by omega), Nat.add_sub_cancel, k5]
      by_cases g : goal s = true
      · rw [if_pos g]
        refine ⟨fun z => by simp at z, ?_⟩
        intro m hm
        simp only [] at hm
        have : m = N 0 s := by omega
        subst this
        refine ⟨by have := (hd.1 s hs.1 hs.2.1).1; omega, ?_, ?_⟩
        · obtain ⟨n, w⟩ := (hd.1 s hs.1 hs.2.1).2; exact ⟨n, s, g, w⟩
        · intro n t c gt w
          rcases W n t c w with q | q
          · by_cases f : N 0 t < 536870912
            · have htt : tk t = false := by
                cases hq : tk t
                · rfl
                · rw [ht t hq] at gt; cases gt
              have := k3 t ((hj t).2 ⟨hg t gt, f, htt⟩); omega
            · omega
          · exact q
      · rw [if_neg g]
        have hbd := (hd.1 s hs.1 hs.2.1).1
        have hcs : tk s = false := hs.2.2
        have hcn := cnt_on hcs 4096 hs.1
        have hj' : JD (nTake 256 N).2 (updN J s false) (updN tk s true) := by
          intro t; rw [k5]; unfold updN
          by_cases q : t = s
          · rw [if_pos q, if_pos q]; simp
          · rw [if_neg q, if_neg q]; exact hj t
        have htk' : ∀ t, updN tk s true t = true → (nTake 256 N).2 0 t ≤ N 0 s := by
          intro t z; rw [k5]; unfold updN at z
          by_cases q : t = s
          · subst q; omega
          · rw [if_neg q] at z
            have := (hd.2.1 t z).2.2.1; have := (h.1 s k2).2.1; omega
        obtain ⟨J2, rk2, cl2, b1, b2, b3, b4, b5, b6, b7⟩ := nLows_ok (c := N 0 s) (by omega) (adj s) (nTake 256 N).2 (updN J s false) rk cl k4 hj' (ha s hs.1) k6 htk'
        simp only [k5] at b4 b6 b7
        refine nRun_ok ha hg d _ J2 (updN tk s true) rk2 cl2 b1 b2 ?_ ?_ (by omega)
        · refine ⟨?_, ?_, ?_⟩
          · intro t ht8 hf
            rcases b6 t with q | ⟨w, q, r⟩
            · rw [q] at hf ⊢
              obtain ⟨u, v⟩ := hd.1 t ht8 hf
              exact ⟨by omega, v⟩
            · rw [r]
              have hw := (ha s hs.1 _ q).2
              simp only [] at hw
              refine ⟨by omega, ?_⟩
              obtain ⟨n, v⟩ := (hd.1 s hs.1 hs.2.1).2
              exact ⟨n + 1, s, N 0 s, w, v, q, rfl⟩
          · intro t z
            rw [b7 t z, b3]
            have z' := z
            unfold updN at z
            by_cases q : t = s
            · subst q; exact ⟨hs.1, hs.2.1, Nat.le_refl _, fun e he => b5 e he⟩
            · rw [if_neg q] at z
              obtain ⟨u1, u2, u3, u4⟩ := hd.2.1 t z
              refine ⟨u1, u2, ?_, fun e he => Nat.le_trans (b4 _) (u4 e he)⟩
              have := (h.1 s k2).2.1; omega
          · intro t z
            obtain ⟨u1, u2⟩ := hd.2.2 t z
            refine ⟨u1, ?_⟩
            have := b4 t; omega
        · intro t z; unfold updN at z
          by_cases q : t = s
          · subst q; simpa using g
          · rw [if_neg q] at z; exact ht t z
    · have hnJ : ∀ t, J t = false := by
        intro t; cases hq : J t
        · rfl
        · exact absurd ⟨t, hq⟩ ex
      unfold nRun
      rw [nTake_none 256 N h hnJ, if_pos rfl]
      refine ⟨fun _ n t c gt w => ?_, fun m z => by simp at z⟩
      have C : ∀ n t c, gW adj sd n t c → t < 4096 ∧ N 0 t < 536870912 := by
        intro n
        induction n with
        | zero => intro t c w; have := hd.2.2 t w.1; exact ⟨this.1, by omega⟩
        | succ n ih =>
          rintro t c ⟨u, c', w, a, b, _⟩
          obtain ⟨q1, q2⟩ := ih u c' a
          have hb := ha u q1 _ b
          simp only [] at hb
          have z : tk u = true := by
            cases hq : tk u
            · have := (hj u).2 ⟨q1, q2, hq⟩; rw [hnJ u] at this; cases this
            · rfl
          have e := (hd.2.1 u z).2.2.2 _ b
          have := (hd.1 u q1 q2).1
          simp only [] at e
          exact ⟨hb.1, by omega⟩
      obtain ⟨q1, q2⟩ := C n t c w
      have z : tk t = true := by
        cases hq : tk t
        · have := (hj t).2 ⟨q1, q2, hq⟩; rw [hnJ t] at this; cases this
        · rfl
      rw [ht t z] at gt; cases gt
/-- labels where the search stops: each is the cost of a walk, and those below where it stopped are least -/
def gLab (adj : Nat → List (Nat × Nat)) (sd : Nat → Bool) (N : Nat → Nat → Nat) (m : Nat) : Prop :=
  (∀ t, t < 4096 → N 0 t < 536870912 → ∃ n, gW adj sd n t (N 0 t)) ∧ ∀ n t c, gW adj sd n t c → N 0 t ≤ c ∨ m ≤ c
theorem nRun_lab {adj : Nat → List (Nat × Nat)} {sd goal : Nat → Bool} (ha : ∀ s, s < 4096 → ∀ e, e ∈ adj s → e.1 < 4096 ∧ e.2 ≤ 149) (hg : ∀ t, goal t = true → t < 4096) :
    ∀ (d : Nat) (N : Nat → Nat → Nat) (J tk : Nat → Bool) (rk : Nat → Nat) (cl : Nat), QI N J rk cl → JD N J tk → DI adj sd N tk → (∀ t, tk t = true → goal t = false) → d + cnt tk 4096 = 4096 →
    ∀ m, (nRun adj goal d N).1 = m + 1 → gLab adj sd (nRun adj goal d N).2 m
  | 0, N, J, tk, rk, cl, h, hj, hd, ht, hn => by
    intro m z
    simp [nRun] at z
  | d + 1, N, J, tk, rk, cl, h, hj, hd, ht, hn => by
    have hcnt : cnt tk 4096 ≤ 4095 := by omega
    by_cases ex : ∃ t, J t = true
    · obtain ⟨t0, ht0⟩ := ex
      obtain ⟨s, k1, k2, k3, k4, k5, k6⟩ := nTake_get 256 N h ⟨t0, ht0, (h.1 t0 ht0).2.2.1⟩
      have hs := (hj s).1 k2
      -- every walk is taken, or costs at least what was taken
      have W : ∀ n t c, gW adj sd n t c → N 0 t ≤ c ∨ N 0 s ≤ c := by
        intro n
        induction n with
        | zero => intro t c w; left; have := (hd.2.2 t w.1).2; omega
        | succ n ih =>
          rintro t c ⟨u, c', w, a, b, rfl⟩
          rcases ih u c' a with q | q
          · by_cases z : tk u = true
            · left; have := (hd.2.1 u z).2.2.2 _ b; simp only [] at this; omega
            · right
              by_cases f : N 0 u < 536870912
              · by_cases f8 : u < 4096
                · have := k3 u ((hj u).2 ⟨f8, f, by simpa using z⟩); omega
                · exfalso
                  -- walks stay among the states
                  have : ∀ n t c, gW adj sd n t c → t < 4096 := by
                    intro n
                    induction n with
                    | zero => intro t c w; exact (hd.2.2 t w.1).1
                    | succ n ih => rintro t c ⟨u, c', w, a, b, _⟩; exact (ha u (ih u c' a) _ b).1
                  exact f8 (this _ _ _ a)
              · omega
          · right; omega
      unfold nRun
      rw [k1, if_neg (by omega), Nat.add_sub_cancel, k5]
      by_cases g : goal s = true
      · rw [if_pos g]
        intro m hm
        simp only [] at hm
        have : m = N 0 s := by omega
        subst this
        refine ⟨fun t h8 hf => ?_, fun n t c w => ?_⟩
        · simp only [k5] at hf ⊢
          exact (hd.1 t h8 hf).2
        · simp only [k5]
          exact W n t c w
      · rw [if_neg g]
        have hbd := (hd.1 s hs.1 hs.2.1).1
        have hcs : tk s = false := hs.2.2
        have hcn := cnt_on hcs 4096 hs.1
        have hj' : JD (nTake 256 N).2 (updN J s false) (updN tk s true) := by
          intro t; rw [k5]; unfold updN
          by_cases q : t = s
          · rw [if_pos q, if_pos q]; simp
          · rw [if_neg q, if_neg q]; exact hj t
        have htk' : ∀ t, updN tk s true t = true → (nTake 256 N).2 0 t ≤ N 0 s := by
          intro t z; rw [k5]; unfold updN at z
          by_cases q : t = s
          · subst q; omega
          · rw [if_neg q] at z
            have := (hd.2.1 t z).2.2.1; have := (h.1 s k2).2.1; omega
        obtain ⟨J2, rk2, cl2, b1, b2, b3, b4, b5, b6, b7⟩ := nLows_ok (c := N 0 s) (by omega) (adj s) (nTake 256 N).2 (updN J s false) rk cl k4 hj' (ha s hs.1) k6 htk'
        simp only [k5] at b4 b6 b7
        refine nRun_lab ha hg d _ J2 (updN tk s true) rk2 cl2 b1 b2 ?_ ?_ (by omega)
        · refine ⟨?_, ?_, ?_⟩
          · intro t ht8 hf
            rcases b6 t with q | ⟨w, q, r⟩
            · rw [q] at hf ⊢
              obtain ⟨u, v⟩ := hd.1 t ht8 hf
              exact ⟨by omega, v⟩
            · rw [r]
              have hw := (ha s hs.1 _ q).2
              simp only [] at hw
              refine ⟨by omega, ?_⟩
              obtain ⟨n, v⟩ := (hd.1 s hs.1 hs.2.1).2
              exact ⟨n + 1, s, N 0 s, w, v, q, rfl⟩
          · intro t z
            rw [b7 t z, b3]
            have z' := z
            unfold updN at z
            by_cases q : t = s
            · subst q; exact ⟨hs.1, hs.2.1, Nat.le_refl _, fun e he => b5 e he⟩
            · rw [if_neg q] at z
              obtain ⟨u1, u2, u3, u4⟩ := hd.2.1 t z
              refine ⟨u1, u2, ?_, fun e he => Nat.le_trans (b4 _) (u4 e he)⟩
              have := (h.1 s k2).2.1; omega
          · intro t z
            obtain ⟨u1, u2⟩ := hd.2.2 t z
            refine ⟨u1, ?_⟩
            have := b4 t; omega
        · intro t z; unfold updN at z
          by_cases q : t = s
          · subst q; simpa using g
          · rw [if_neg q] at z; exact ht t z
    · have hnJ : ∀ t, J t = false := by
        intro t; cases hq : J t
        · rfl
        · exact absurd ⟨t, hq⟩ ex
      unfold nRun
      rw [nTake_none 256 N h hnJ, if_pos rfl]
      intro m z
      simp at z
