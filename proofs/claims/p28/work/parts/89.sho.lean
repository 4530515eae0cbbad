
def Sho.fol (dr : Nat → Nat → Option Nat) : Nat → List Nat → Option (List (Nat × Nat))
  | _, [] => some []
  | q, m :: ws => match dr q m with
    | none => none
    | some e => match fol dr e ws with
      | none => none
      | some p => some ((m, e) :: p)

def Sho.hd (T : List (Nat × Nat)) : Option Nat := match T with
  | [] => none
  | a :: _ => some a.1

def Sho.fin : Nat → List (Nat × Nat) → Nat
  | q, [] => q
  | _, a :: T => fin a.2 T

def Sho.lst : Option Nat → List (Nat × Nat) → Option Nat
  | l, [] => l
  | _, a :: T => lst (some a.1) T

def Sho.co (oc : Nat → Nat → Nat) : Nat → List (Nat × Nat) → Nat
  | _, [] => 0
  | q, a :: T => oc q a.1 + co oc a.2 T

def Sho.mv (oc : Nat → Nat → Nat) (tu : Option Nat → Option Nat → Nat) : Option Nat → Nat → List (Nat × Nat) → Nat
  | _, _, [] => 0
  | l, q, a :: T => oc q a.1 + tu l (some a.1) + mv oc tu (some a.1) a.2 T

def Sho.cw (oc : Nat → Nat → Nat) (tu : Option Nat → Option Nat → Nat) (l : Option Nat) (q : Nat) (P : List (Nat × Nat)) (nx : Option Nat) : Nat :=
  mv oc tu l q P + tu (lst l P) nx

def Sho.Val (dr : Nat → Nat → Option Nat) : Nat → List (Nat × Nat) → Prop
  | _, [] => True
  | q, a :: T => dr q a.1 = some a.2 ∧ Val dr a.2 T

def Sho.tryW (dr : Nat → Nat → Option Nat) (wd : Nat → Nat → Option (List Nat)) (oc : Nat → Nat → Nat) (tu : Option Nat → Option Nat → Nat)
    (l : Option Nat) (q : Nat) (A B : List (Nat × Nat)) : Option (List (Nat × Nat)) :=
  match wd q (fin q A) with
  | none => none
  | some ws => match fol dr q ws with
    | none => none
    | some P => if cw oc tu l q P (hd B) < cw oc tu l q A (hd B) then some P else none

def Sho.srch (dr : Nat → Nat → Option Nat) (wd : Nat → Nat → Option (List Nat)) (oc : Nat → Nat → Nat) (tu : Option Nat → Option Nat → Nat)
    (l : Option Nat) (q : Nat) (T : List (Nat × Nat)) : Nat → Option (List (Nat × Nat) × List (Nat × Nat))
  | 0 => none
  | 1 => none
  | j + 2 => match tryW dr wd oc tu l q (T.take (j + 2)) (T.drop (j + 2)) with
    | some P => some (P, T.drop (j + 2))
    | none => srch dr wd oc tu l q T (j + 1)

def Sho.stp (dr : Nat → Nat → Option Nat) (wd : Nat → Nat → Option (List Nat)) (oc : Nat → Nat → Nat) (tu : Option Nat → Option Nat → Nat)
    (l : Option Nat) (q : Nat) (T : List (Nat × Nat)) : List (Nat × Nat) :=
  match srch dr wd oc tu l q T T.length with
  | none => T
  | some (P, B) => P ++ B

def Sho.shr (dr : Nat → Nat → Option Nat) (wd : Nat → Nat → Option (List Nat)) (oc : Nat → Nat → Nat) (tu : Option Nat → Option Nat → Nat) :
    Nat → Option Nat → Nat → List (Nat × Nat) → List (Nat × Nat)
  | 0, _, _, _ => []
  | n + 1, l, q, T => match stp dr wd oc tu l q T with
    | [] => []
    | a :: T' => a :: shr dr wd oc tu n (some a.1) a.2 T'

/-- start poses of the moves -/
def Sho.sp : Nat → List (Nat × Nat) → List Nat
  | _, [] => []
  | q, a :: T => q :: sp a.2 T

def Sho.Dec (g : Nat → Nat) : List Nat → Nat → List (List (Nat × Nat)) → Prop
  | _, _, [] => True
  | s, q, S :: r => S ≠ [] ∧ S.length ≤ g q ∧ q ∉ s ∧ Dec g (s ++ sp q S) (fin q S) r

theorem Sho.fin_app (q : Nat) (A B : List (Nat × Nat)) : fin q (A ++ B) = fin (fin q A) B := by
  induction A generalizing q with
  | nil => rfl
  | cons a A ih => simp only [List.cons_append, fin, ih]

theorem Sho.lst_app (l : Option Nat) (A B : List (Nat × Nat)) : lst l (A ++ B) = lst (lst l A) B := by
  induction A generalizing l with
  | nil => rfl
  | cons a A ih => simp only [List.cons_append, lst, ih]

theorem Sho.lst_ne (l l' : Option Nat) (A : List (Nat × Nat)) (h : A ≠ []) : lst l A = lst l' A := by
  cases A with
  | nil => exact absurd rfl h
  | cons a A => rfl

theorem Sho.co_app (oc : Nat → Nat → Nat) (q : Nat) (A B : List (Nat × Nat)) : co oc q (A ++ B) = co oc q A + co oc (fin q A) B := by
  induction A generalizing q with
  | nil => simp [co, fin]
  | cons a A ih => simp only [List.cons_append, co, fin, ih]; omega

theorem Sho.mv_app (oc : Nat → Nat → Nat) (tu : Option Nat → Option Nat → Nat) (l : Option Nat) (q : Nat) (A B : List (Nat × Nat)) :
    mv oc tu l q (A ++ B) = mv oc tu l q A + mv oc tu (lst l A) (fin q A) B := by
  induction A generalizing l q with
  | nil => simp [mv, fin, lst]
  | cons a A ih => simp only [List.cons_append, mv, fin, lst, ih]; omega

theorem Sho.mv_chg (oc : Nat → Nat → Nat) (tu : Option Nat → Option Nat → Nat) (l l' : Option Nat) (q : Nat) (A : List (Nat × Nat)) (h : A ≠ []) :
    mv oc tu l q A + tu l' (hd A) = mv oc tu l' q A + tu l (hd A) := by
  cases A with
  | nil => exact absurd rfl h
  | cons a A => simp only [mv, hd]; omega

theorem Sho.val_app (dr : Nat → Nat → Option Nat) (q : Nat) (A B : List (Nat × Nat)) : Val dr q (A ++ B) ↔ Val dr q A ∧ Val dr (fin q A) B := by
  induction A generalizing q with
  | nil => simp [Val, fin]
  | cons a A ih => simp only [List.cons_append, Val, fin, ih, and_assoc]

theorem Sho.fol_val (dr : Nat → Nat → Option Nat) (q : Nat) (ws : List Nat) (P : List (Nat × Nat)) (h : fol dr q ws = some P) :
    Val dr q P ∧ ws = P.map Prod.fst := by
  induction ws generalizing q P with
  | nil => simp only [fol, Option.some.injEq] at h; subst h; exact ⟨trivial, rfl⟩
  | cons m ws ih =>
    simp only [fol] at h
    split at h
    · cases h
    · rename_i e he
      split at h
      · cases h
      · rename_i p hp
        cases h
        have := ih _ _ hp
        exact ⟨⟨he, this.1⟩, by simp [this.2]⟩

theorem Sho.tri (oc : Nat → Nat → Nat) (tu : Option Nat → Option Nat → Nat) (htri : ∀ a c m, tu a c ≤ tu a (some m) + tu (some m) c)
    (hoc : ∀ q m, 0 < oc q m) (l : Option Nat) (q : Nat) (A : List (Nat × Nat)) (x : Option Nat) (h : A ≠ []) :
    tu l x < mv oc tu l q A + tu (lst l A) x := by
  induction A generalizing l q with
  | nil => exact absurd rfl h
  | cons a A ih =>
    simp only [mv, lst]
    have h1 := htri l x a.1
    have h2 := hoc q a.1
    by_cases hA : A = []
    · subst hA; simp only [mv, lst]; omega
    · have := ih (some a.1) a.2 hA
      omega

theorem Sho.tryW_some {dr : Nat → Nat → Option Nat} {wd : Nat → Nat → Option (List Nat)} {oc : Nat → Nat → Nat} {tu : Option Nat → Option Nat → Nat}
    {l : Option Nat} {q : Nat} {A B P : List (Nat × Nat)} (h : tryW dr wd oc tu l q A B = some P) :
    ∃ ws, wd q (fin q A) = some ws ∧ fol dr q ws = some P ∧ cw oc tu l q P (hd B) < cw oc tu l q A (hd B) := by
  unfold tryW at h
  split at h
  · cases h
  · rename_i ws hws
    split at h
    · cases h
    · rename_i P' hP
      split at h
      · rename_i hc; cases h; exact ⟨ws, hws, hP, hc⟩
      · cases h

theorem Sho.tryW_none {dr : Nat → Nat → Option Nat} {wd : Nat → Nat → Option (List Nat)} {oc : Nat → Nat → Nat} {tu : Option Nat → Option Nat → Nat}
    {l : Option Nat} {q : Nat} {A B : List (Nat × Nat)} (h : tryW dr wd oc tu l q A B = none) {ws : List Nat} {P : List (Nat × Nat)}
    (hw : wd q (fin q A) = some ws) (hP : fol dr q ws = some P) : cw oc tu l q A (hd B) ≤ cw oc tu l q P (hd B) := by
  unfold tryW at h
  rw [hw] at h
  simp only [hP] at h
  split at h
  · cases h
  · rename_i hc; exact Nat.le_of_not_lt hc

/-- what the search says -/
def Sho.Sr (dr : Nat → Nat → Option Nat) (wd : Nat → Nat → Option (List Nat)) (oc : Nat → Nat → Nat) (tu : Option Nat → Option Nat → Nat)
    (l : Option Nat) (q : Nat) (T : List (Nat × Nat)) (j : Nat) (r : Option (List (Nat × Nat) × List (Nat × Nat))) : Prop :=
  match r with
  | none => ∀ A B, T = A ++ B → 2 ≤ A.length → A.length ≤ j → tryW dr wd oc tu l q A B = none
  | some (P, B) => ∃ A, T = A ++ B ∧ 2 ≤ A.length ∧ tryW dr wd oc tu l q A B = some P ∧
      ∀ A' B', T = A' ++ B' → A.length < A'.length → A'.length ≤ j → tryW dr wd oc tu l q A' B' = none

theorem Sho.srch_ok (dr : Nat → Nat → Option Nat) (wd : Nat → Nat → Option (List Nat)) (oc : Nat → Nat → Nat) (tu : Option Nat → Option Nat → Nat)
    (l : Option Nat) (q : Nat) (T : List (Nat × Nat)) (j : Nat) (hj : j ≤ T.length) : Sr dr wd oc tu l q T j (srch dr wd oc tu l q T j) := by
  induction j with
  | zero => intro A B _ h1 h2; omega
  | succ j ih =>
    cases j with
    | zero => intro A B _ h1 h2; omega
    | succ j =>
      have ih := ih (by omega)
      have key : ∀ A B, T = A ++ B → A.length = j + 2 → A = T.take (j + 2) ∧ B = T.drop (j + 2) := by
        intro A B hT hA
        subst hT
        rw [← hA]
        exact ⟨(List.take_left).symm, (List.drop_left).symm⟩
      show Sr dr wd oc tu l q T (j + 2) (srch dr wd oc tu l q T (j + 2))
      unfold srch
      split
      · rename_i P hP
        refine ⟨T.take (j + 2), (List.take_append_drop _ _).symm, ?_, hP, ?_⟩
        · rw [List.length_take]; omega
        · intro A' B' _ h1 h2
          rw [List.length_take] at h1
          omega
      · rename_i hN
        revert ih
        generalize srch dr wd oc tu l q T (j + 1) = r
        intro ih
        match r, ih with
        | none, ih =>
          intro A B hT h1 h2
          by_cases hA : A.length = j + 2
          · obtain ⟨rfl, rfl⟩ := key A B hT hA; exact hN
          · exact ih A B hT h1 (by omega)
        | some (P, B), ih =>
          obtain ⟨A, h1, h2, h3, h4⟩ := ih
          refine ⟨A, h1, h2, h3, ?_⟩
          intro A' B' hT g1 g2
          by_cases hA : A'.length = j + 2
          · obtain ⟨rfl, rfl⟩ := key A' B' hT hA; exact hN
          · exact h4 A' B' hT g1 (by omega)

theorem Sho.stp_cases (dr : Nat → Nat → Option Nat) (wd : Nat → Nat → Option (List Nat)) (oc : Nat → Nat → Nat) (tu : Option Nat → Option Nat → Nat)
    (l : Option Nat) (q : Nat) (T : List (Nat × Nat)) :
    (stp dr wd oc tu l q T = T ∧ ∀ A B, T = A ++ B → 2 ≤ A.length → tryW dr wd oc tu l q A B = none) ∨
    ∃ A B P, T = A ++ B ∧ 2 ≤ A.length ∧ tryW dr wd oc tu l q A B = some P ∧ stp dr wd oc tu l q T = P ++ B ∧
      ∀ A' B', T = A' ++ B' → A.length < A'.length → tryW dr wd oc tu l q A' B' = none := by
  have h := srch_ok dr wd oc tu l q T T.length (Nat.le_refl _)
  unfold stp
  revert h
  generalize srch dr wd oc tu l q T T.length = r
  intro h
  match r, h with
  | none, h =>
    refine Or.inl ⟨rfl, fun A B hT h2 => h A B hT h2 ?_⟩
    rw [hT, List.length_append]; omega
  | some (P, B), h =>
    obtain ⟨A, h1, h2, h3, h4⟩ := h
    refine Or.inr ⟨A, B, P, h1, h2, h3, rfl, fun A' B' hT g => h4 A' B' hT g ?_⟩
    rw [hT, List.length_append]; omega

theorem Sho.Dec_mono (g : Nat → Nat) (s s' : List Nat) (h : ∀ x, x ∈ s' → x ∈ s) (q : Nat) (L : List (List (Nat × Nat))) (hd : Dec g s q L) : Dec g s' q L := by
  induction L generalizing s s' q with
  | nil => trivial
  | cons S r ih =>
    obtain ⟨h1, h2, h3, h4⟩ := hd
    refine ⟨h1, h2, fun hx => h3 (h _ hx), ih _ _ ?_ _ h4⟩
    intro x hx
    rw [List.mem_append] at hx ⊢
    exact hx.imp (h x) id

theorem Sho.cw_mono (oc : Nat → Nat → Nat) (tu : Option Nat → Option Nat → Nat) (l : Option Nat) (q : Nat) (A P D Y : List (Nat × Nat))
    (hf : fin q P = fin q A) (hc : cw oc tu l q P (hd (D ++ Y)) ≤ cw oc tu l q A (hd (D ++ Y))) :
    cw oc tu l q (P ++ D) (hd Y) ≤ cw oc tu l q (A ++ D) (hd Y) := by
  by_cases hD : D = []
  · subst hD; simpa using hc
  · have h0 : hd (D ++ Y) = hd D := by
      cases D with
      | nil => exact absurd rfl hD
      | cons a D => rfl
    rw [h0] at hc
    unfold cw at hc ⊢
    rw [mv_app, mv_app, lst_app, lst_app, hf, lst_ne (lst l P) (lst l A) D hD]
    have := mv_chg oc tu (lst l P) (lst l A) (fin q A) D hD
    omega

def Sho.Inv (dr : Nat → Nat → Option Nat) (wd : Nat → Nat → Option (List Nat)) (oc : Nat → Nat → Nat) (tu : Option Nat → Option Nat → Nat)
    (H : List (Nat × Option Nat × List (Nat × Nat))) (l : Option Nat) (q : Nat) (U R : List (Nat × Nat)) : Prop :=
  (∀ z l0 G, (z, l0, G) ∈ H → fin z G = q ∧ lst l0 G = l ∧ G ≠ []) ∧
  (∀ z l0 G, (z, l0, G) ∈ H → ∀ X Y, R = X ++ Y → X ≠ [] → ∀ ws P, wd z (fin q (U ++ X)) = some ws → fol dr z ws = some P →
    mv oc tu l0 z G + cw oc tu l q (U ++ X) (hd Y) ≤ cw oc tu l0 z P (hd Y)) ∧
  (∀ z l0 G, (z, l0, G) ∈ H → ∀ X Y, R = X ++ Y → fin q (U ++ X) ≠ z) ∧
  Val dr q (U ++ R)

def Sho.nxt (q : Nat) (l : Option Nat) (a : Nat × Nat) (H : List (Nat × Option Nat × List (Nat × Nat))) : List (Nat × Option Nat × List (Nat × Nat)) :=
  (q, l, [a]) :: H.map fun r => (r.1, r.2.1, r.2.2 ++ [a])

theorem Sho.nxt_fst (q : Nat) (l : Option Nat) (a : Nat × Nat) (H : List (Nat × Option Nat × List (Nat × Nat))) :
    (nxt q l a H).map Prod.fst = q :: H.map Prod.fst := by
  simp [nxt, Function.comp_def]

theorem Sho.inv_nxt (dr : Nat → Nat → Option Nat) (wd : Nat → Nat → Option (List Nat)) (oc : Nat → Nat → Nat) (tu : Option Nat → Option Nat → Nat)
    (H : List (Nat × Option Nat × List (Nat × Nat))) (l : Option Nat) (q : Nat) (U R : List (Nat × Nat))
    (hI : Inv dr wd oc tu H l q U R) (R0 R1 U1 C U2 R2 : List (Nat × Nat)) (a : Nat × Nat)
    (hR : R = R0 ++ R1) (hR1 : R1 = C ++ R2) (hU1 : U1 ++ C = a :: U2) (hC : C = [] → U ++ R0 ≠ [])
    (hC' : C ≠ [] → U1 = [])
    (E1 : fin q U1 = fin q (U ++ R0))
    (E2 : ∀ X Y, R1 = X ++ Y → cw oc tu l q (U1 ++ X) (hd Y) ≤ cw oc tu l q (U ++ R0 ++ X) (hd Y))
    (E3 : ∀ X Y, R1 = X ++ Y → X ≠ [] → 2 ≤ (U ++ R0 ++ X).length → ∀ ws P, wd q (fin q (U ++ R0 ++ X)) = some ws → fol dr q ws = some P →
      cw oc tu l q (U ++ R0 ++ X) (hd Y) ≤ cw oc tu l q P (hd Y))
    (E4 : ∀ X Y, R1 = X ++ Y → (U1 = [] → X ≠ []) → fin q (U1 ++ X) ≠ q)
    (E5 : Val dr q (U1 ++ R1)) : Inv dr wd oc tu (nxt q l a H) (some a.1) a.2 U2 R2 := by
  obtain ⟨I0, I1, I2, I3⟩ := hI
  have hfe : ∀ X, fin a.2 (U2 ++ X) = fin q (U1 ++ (C ++ X)) := by
    intro X
    rw [← List.append_assoc, hU1]
    rfl
  have hfo : ∀ X, fin a.2 (U2 ++ X) = fin q (U ++ (R0 ++ (C ++ X))) := by
    intro X
    rw [hfe, fin_app, E1, ← List.append_assoc U, fin_app _ (U ++ R0)]
  have hce : ∀ X nx, oc q a.1 + tu l (some a.1) + cw oc tu (some a.1) a.2 (U2 ++ X) nx = cw oc tu l q (U1 ++ (C ++ X)) nx := by
    intro X nx
    rw [← List.append_assoc, hU1]
    simp only [cw, List.cons_append, mv, lst]
    omega
  refine ⟨?_, ?_, ?_, ?_⟩
  · intro z l0 G hz
    simp only [nxt, List.mem_cons, List.mem_map, Prod.mk.injEq, Prod.exists] at hz
    rcases hz with ⟨rfl, rfl, rfl⟩ | ⟨z', l', G', hm, rfl, rfl, rfl⟩
    · exact ⟨rfl, rfl, by simp⟩
    · refine ⟨?_, ?_, by simp⟩
      · rw [fin_app]; rfl
      · rw [lst_app]; rfl
  · intro z l0 G hz X Y hXY hX ws P hw hP
    have hsp : R1 = (C ++ X) ++ Y := by rw [hR1, hXY, List.append_assoc]
    have e2 := E2 (C ++ X) Y hsp
    have hc := hce X (hd Y)
    simp only [nxt, List.mem_cons, List.mem_map, Prod.mk.injEq, Prod.exists] at hz
    rcases hz with ⟨rfl, rfl, rfl⟩ | ⟨z', l', G', hm, rfl, rfl, rfl⟩
    · have e3 := E3 (C ++ X) Y hsp (by simp [hX]) (by
        have : 1 ≤ X.length := by cases X with | nil => exact absurd rfl hX | cons _ _ => simp
        by_cases hCn : C = []
        · have := hC hCn
          have : 1 ≤ (U ++ R0).length := by
            cases hq : U ++ R0 with
            | nil => exact absurd hq this
            | cons _ _ => simp
          simp only [List.length_append] at *
          omega
        · have : 1 ≤ C.length := by cases C with | nil => exact absurd rfl hCn | cons _ _ => simp
          simp only [List.length_append] at *
          omega) ws P (by rw [List.append_assoc]; rw [← hfo]; exact hw) hP
      simp only [mv]
      omega
    · have i1 := I1 z' l' G' hm (R0 ++ (C ++ X)) Y (by rw [hR, hsp]; simp [List.append_assoc]) (by simp [hX]) ws P (by rw [← hfo]; exact hw) hP
      obtain ⟨i0, i0', _⟩ := I0 z' l' G' hm
      rw [mv_app, i0, i0']
      simp only [mv]
      rw [← List.append_assoc U R0] at i1
      omega
  · intro z l0 G hz X Y hXY
    have hsp : R1 = (C ++ X) ++ Y := by rw [hR1, hXY, List.append_assoc]
    simp only [nxt, List.mem_cons, List.mem_map, Prod.mk.injEq, Prod.exists] at hz
    rcases hz with ⟨rfl, rfl, rfl⟩ | ⟨z', l', G', hm, rfl, rfl, rfl⟩
    · rw [hfe]
      refine E4 (C ++ X) Y hsp ?_
      intro hU
      subst hU
      intro hc
      rw [List.append_eq_nil_iff] at hc
      rw [hc.1] at hU1
      cases hU1
    · rw [hfo]
      exact I2 z' l' G' hm (R0 ++ (C ++ X)) Y (by rw [hR, hsp]; simp [List.append_assoc])
  · rw [hR1, ← List.append_assoc, hU1] at E5
    exact E5.2

theorem Sho.selfz (dr : Nat → Nat → Option Nat) (wd : Nat → Nat → Option (List Nat)) (oc : Nat → Nat → Nat) (tu : Option Nat → Option Nat → Nat)
    (hself : ∀ q, wd q q = some []) (htri : ∀ a c m, tu a c ≤ tu a (some m) + tu (some m) c) (hoc : ∀ q m, 0 < oc q m)
    (l : Option Nat) (q : Nat) (A B : List (Nat × Nat)) (hA : 2 ≤ A.length) (h : tryW dr wd oc tu l q A B = none) : fin q A ≠ q := by
  intro hq
  have h1 := tryW_none h (ws := []) (P := []) (by rw [hq]; exact hself q) rfl
  have h2 := tri oc tu htri hoc l q A (hd B) (by intro h0; subst h0; simp at hA)
  simp only [cw, mv, lst] at h1
  omega

theorem Sho.step_facts (dr : Nat → Nat → Option Nat) (wd : Nat → Nat → Option (List Nat)) (oc : Nat → Nat → Nat) (tu : Option Nat → Option Nat → Nat)
    (hself : ∀ q, wd q q = some []) (htri : ∀ a c m, tu a c ≤ tu a (some m) + tu (some m) c) (hoc : ∀ q m, 0 < oc q m)
    (hirr : ∀ q m e, dr q m = some e → e ≠ q)
    (hend : ∀ q p ws P, wd q p = some ws → fol dr q ws = some P → fin q P = p)
    (l : Option Nat) (q : Nat) (U R : List (Nat × Nat)) (hV : Val dr q (U ++ R)) :
    ∃ R0 R1 U1, R = R0 ++ R1 ∧ stp dr wd oc tu l q (U ++ R) = U1 ++ R1 ∧ fin q U1 = fin q (U ++ R0) ∧
      (∀ X Y, R1 = X ++ Y → cw oc tu l q (U1 ++ X) (hd Y) ≤ cw oc tu l q (U ++ R0 ++ X) (hd Y)) ∧
      (∀ X Y, R1 = X ++ Y → X ≠ [] → 2 ≤ (U ++ R0 ++ X).length → ∀ ws P, wd q (fin q (U ++ R0 ++ X)) = some ws → fol dr q ws = some P →
        cw oc tu l q (U ++ R0 ++ X) (hd Y) ≤ cw oc tu l q P (hd Y)) ∧
      (∀ X Y, R1 = X ++ Y → (U1 = [] → X ≠ []) → fin q (U1 ++ X) ≠ q) ∧
      Val dr q (U1 ++ R1) ∧
      ((R0 = [] ∧ U1 = U) ∨
       (R0 = [] ∧ ∃ A P U2 ws nx, U = A ++ U2 ∧ U1 = P ++ U2 ∧ 2 ≤ A.length ∧ wd q (fin q A) = some ws ∧ fol dr q ws = some P ∧
          cw oc tu l q P nx < cw oc tu l q A nx) ∨
       (R0 ≠ [] ∧ ∃ ws, wd q (fin q (U ++ R0)) = some ws ∧ fol dr q ws = some U1 ∧
          cw oc tu l q U1 (hd R1) < cw oc tu l q (U ++ R0) (hd R1))) := by
  have sz := selfz dr wd oc tu hself htri hoc l q
  rcases stp_cases dr wd oc tu l q (U ++ R) with ⟨h1, h2⟩ | ⟨A, B, P, h1, h2, h3, h4, h5⟩
  · refine ⟨[], R, U, rfl, h1, by simp, ?_, ?_, ?_, hV, Or.inl ⟨rfl, rfl⟩⟩
    · intro X Y _; rw [List.append_nil]; exact Nat.le_refl _
    · intro X Y hXY hX h2' ws P' hw hP
      rw [List.append_nil] at *
      exact tryW_none (h2 (U ++ X) Y (by rw [hXY, List.append_assoc]) h2') hw hP
    · intro X Y hXY hX
      by_cases hl : 2 ≤ (U ++ X).length
      · exact sz _ Y hl (h2 _ _ (by rw [hXY, List.append_assoc]) hl)
      · have hne : U ++ X ≠ [] := by
          intro h0
          rw [List.append_eq_nil_iff] at h0
          exact hX h0.1 h0.2
        rw [hXY, ← List.append_assoc] at hV
        have hV := ((val_app dr q _ _).1 hV).1
        match hq : U ++ X, hne, hl, hV with
        | [a], _, _, hV => exact hirr _ _ _ hV.1
        | _ :: _ :: _, _, hl, _ => exact absurd (by simp) hl
  · obtain ⟨ws, hw, hP, hc⟩ := tryW_some h3
    have hfin := hend _ _ _ _ hw hP
    have hVP := (fol_val dr q ws P hP).1
    have hPself : fin q A = q → P = [] := by
      intro hq
      rw [hq, hself q] at hw
      cases hw
      simp only [fol, Option.some.injEq] at hP
      exact hP.symm
    have hVB : Val dr q (P ++ B) := by
      rw [h1] at hV
      rw [val_app] at hV ⊢
      rw [hfin]
      exact ⟨hVP, hV.2⟩
    rcases List.append_eq_append_iff.1 h1 with ⟨R0, hA, hR⟩ | ⟨U2, hU, hB⟩
    · -- A = U ++ R0
      subst hA
      by_cases hR0 : R0 = []
      · subst hR0
        rw [List.append_nil] at *
        simp only [List.nil_append] at hR
        subst hR
        refine ⟨[], R, P, rfl, h4, by rw [List.append_nil]; exact hfin, ?_, ?_, ?_, hVB, Or.inr (Or.inl ⟨rfl, U, P, [], ws, hd R, by simp, by simp, h2, hw, hP, hc⟩)⟩
        · intro X Y hXY
          rw [List.append_nil]
          subst hXY
          exact cw_mono oc tu l q U P X Y hfin (Nat.le_of_lt hc)
        · intro X Y hXY hX _ ws' P' hw' hP'
          rw [List.append_nil] at *
          refine tryW_none (h5 (U ++ X) Y (by rw [hXY, List.append_assoc]) ?_) hw' hP'
          have : 1 ≤ X.length := by cases X with | nil => exact absurd rfl hX | cons _ _ => simp
          rw [List.length_append]; omega
        · intro X Y hXY hX
          rw [fin_app, hfin, ← fin_app]
          by_cases hX0 : X = []
          · subst hX0
            rw [List.append_nil]
            intro hq
            exact hX (hPself hq) rfl
          · have : 1 ≤ X.length := by cases X with | nil => exact absurd rfl hX0 | cons _ _ => simp
            exact sz _ Y (by rw [List.length_append]; omega) (h5 _ _ (by rw [hXY, List.append_assoc]) (by rw [List.length_append]; omega))
      · refine ⟨R0, B, P, hR, h4, hfin, ?_, ?_, ?_, hVB, Or.inr (Or.inr ⟨hR0, ws, hw, hP, hc⟩)⟩
        · intro X Y hXY
          subst hXY
          exact cw_mono oc tu l q (U ++ R0) P X Y hfin (Nat.le_of_lt hc)
        · intro X Y hXY hX _ ws' P' hw' hP'
          refine tryW_none (h5 (U ++ R0 ++ X) Y (by rw [hR, hXY]; simp [List.append_assoc]) ?_) hw' hP'
          have : 1 ≤ X.length := by cases X with | nil => exact absurd rfl hX | cons _ _ => simp
          rw [List.length_append (as := U ++ R0)]; omega
        · intro X Y hXY hX
          rw [fin_app, hfin, ← fin_app]
          by_cases hX0 : X = []
          · subst hX0
            rw [List.append_nil]
            intro hq
            exact hX (hPself hq) rfl
          · have : 1 ≤ X.length := by cases X with | nil => exact absurd rfl hX0 | cons _ _ => simp
            exact sz _ Y (by rw [List.length_append (as := U ++ R0)]; omega) (h5 _ _ (by rw [hR, hXY]; simp [List.append_assoc]) (by rw [List.length_append (as := U ++ R0)]; omega))
    · -- U = A ++ U2, B = U2 ++ R
      subst hU
      subst hB
      have hf2 : ∀ X, fin q (P ++ U2 ++ X) = fin q (A ++ U2 ++ X) := by
        intro X
        rw [List.append_assoc, List.append_assoc, fin_app, hfin, ← fin_app]
      refine ⟨[], R, P ++ U2, rfl, by rw [h4, List.append_assoc], by have := hf2 []; simpa using this, ?_, ?_, ?_, by rw [List.append_assoc]; exact hVB,
        Or.inr (Or.inl ⟨rfl, A, P, U2, ws, hd (U2 ++ R), rfl, rfl, h2, hw, hP, hc⟩)⟩
      · intro X Y hXY
        rw [List.append_nil, List.append_assoc, List.append_assoc]
        refine cw_mono oc tu l q A P (U2 ++ X) Y hfin ?_
        rw [List.append_assoc, ← hXY]
        exact Nat.le_of_lt hc
      · intro X Y hXY hX _ ws' P' hw' hP'
        rw [List.append_nil] at *
        refine tryW_none (h5 (A ++ U2 ++ X) Y (by rw [hXY]; simp [List.append_assoc]) ?_) hw' hP'
        have : 1 ≤ X.length := by cases X with | nil => exact absurd rfl hX | cons _ _ => simp
        simp only [List.length_append]; omega
      · intro X Y hXY hX
        rw [hf2]
        by_cases hX0 : U2 ++ X = []
        · rw [List.append_assoc, hX0, List.append_nil]
          rw [List.append_eq_nil_iff] at hX0
          intro hq
          exact hX (by rw [hPself hq, hX0.1]; rfl) hX0.2
        · have : 1 ≤ (U2 ++ X).length := by
            cases hq : U2 ++ X with
            | nil => exact absurd hq hX0
            | cons _ _ => simp
          have hlen : A.length < (A ++ U2 ++ X).length := by
            simp only [List.length_append] at *; omega
          exact sz _ Y (by omega) (h5 _ _ (by rw [hXY]; simp [List.append_assoc]) hlen)

theorem Sho.mv_fw (oc : Nat → Nat → Nat) (tu : Option Nat → Option Nat → Nat) (fw : Nat → Bool)
    (htz : ∀ a b, fw a = true → fw b = true → tu (some a) (some b) = 0)
    (f q : Nat) (hf : fw f = true) (P : List (Nat × Nat)) (hP : ∀ a ∈ P, fw a.1 = true) :
    mv oc tu (some f) q P = co oc q P ∧ ∃ f', lst (some f) P = some f' ∧ fw f' = true := by
  induction P generalizing f q with
  | nil => exact ⟨rfl, f, rfl, hf⟩
  | cons a P ih =>
    have h1 := ih a.1 a.2 (hP a (by simp)) (fun b hb => hP b (by simp [hb]))
    refine ⟨?_, h1.2⟩
    simp only [mv, co, h1.1, htz f a.1 hf (hP a (by simp))]
    omega

def Sho.Str (dr : Nat → Nat → Option Nat) (wd : Nat → Nat → Option (List Nat)) (oc : Nat → Nat → Nat) (fw : Nat → Bool)
    (l : Option Nat) (q : Nat) (U : List (Nat × Nat)) (y p0 : Nat) (ws0 : List Nat) (P0 G : List (Nat × Nat)) : Prop :=
  wd y p0 = some ws0 ∧ fol dr y ws0 = some P0 ∧ Val dr y (G ++ U) ∧ co oc y (G ++ U) ≤ co oc y P0 ∧ fin y G = q ∧
    (∀ a ∈ G ++ U, fw a.1 = true) ∧ ∃ f, l = some f ∧ fw f = true

theorem Sho.main (dr : Nat → Nat → Option Nat) (wd : Nat → Nat → Option (List Nat)) (oc : Nat → Nat → Nat) (tu : Option Nat → Option Nat → Nat)
    (fw : Nat → Bool) (g : Nat → Nat)
    (hself : ∀ q, wd q q = some []) (htri : ∀ a c m, tu a c ≤ tu a (some m) + tu (some m) c) (hoc : ∀ q m, 0 < oc q m)
    (hirr : ∀ q m e, dr q m = some e → e ≠ q)
    (hend : ∀ q p ws P, wd q p = some ws → fol dr q ws = some P → fin q P = p)
    (hwf : ∀ q p ws m, wd q p = some ws → m ∈ ws → fw m = true)
    (htz : ∀ a b, fw a = true → fw b = true → tu (some a) (some b) = 0)
    (htf : ∀ a b x, fw a = true → fw b = true → tu (some a) x = tu (some b) x)
    (hg : ∀ y p ws P X, wd y p = some ws → fol dr y ws = some P → Val dr y X → co oc y X ≤ co oc y P → (∀ a ∈ X, fw a.1 = true) → X.length ≤ g y)
    (hg1 : ∀ y, 1 ≤ g y) (n : Nat) :
    ∀ (H : List (Nat × Option Nat × List (Nat × Nat))) (l : Option Nat) (q : Nat) (U R : List (Nat × Nat)) (y p0 : Nat) (ws0 : List Nat)
      (P0 G : List (Nat × Nat)), Inv dr wd oc tu H l q U R → (U ≠ [] → Str dr wd oc fw l q U y p0 ws0 P0 G) →
      ∃ S segs, shr dr wd oc tu n l q (U ++ R) = S ++ segs.flatten ∧ (U = [] → S = []) ∧ (U ≠ [] → (G ++ S).length ≤ g y) ∧
        Dec g (H.map Prod.fst ++ sp q S) (fin q S) segs := by
  induction n with
  | zero =>
    intro H l q U R y p0 ws0 P0 G hI hS
    refine ⟨[], [], rfl, fun _ => rfl, ?_, trivial⟩
    intro hU
    obtain ⟨s1, s2, s3, s4, s5, s6, s7⟩ := hS hU
    rw [List.append_nil]
    rw [val_app] at s3
    rw [co_app] at s4
    exact hg y p0 ws0 P0 G s1 s2 s3.1 (by omega) (fun b hb => s6 b (List.mem_append_left _ hb))
  | succ n ih =>
    intro H l q U R y p0 ws0 P0 G hI hS
    obtain ⟨I0, I1, I2, I3⟩ := hI
    obtain ⟨R0, R1, U1, hR, hT, E1, E2, E3, E4, E5, hk⟩ := step_facts dr wd oc tu hself htri hoc hirr hend l q U R I3
    have hGU : U ≠ [] → G.length ≤ g y := by
      intro hU
      obtain ⟨s1, s2, s3, s4, s5, s6, s7⟩ := hS hU
      rw [val_app] at s3
      rw [co_app] at s4
      exact hg y p0 ws0 P0 G s1 s2 s3.1 (by omega) (fun b hb => s6 b (List.mem_append_left _ hb))
    -- the next state
    have hnx : ∀ C U2 R2 a, R1 = C ++ R2 → U1 ++ C = a :: U2 → (C = [] → U ++ R0 ≠ []) → (C ≠ [] → U1 = []) →
        Inv dr wd oc tu (nxt q l a H) (some a.1) a.2 U2 R2 := fun C U2 R2 a h1 h2 h3 h4 =>
      inv_nxt dr wd oc tu H l q U R ⟨I0, I1, I2, I3⟩ R0 R1 U1 C U2 R2 a hR h1 h2 h3 h4 E1 E2 E3 E4 E5
    -- a start at q
    have start : q ∉ H.map Prod.fst → ∀ a U2 R2, U1 ++ R1 = a :: (U2 ++ R2) → Inv dr wd oc tu (nxt q l a H) (some a.1) a.2 U2 R2 →
        (∃ p ws P, U2 ≠ [] → Str dr wd oc fw (some a.1) a.2 U2 q p ws P [a]) →
        ∃ S segs, shr dr wd oc tu (n + 1) l q (U ++ R) = S ++ segs.flatten ∧ (U = [] → S = []) ∧ (U ≠ [] → (G ++ S).length ≤ g y) ∧
        Dec g (H.map Prod.fst ++ sp q S) (fin q S) segs := by
      intro hq a U2 R2 hTa hI2 hex
      obtain ⟨p, ws, P, hex⟩ := hex
      obtain ⟨S0, segs, k1, k2, k3, k4⟩ := ih (nxt q l a H) (some a.1) a.2 U2 R2 q p ws P [a] hI2 hex
      refine ⟨[], (a :: S0) :: segs, ?_, fun _ => rfl, ?_, ?_⟩
      · simp only [shr, hT, hTa, k1, List.flatten_cons, List.nil_append, List.cons_append]
      · intro hU; rw [List.append_nil]; exact hGU hU
      · refine ⟨by simp, ?_, ?_, ?_⟩
        · show (a :: S0).length ≤ g q
          by_cases hU2 : U2 = []
          · rw [k2 hU2]; exact hg1 q
          · have := k3 hU2; simpa using this
        · show q ∉ List.map Prod.fst H ++ []
          rw [List.append_nil]; exact hq
        · refine Dec_mono g _ _ ?_ _ _ k4
          intro x hx
          rw [nxt_fst]
          simp only [sp, List.append_nil, List.mem_append, List.mem_cons, fin] at hx ⊢
          rcases hx with h | h | h
          · exact Or.inl (Or.inr h)
          · exact Or.inl (Or.inl h)
          · exact Or.inr h
    have stop : U1 ++ R1 = [] → ∃ S segs, shr dr wd oc tu (n + 1) l q (U ++ R) = S ++ segs.flatten ∧ (U = [] → S = []) ∧ (U ≠ [] → (G ++ S).length ≤ g y) ∧
        Dec g (H.map Prod.fst ++ sp q S) (fin q S) segs := by
      intro h0
      refine ⟨[], [], ?_, fun _ => rfl, ?_, trivial⟩
      · simp only [shr, hT, h0]; rfl
      · intro hU; rw [List.append_nil]; exact hGU hU
    -- at an elder pose
    have hz0 : ∀ X Y, R = X ++ Y → fin q (U ++ X) = q → q ∉ H.map Prod.fst := by
      intro X Y hXY hf hm
      simp only [List.mem_map, Prod.exists] at hm
      obtain ⟨z, l0, G0, hm, hzq⟩ := hm
      subst hzq
      exact I2 _ l0 G0 hm X Y hXY hf
    by_cases hel : R0 = []
    · subst hel
      simp only [List.nil_append] at hR
      subst hR
      rw [List.append_nil] at E1
      by_cases hU1 : U1 = []
      · -- an elder move, from a start
        subst hU1
        rcases (show R = [] ∨ ∃ a R2, R = a :: R2 by cases R with | nil => exact Or.inl rfl | cons a R2 => exact Or.inr ⟨a, R2, rfl⟩) with hRr | ⟨a, R2, hRr⟩
        · exact stop (by rw [hRr]; rfl)
        · refine start ?_ a [] R2 (by rw [hRr]; rfl) (hnx [a] [] R2 a (by rw [hRr]; rfl) rfl (by simp) (fun _ => rfl)) ⟨0, [], [], fun h => absurd rfl h⟩
          exact hz0 [] R rfl (by rw [List.append_nil]; exact E1.symm)
      · -- inside a stretch
        have hU : U ≠ [] := by
          rcases hk with ⟨_, h⟩ | ⟨_, A, P, U2, ws, nx, h, _, h2, _⟩ | ⟨h, _⟩
          · rw [← h]; exact hU1
          · intro h0
            rw [h0] at h
            have := congrArg List.length h
            simp only [List.length_nil, List.length_append] at this
            omega
          · exact absurd rfl h
        obtain ⟨s1, s2, s3, s4, s5, s6, f, s7, s8⟩ := hS hU
        have hV1 : Val dr q U1 := ((val_app dr q U1 R).1 E5).1
        have hnest : co oc q U1 ≤ co oc q U ∧ ∀ a ∈ U1, fw a.1 = true := by
          rcases hk with ⟨_, h⟩ | ⟨_, A, P, U2, ws, nx, hA, hP, h2, hw, hfo, hc⟩ | ⟨h, _⟩
          · rw [h]; exact ⟨Nat.le_refl _, fun b hb => s6 b (List.mem_append_right _ hb)⟩
          · subst hA hP
            have hPf : ∀ a ∈ P, fw a.1 = true := by
              intro a ha
              refine hwf _ _ ws a.1 hw ?_
              rw [(fol_val dr q ws P hfo).2]
              exact List.mem_map_of_mem ha
            have hAf : ∀ a ∈ A, fw a.1 = true := fun a ha => s6 a (by simp [ha])
            refine ⟨?_, ?_⟩
            · have m1 := mv_fw oc tu fw htz f q s8 P hPf
              have m2 := mv_fw oc tu fw htz f q s8 A hAf
              obtain ⟨m1, f1, g1, g1'⟩ := m1
              obtain ⟨m2, f2, g2, g2'⟩ := m2
              rw [s7] at hc
              unfold cw at hc
              rw [m1, m2, g1, g2, htf f1 f2 nx g1' g2'] at hc
              rw [co_app, co_app, hend _ _ _ _ hw hfo]
              omega
            · intro a ha
              rw [List.mem_append] at ha
              rcases ha with h | h
              · exact hPf a h
              · exact s6 a (by simp [h])
          · exact absurd rfl h
        match U1, hU1, hnx, hT, start, stop, hnest, hV1, E1, E5 with
        | a :: U2, _, hnx, hT, _, _, hnest, hV1, E1, E5 =>
          have hst : Str dr wd oc fw (some a.1) a.2 U2 y p0 ws0 P0 (G ++ [a]) := by
            refine ⟨s1, s2, ?_, ?_, ?_, fun b hb => by
              rw [List.append_assoc, List.mem_append] at hb
              exact hb.elim (fun h => s6 b (List.mem_append_left _ h)) (fun h => hnest.2 b (by simpa using h)), a.1, rfl, hnest.2 a (by simp)⟩
            · rw [List.append_assoc, val_app, s5]
              exact ⟨((val_app dr y G U).1 s3).1, hV1⟩
            · rw [List.append_assoc, co_app, s5]
              rw [co_app, s5] at s4
              have := hnest.1
              simp only [List.cons_append, List.nil_append]
              omega
            · rw [fin_app]; rfl
          obtain ⟨S0, segs, k1, k2, k3, k4⟩ := ih (nxt q l a H) (some a.1) a.2 U2 R y p0 ws0 P0 (G ++ [a])
            (hnx [] U2 R a rfl (by simp) (by simp [hU]) (fun h => absurd rfl h)) (fun _ => hst)
          refine ⟨a :: S0, segs, ?_, fun h => absurd h hU, ?_, ?_⟩
          · simp only [shr, hT, List.cons_append, k1]
          · intro _
            by_cases hU2 : U2 = []
            · rw [k2 hU2]
              obtain ⟨t1, t2, t3, t4, t5, t6, _⟩ := hst
              rw [val_app] at t3
              rw [co_app] at t4
              exact hg y p0 ws0 P0 (G ++ [a]) s1 s2 t3.1 (by omega) (fun b hb => t6 b (List.mem_append_left _ hb))
            · have := k3 hU2
              simpa [List.append_assoc] using this
          · refine Dec_mono g _ _ ?_ _ _ k4
            intro x hx
            rw [nxt_fst]
            simp only [sp, List.mem_append, List.mem_cons] at hx ⊢
            rcases hx with h | h | h
            · exact Or.inl (Or.inr h)
            · exact Or.inl (Or.inl h)
            · exact Or.inr h
    · -- a word put to a later elder pose
      rcases hk with ⟨h, _⟩ | ⟨h, _⟩ | ⟨_, ws, hw, hfo, hc⟩
      · exact absurd h hel
      · exact absurd h hel
      have hq : q ∉ H.map Prod.fst := by
        intro hm
        simp only [List.mem_map, Prod.exists] at hm
        obtain ⟨z, l0, G0, hm, hzq⟩ := hm
        subst hzq
        have i1 := I1 _ l0 G0 hm R0 R1 hR hel ws U1 hw hfo
        obtain ⟨i2, i3, i4⟩ := I0 _ l0 G0 hm
        have t := tri oc tu htri hoc l0 z G0
        by_cases hP : U1 = []
        · subst hP
          have := t (hd R1) i4
          simp only [cw, mv, lst] at i1 hc
          rw [i3] at this
          omega
        · have := t (hd U1) i4
          have := mv_chg oc tu l0 l z U1 hP
          rw [i3] at *
          unfold cw at i1 hc
          rw [lst_ne l0 l U1 hP] at i1
          omega
      match U1, hnx, hT, start, stop, E1, E2, E3, E4, E5, hfo with
      | [], hnx, hT, start, stop, _, _, _, _, _, _ =>
        match R1, hnx, hT, start, stop with
        | [], hnx, hT, start, stop => exact stop rfl
        | a :: R2, hnx, hT, start, stop =>
          exact start hq a [] R2 rfl (hnx [a] [] R2 a rfl rfl (by simp) (fun _ => rfl)) ⟨0, [], [], fun h => absurd rfl h⟩
      | a :: U2, hnx, hT, start, stop, E1, E2, E3, E4, E5, hfo =>
        refine start hq a U2 R1 rfl (hnx [] U2 R1 a rfl (by simp) (by simp [hel]) (fun h => absurd rfl h)) ⟨fin q (U ++ R0), ws, a :: U2, fun _ => ?_⟩
        have hPf : ∀ b ∈ a :: U2, fw b.1 = true := by
          intro b hb
          refine hwf _ _ ws b.1 hw ?_
          rw [(fol_val dr q ws _ hfo).2]
          exact List.mem_map_of_mem hb
        exact ⟨hw, hfo, (fol_val dr q ws _ hfo).1, Nat.le_refl _, rfl, fun b hb => hPf b (by simpa using hb), a.1, rfl, hPf a (by simp)⟩

theorem Sho.sp_app (q : Nat) (A B : List (Nat × Nat)) : sp q (A ++ B) = sp q A ++ sp (fin q A) B := by
  induction A generalizing q with
  | nil => rfl
  | cons a A ih => simp only [List.cons_append, sp, fin, ih]

theorem Sho.sp_len (q : Nat) (A : List (Nat × Nat)) : (sp q A).length = A.length := by
  induction A generalizing q with
  | nil => rfl
  | cons a A ih => simp only [sp, List.length_cons, ih]

theorem Sho.dec_starts (g : Nat → Nat) (s : List Nat) (q : Nat) (L : List (List (Nat × Nat))) (h : Dec g s q L) :
    ∃ Y : List Nat, Y.Nodup ∧ (∀ y ∈ Y, y ∉ s ∧ y ∈ sp q L.flatten) ∧ L.flatten.length ≤ (Y.map g).sum := by
  induction L generalizing s q with
  | nil => exact ⟨[], List.nodup_nil, by simp, by simp⟩
  | cons S r ih =>
    obtain ⟨h1, h2, h3, h4⟩ := h
    obtain ⟨Y, y1, y2, y3⟩ := ih _ _ h4
    have hq : q ∈ sp q S := by
      cases S with
      | nil => exact absurd rfl h1
      | cons a S => simp [sp]
    refine ⟨q :: Y, List.nodup_cons.2 ⟨fun hy => ?_, y1⟩, ?_, ?_⟩
    · have := (y2 q hy).1
      exact this (by simp [hq])
    · intro y hy
      rw [List.mem_cons] at hy
      rw [List.flatten_cons, sp_app]
      rcases hy with rfl | hy
      · exact ⟨h3, by simp [hq]⟩
      · have := y2 y hy
        exact ⟨fun hs => this.1 (by simp [hs]), by simp [this.2]⟩
    · simp only [List.flatten_cons, List.length_append, List.map_cons, List.sum_cons]
      omega

def Sho.sumTo (g : Nat → Nat) : Nat → Nat
  | 0 => 0
  | n + 1 => sumTo g n + g n

theorem Sho.sum_erase (g : Nat → Nat) (Y : List Nat) (a : Nat) (h : a ∈ Y) : (Y.map g).sum = g a + ((Y.erase a).map g).sum := by
  induction Y with
  | nil => cases h
  | cons b Y ih =>
    by_cases hb : b = a
    · subst hb; simp
    · have ha : a ∈ Y := by
        rw [List.mem_cons] at h
        exact h.resolve_left (fun e => hb e.symm)
      rw [List.erase_cons_tail (by simpa using hb)]
      simp only [List.map_cons, List.sum_cons, ih ha]
      omega

theorem Sho.nodup_sum (g : Nat → Nat) (N : Nat) : ∀ Y : List Nat, Y.Nodup → (∀ y ∈ Y, y < N) → (Y.map g).sum ≤ sumTo g N := by
  induction N with
  | zero =>
    intro Y _ h
    cases Y with
    | nil => simp [sumTo]
    | cons a Y => exact absurd (h a (by simp)) (by omega)
  | succ N ih =>
    intro Y hn h
    by_cases hN : N ∈ Y
    · rw [sum_erase g Y N hN]
      have := ih (Y.erase N) (hn.erase N) (by
        intro y hy
        have h1 := h y (List.mem_of_mem_erase hy)
        have h2 : y ≠ N := by
          intro e
          subst e
          exact (List.Nodup.not_mem_erase hn) hy
        omega)
      simp only [sumTo]; omega
    · have := ih Y hn (by
        intro y hy
        have h1 := h y hy
        have h2 : y ≠ N := fun e => hN (e ▸ hy)
        omega)
      simp only [sumTo]; omega

/-- a stretch that starts nowhere new is no longer than one row -/
theorem Sho.dec_run (g : Nat → Nat) (c : Nat) (hc : ∀ y, g y ≤ c) (s : List Nat) (q : Nat) (L : List (List (Nat × Nat))) (h : Dec g s q L)
    (A B C : List (Nat × Nat)) (hL : L.flatten = A ++ (B ++ C)) (hB : ∀ y, y ∈ sp (fin q A) B → y ∈ s ++ sp q A) : B.length ≤ c := by
  induction L generalizing s q A with
  | nil =>
    simp only [List.flatten_nil] at hL
    have := congrArg List.length hL
    simp only [List.length_nil, List.length_append] at this
    omega
  | cons S r ih =>
    obtain ⟨h1, h2, h3, h4⟩ := h
    rw [List.flatten_cons] at hL
    rcases List.append_eq_append_iff.1 hL with ⟨A2, hA, hr⟩ | ⟨S2, hS, hr⟩
    · -- A = S ++ A2
      subst hA
      refine ih _ _ h4 A2 hr ?_
      intro y hy
      have := hB y (by rw [fin_app]; exact hy)
      rw [sp_app] at this
      simpa [List.append_assoc] using this
    · -- S = A ++ S2
      rcases List.append_eq_append_iff.1 hr with ⟨B2, hB1, hB2⟩ | ⟨B2, hB1, hB2⟩
      · subst hB1
        subst hS
        have := hc q
        simp only [List.length_append] at h2
        omega
      · by_cases hBn : B2 = []
        · subst hBn
          rw [List.append_nil] at hB1
          subst hB1
          subst hS
          have := hc q
          simp only [List.length_append] at h2
          omega
        · exfalso
          subst hB1
          subst hS
          match r, hB2, h4 with
          | [], hB2, _ =>
            simp only [List.flatten_nil] at hB2
            have := congrArg List.length hB2
            cases B2 with
            | nil => exact hBn rfl
            | cons _ _ => simp at this
          | S' :: r', hB2, h4 =>
            obtain ⟨k1, k2, k3, k4⟩ := h4
            have hm : fin q (A ++ S2) ∈ sp (fin q A) (S2 ++ B2) := by
              rw [sp_app, ← fin_app]
              cases B2 with
              | nil => exact absurd rfl hBn
              | cons b B2 => simp [sp]
            have := hB _ hm
            apply k3
            rw [sp_app]
            rw [List.mem_append] at this ⊢
            rcases this with h | h
            · exact Or.inl h
            · exact Or.inr (by rw [List.mem_append]; exact Or.inl h)

/-- each end of a plan is as long as its places allow -/
def Sho.Suf (g : Nat → Nat) (c q : Nat) (T : List (Nat × Nat)) : Prop :=
  ∀ A B, T = A ++ B → ∃ Y : List Nat, Y.Nodup ∧ (∀ y ∈ Y, y ∈ sp (fin q A) B) ∧ B.length ≤ c + (Y.map g).sum

theorem Sho.dec_suf (g : Nat → Nat) (c : Nat) (hc : ∀ y, g y ≤ c) (s : List Nat) (q : Nat) (L : List (List (Nat × Nat))) (h : Dec g s q L) :
    Suf g c q L.flatten := by
  induction L generalizing s q with
  | nil =>
    intro A B hL
    simp only [List.flatten_nil] at hL
    have := congrArg List.length hL
    simp only [List.length_nil, List.length_append] at this
    exact ⟨[], List.nodup_nil, by simp, by omega⟩
  | cons S r ih =>
    obtain ⟨h1, h2, h3, h4⟩ := h
    intro A B hL
    rw [List.flatten_cons] at hL
    rcases List.append_eq_append_iff.1 hL with ⟨A2, hA, hr⟩ | ⟨S2, hS, hr⟩
    · subst hA
      have := ih _ _ h4 A2 B hr
      rw [fin_app]
      exact this
    · subst hS hr
      obtain ⟨Y, y1, y2, y3⟩ := dec_starts g _ _ r h4
      refine ⟨Y, y1, ?_, ?_⟩
      · intro y hy
        rw [sp_app, ← fin_app]
        have := (y2 y hy).2
        simp [this]
      · have := hc q
        simp only [List.length_append] at h2 ⊢
        omega

theorem Sho.sp_mem (q : Nat) (T : List (Nat × Nat)) (y : Nat) (h : y ∈ sp q T) : ∃ X Y, T = X ++ Y ∧ fin q X = y := by
  induction T generalizing q with
  | nil => cases h
  | cons a T ih =>
    simp only [sp, List.mem_cons] at h
    rcases h with rfl | h
    · exact ⟨[], a :: T, rfl, rfl⟩
    · obtain ⟨X, Y, h1, h2⟩ := ih _ h
      exact ⟨a :: X, Y, by rw [h1]; rfl, h2⟩

theorem Sho.sp_lt (dr : Nat → Nat → Option Nat) (N : Nat) (hN : ∀ q m e, dr q m = some e → q < N) (q : Nat) (T : List (Nat × Nat)) (h : Val dr q T) :
    ∀ y ∈ sp q T, y < N := by
  induction T generalizing q with
  | nil => intro y hy; cases hy
  | cons a T ih =>
    intro y hy
    simp only [sp, List.mem_cons] at hy
    rcases hy with rfl | hy
    · exact hN _ _ _ h.1
    · exact ih _ h.2 y hy

theorem Sho.suf_drop (g : Nat → Nat) (c q : Nat) (C T : List (Nat × Nat)) (h : Suf g c q (C ++ T)) : Suf g c (fin q C) T := by
  intro A B hT
  have := h (C ++ A) B (by rw [hT, List.append_assoc])
  rw [fin_app] at this
  exact this

/-- the most moves that the route has while it is gone through -/
def Sho.pk (dr : Nat → Nat → Option Nat) (wd : Nat → Nat → Option (List Nat)) (oc : Nat → Nat → Nat) (tu : Option Nat → Option Nat → Nat) :
    Nat → Nat → Option Nat → Nat → List (Nat × Nat) → Nat
  | 0, e, _, _, _ => e
  | n + 1, e, l, q, T => match stp dr wd oc tu l q T with
    | [] => e
    | a :: T' => max (e + (T'.length + 1)) (pk dr wd oc tu n (e + 1) (some a.1) a.2 T')

theorem Sho.out (dr : Nat → Nat → Option Nat) (wd : Nat → Nat → Option (List Nat)) (oc : Nat → Nat → Nat) (tu : Option Nat → Option Nat → Nat)
    (fw : Nat → Bool) (g : Nat → Nat)
    (hself : ∀ q, wd q q = some []) (htri : ∀ a c m, tu a c ≤ tu a (some m) + tu (some m) c) (hoc : ∀ q m, 0 < oc q m)
    (hirr : ∀ q m e, dr q m = some e → e ≠ q)
    (hend : ∀ q p ws P, wd q p = some ws → fol dr q ws = some P → fin q P = p)
    (hwf : ∀ q p ws m, wd q p = some ws → m ∈ ws → fw m = true)
    (htz : ∀ a b, fw a = true → fw b = true → tu (some a) (some b) = 0)
    (htf : ∀ a b x, fw a = true → fw b = true → tu (some a) x = tu (some b) x)
    (hg : ∀ y p ws P X, wd y p = some ws → fol dr y ws = some P → Val dr y X → co oc y X ≤ co oc y P → (∀ a ∈ X, fw a.1 = true) → X.length ≤ g y)
    (hg1 : ∀ y, 1 ≤ g y)
    (H : List (Nat × Option Nat × List (Nat × Nat))) (l : Option Nat) (q : Nat) (U R : List (Nat × Nat)) (y p0 : Nat) (ws0 : List Nat)
    (P0 G : List (Nat × Nat)) (hI : Inv dr wd oc tu H l q U R) (hS : U ≠ [] → Str dr wd oc fw l q U y p0 ws0 P0 G) :
    stp dr wd oc tu l q (U ++ R) = [] ∨
    (∃ a U2, U ≠ [] ∧ stp dr wd oc tu l q (U ++ R) = a :: (U2 ++ R) ∧ Inv dr wd oc tu (nxt q l a H) (some a.1) a.2 U2 R ∧
      Str dr wd oc fw (some a.1) a.2 U2 y p0 ws0 P0 (G ++ [a]) ∧ (G ++ a :: U2).length ≤ g y ∧ fin q (a :: U2) = fin q U) ∨
    (q ∉ H.map Prod.fst ∧ ∃ a U2 R0 C R2, R = R0 ++ (C ++ R2) ∧ stp dr wd oc tu l q (U ++ R) = a :: (U2 ++ R2) ∧
      Inv dr wd oc tu (nxt q l a H) (some a.1) a.2 U2 R2 ∧ (U2 ≠ [] → ∃ p ws P, Str dr wd oc fw (some a.1) a.2 U2 q p ws P [a]) ∧
      (a :: U2).length ≤ g q ∧ fin a.2 U2 = fin (fin q U) (R0 ++ C) ∧
      ((C = [a] ∧ U2 = []) ∨ (C = [] ∧ ∀ z ∈ sp (fin (fin q U) R0) R2, z ≠ q))) := by
  have hI' := hI
  obtain ⟨I0, I1, I2, I3⟩ := hI'
  obtain ⟨R0, R1, U1, hR, hT, E1, E2, E3, E4, E5, hk⟩ := step_facts dr wd oc tu hself htri hoc hirr hend l q U R I3
  have hnx : ∀ C U2 R2 a, R1 = C ++ R2 → U1 ++ C = a :: U2 → (C = [] → U ++ R0 ≠ []) → (C ≠ [] → U1 = []) →
      Inv dr wd oc tu (nxt q l a H) (some a.1) a.2 U2 R2 := fun C U2 R2 a h1 h2 h3 h4 =>
    inv_nxt dr wd oc tu H l q U R hI R0 R1 U1 C U2 R2 a hR h1 h2 h3 h4 E1 E2 E3 E4 E5
  have hz0 : ∀ X Y, R = X ++ Y → fin q (U ++ X) = q → q ∉ H.map Prod.fst := by
    intro X Y hXY hf hm
    simp only [List.mem_map, Prod.exists] at hm
    obtain ⟨z, l0, G0, hm, hzq⟩ := hm
    subst hzq
    exact I2 _ l0 G0 hm X Y hXY hf
  -- an elder move
  have elder : U1 = [] → q ∉ H.map Prod.fst → stp dr wd oc tu l q (U ++ R) = [] ∨ (q ∉ H.map Prod.fst ∧ ∃ a U2 R0 C R2, R = R0 ++ (C ++ R2) ∧
      stp dr wd oc tu l q (U ++ R) = a :: (U2 ++ R2) ∧
      Inv dr wd oc tu (nxt q l a H) (some a.1) a.2 U2 R2 ∧ (U2 ≠ [] → ∃ p ws P, Str dr wd oc fw (some a.1) a.2 U2 q p ws P [a]) ∧
      (a :: U2).length ≤ g q ∧ fin a.2 U2 = fin (fin q U) (R0 ++ C) ∧
      ((C = [a] ∧ U2 = []) ∨ (C = [] ∧ ∀ z ∈ sp (fin (fin q U) R0) R2, z ≠ q))) := by
    intro hU1 hq
    rcases (show R1 = [] ∨ ∃ a R2, R1 = a :: R2 by cases R1 with | nil => exact Or.inl rfl | cons a R2 => exact Or.inr ⟨a, R2, rfl⟩) with hR1 | ⟨a, R2, hR1⟩
    · exact Or.inl (by rw [hT, hU1, hR1]; rfl)
    · refine Or.inr ⟨hq, a, [], R0, [a], R2, by rw [hR, hR1]; rfl, by rw [hT, hU1, hR1]; rfl,
        hnx [a] [] R2 a (by rw [hR1]; rfl) (by rw [hU1]; rfl) (by simp) (fun _ => hU1), fun h => absurd rfl h, hg1 q, ?_, Or.inl ⟨rfl, rfl⟩⟩
      rw [fin_app, ← fin_app q U R0, ← E1, hU1]
      rfl
  by_cases hel : R0 = []
  · subst hel
    simp only [List.nil_append] at hR
    subst hR
    rw [List.append_nil] at E1
    by_cases hU1 : U1 = []
    · rcases elder hU1 (hz0 [] R rfl (by rw [List.append_nil, ← E1, hU1]; rfl)) with h | h
      · exact Or.inl h
      · exact Or.inr (Or.inr h)
    · have hU : U ≠ [] := by
        rcases hk with ⟨_, h⟩ | ⟨_, A, P, U2, ws, nx, h, _, h2, _⟩ | ⟨h, _⟩
        · rw [← h]; exact hU1
        · intro h0
          rw [h0] at h
          have := congrArg List.length h
          simp only [List.length_nil, List.length_append] at this
          omega
        · exact absurd rfl h
      obtain ⟨s1, s2, s3, s4, s5, s6, f, s7, s8⟩ := hS hU
      have hV1 : Val dr q U1 := ((val_app dr q U1 R).1 E5).1
      have hnest : co oc q U1 ≤ co oc q U ∧ ∀ a ∈ U1, fw a.1 = true := by
        rcases hk with ⟨_, h⟩ | ⟨_, A, P, U2, ws, nx, hA, hP, h2, hw, hfo, hc⟩ | ⟨h, _⟩
        · rw [h]; exact ⟨Nat.le_refl _, fun b hb => s6 b (List.mem_append_right _ hb)⟩
        · subst hA hP
          have hPf : ∀ a ∈ P, fw a.1 = true := by
            intro a ha
            refine hwf _ _ ws a.1 hw ?_
            rw [(fol_val dr q ws P hfo).2]
            exact List.mem_map_of_mem ha
          have hAf : ∀ a ∈ A, fw a.1 = true := fun a ha => s6 a (by simp [ha])
          refine ⟨?_, ?_⟩
          · have m1 := mv_fw oc tu fw htz f q s8 P hPf
            have m2 := mv_fw oc tu fw htz f q s8 A hAf
            obtain ⟨m1, f1, g1, g1'⟩ := m1
            obtain ⟨m2, f2, g2, g2'⟩ := m2
            rw [s7] at hc
            unfold cw at hc
            rw [m1, m2, g1, g2, htf f1 f2 nx g1' g2'] at hc
            rw [co_app, co_app, hend _ _ _ _ hw hfo]
            omega
          · intro a ha
            rw [List.mem_append] at ha
            rcases ha with h | h
            · exact hPf a h
            · exact s6 a (by simp [h])
        · exact absurd rfl h
      match U1, hU1, hnx, hT, hnest, hV1, E1, E5 with
      | a :: U2, _, hnx, hT, hnest, hV1, E1, E5 =>
        have hV2 : Val dr y (G ++ a :: U2) := by
          rw [val_app, s5]
          exact ⟨((val_app dr y G U).1 s3).1, hV1⟩
        have hC2 : co oc y (G ++ a :: U2) ≤ co oc y P0 := by
          rw [co_app, s5]
          rw [co_app, s5] at s4
          have := hnest.1
          omega
        refine Or.inr (Or.inl ⟨a, U2, hU, hT, hnx [] U2 R a rfl (by simp) (by simp [hU]) (fun h => absurd rfl h),
          ⟨s1, s2, ?_, ?_, ?_, fun b hb => by
              rw [List.append_assoc, List.mem_append] at hb
              exact hb.elim (fun h => s6 b (List.mem_append_left _ h)) (fun h => hnest.2 b (by simpa using h)), a.1, rfl, hnest.2 a (by simp)⟩, hg y p0 ws0 P0 _ s1 s2 hV2 hC2 (fun b hb => by
            rw [List.mem_append] at hb
            exact hb.elim (fun h => s6 b (List.mem_append_left _ h)) (hnest.2 b)), E1⟩)
        · rw [List.append_assoc]; exact hV2
        · rw [List.append_assoc]; exact hC2
        · rw [fin_app]; rfl
  · rcases hk with ⟨h, _⟩ | ⟨h, _⟩ | ⟨_, ws, hw, hfo, hc⟩
    · exact absurd h hel
    · exact absurd h hel
    have hq : q ∉ H.map Prod.fst := by
      intro hm
      simp only [List.mem_map, Prod.exists] at hm
      obtain ⟨z, l0, G0, hm, hzq⟩ := hm
      subst hzq
      have i1 := I1 _ l0 G0 hm R0 R1 hR hel ws U1 hw hfo
      obtain ⟨i2, i3, i4⟩ := I0 _ l0 G0 hm
      have t := tri oc tu htri hoc l0 z G0
      by_cases hP : U1 = []
      · subst hP
        have := t (hd R1) i4
        simp only [cw, mv, lst] at i1 hc
        rw [i3] at this
        omega
      · have := t (hd U1) i4
        have := mv_chg oc tu l0 l z U1 hP
        rw [i3] at *
        unfold cw at i1 hc
        rw [lst_ne l0 l U1 hP] at i1
        omega
    by_cases hU1 : U1 = []
    · rcases elder hU1 hq with h | h
      · exact Or.inl h
      · exact Or.inr (Or.inr h)
    · match U1, hU1, hnx, hT, E1, E4, hfo with
      | a :: U2, _, hnx, hT, E1, E4, hfo =>
        have hPf : ∀ b ∈ a :: U2, fw b.1 = true := by
          intro b hb
          refine hwf _ _ ws b.1 hw ?_
          rw [(fol_val dr q ws _ hfo).2]
          exact List.mem_map_of_mem hb
        have hVa := (fol_val dr q ws _ hfo).1
        refine Or.inr (Or.inr ⟨hq, a, U2, R0, [], R1, by rw [hR]; rfl, hT, hnx [] U2 R1 a rfl (by simp) (by simp [hel]) (fun h => absurd rfl h),
          fun _ => ⟨fin q (U ++ R0), ws, a :: U2, hw, hfo, hVa, Nat.le_refl _, rfl, fun b hb => hPf b (by simpa using hb), a.1, rfl, hPf a (by simp)⟩,
          hg q _ ws _ _ hw hfo hVa (Nat.le_refl _) hPf, ?_, Or.inr ⟨rfl, ?_⟩⟩)
        · rw [List.append_nil, ← fin_app]; exact E1
        · intro z hz
          obtain ⟨X, Y, h1, h2⟩ := sp_mem _ _ _ hz
          have := E4 X Y h1 (fun h => by cases h)
          rw [fin_app, E1, fin_app, h2] at this
          exact this

theorem Sho.sum_two (g : Nat → Nat) (N : Nat) (K Y : List Nat) (hK : K.Nodup) (hY : Y.Nodup) (hd : ∀ y ∈ Y, y ∉ K) (h1 : ∀ y ∈ K, y < N) (h2 : ∀ y ∈ Y, y < N) :
    (K.map g).sum + (Y.map g).sum ≤ sumTo g N := by
  have := nodup_sum g N (K ++ Y) (List.nodup_append.2 ⟨hK, hY, fun a ha b hb e => hd b hb (e ▸ ha)⟩) (by
    intro y hy
    rw [List.mem_append] at hy
    exact hy.elim (h1 y) (h2 y))
  rw [List.map_append, List.sum_append] at this
  exact this

theorem Sho.stp_val (dr : Nat → Nat → Option Nat) (wd : Nat → Nat → Option (List Nat)) (oc : Nat → Nat → Nat) (tu : Option Nat → Option Nat → Nat)
    (hself : ∀ q, wd q q = some []) (htri : ∀ a c m, tu a c ≤ tu a (some m) + tu (some m) c) (hoc : ∀ q m, 0 < oc q m)
    (hirr : ∀ q m e, dr q m = some e → e ≠ q)
    (hend : ∀ q p ws P, wd q p = some ws → fol dr q ws = some P → fin q P = p)
    (l : Option Nat) (q : Nat) (T : List (Nat × Nat)) (hV : Val dr q T) : Val dr q (stp dr wd oc tu l q T) := by
  obtain ⟨R0, R1, U1, hR, hT, E1, E2, E3, E4, E5, hk⟩ := step_facts dr wd oc tu hself htri hoc hirr hend l q [] T hV
  rw [List.nil_append] at hT
  rw [hT]
  exact E5

theorem Sho.pk_le (dr : Nat → Nat → Option Nat) (wd : Nat → Nat → Option (List Nat)) (oc : Nat → Nat → Nat) (tu : Option Nat → Option Nat → Nat)
    (fw : Nat → Bool) (g : Nat → Nat) (c N : Nat)
    (hself : ∀ q, wd q q = some []) (htri : ∀ a c m, tu a c ≤ tu a (some m) + tu (some m) c) (hoc : ∀ q m, 0 < oc q m)
    (hirr : ∀ q m e, dr q m = some e → e ≠ q)
    (hend : ∀ q p ws P, wd q p = some ws → fol dr q ws = some P → fin q P = p)
    (hwf : ∀ q p ws m, wd q p = some ws → m ∈ ws → fw m = true)
    (htz : ∀ a b, fw a = true → fw b = true → tu (some a) (some b) = 0)
    (htf : ∀ a b x, fw a = true → fw b = true → tu (some a) x = tu (some b) x)
    (hg : ∀ y p ws P X, wd y p = some ws → fol dr y ws = some P → Val dr y X → co oc y X ≤ co oc y P → (∀ a ∈ X, fw a.1 = true) → X.length ≤ g y)
    (hg1 : ∀ y, 1 ≤ g y) (hN : ∀ q m e, dr q m = some e → q < N) (n : Nat) :
    ∀ (H : List (Nat × Option Nat × List (Nat × Nat))) (l : Option Nat) (q : Nat) (U R : List (Nat × Nat)) (y p0 : Nat) (ws0 : List Nat)
      (P0 G : List (Nat × Nat)) (e : Nat) (K : List Nat), Inv dr wd oc tu H l q U R → (U ≠ [] → Str dr wd oc fw l q U y p0 ws0 P0 G) →
      Suf g c (fin q U) R → K.Nodup → (∀ z ∈ K, z ∈ H.map Prod.fst) → (∀ z ∈ H.map Prod.fst, z < N) →
      (U = [] → e ≤ (K.map g).sum) → (U ≠ [] → e + g y ≤ (K.map g).sum + G.length) →
      pk dr wd oc tu n e l q (U ++ R) ≤ sumTo g N + c := by
  induction n with
  | zero =>
    intro H l q U R y p0 ws0 P0 G e K hI hS hSuf hK hKH hHN he1 he2
    have h0 := nodup_sum g N K hK (fun z hz => hHN z (hKH z hz))
    simp only [pk]
    by_cases hU : U = []
    · have := he1 hU; omega
    · have := he2 hU
      obtain ⟨s1, s2, s3, s4, s5, s6, _⟩ := hS hU
      rw [val_app] at s3
      rw [co_app] at s4
      have := hg y p0 ws0 P0 G s1 s2 s3.1 (by omega) (fun b hb => s6 b (List.mem_append_left _ hb))
      omega
  | succ n ih =>
    intro H l q U R y p0 ws0 P0 G e K hI hS hSuf hK hKH hHN he1 he2
    have h0 := nodup_sum g N K hK (fun z hz => hHN z (hKH z hz))
    have heK : e ≤ (K.map g).sum := by
      by_cases hU : U = []
      · exact he1 hU
      · have := he2 hU
        obtain ⟨s1, s2, s3, s4, s5, s6, _⟩ := hS hU
        rw [val_app] at s3
        rw [co_app] at s4
        have := hg y p0 ws0 P0 G s1 s2 s3.1 (by omega) (fun b hb => s6 b (List.mem_append_left _ hb))
        omega
    have hV := hI.2.2.2
    have hVR : Val dr (fin q U) R := ((val_app dr q U R).1 hV).2
    have hsv := stp_val dr wd oc tu hself htri hoc hirr hend l q (U ++ R) hV
    -- poses of the elder rest are new
    have hnew : ∀ R0 R1, R = R0 ++ R1 → ∀ z ∈ sp (fin (fin q U) R0) R1, z ∉ H.map Prod.fst ∧ z < N := by
      intro R0 R1 hR z hz
      refine ⟨fun hm => ?_, ?_⟩
      · obtain ⟨X, Y, h1, h2⟩ := sp_mem _ _ _ hz
        simp only [List.mem_map, Prod.exists] at hm
        obtain ⟨z', l0, G0, hm, hzq⟩ := hm
        subst hzq
        refine hI.2.2.1 _ l0 G0 hm (R0 ++ X) Y (by rw [hR, h1, List.append_assoc]) ?_
        rw [fin_app, fin_app, h2]
      · rw [hR, val_app] at hVR
        exact sp_lt dr N hN _ _ hVR.2 z hz
    rcases out dr wd oc tu fw g hself htri hoc hirr hend hwf htz htf hg hg1 H l q U R y p0 ws0 P0 G hI hS with h | ⟨a, U2, hU, hT, hI2, hS2, hlen, hfin⟩ |
      ⟨hq, a, U2, R0, C, R2, hR, hT, hI2, hS2, hlen, hfin, hC⟩
    · simp only [pk, h]; omega
    · rw [hT] at hsv
      have hqN : q < N := hN _ _ _ hsv.1
      have heU := he2 hU
      simp only [List.length_append, List.length_cons] at hlen
      obtain ⟨Y, y1, y2, y3⟩ := hSuf [] R rfl
      have hs2 := sum_two g N K Y hK y1 (fun z hz hk => (hnew [] R rfl z (y2 z hz)).1 (hKH z hk)) (fun z hz => hHN z (hKH z hz)) (fun z hz => (hnew [] R rfl z (y2 z hz)).2)
      have hr := ih (nxt q l a H) (some a.1) a.2 U2 R y p0 ws0 P0 (G ++ [a]) (e + 1) K hI2 (fun _ => hS2) (by rw [show fin a.2 U2 = fin q U from hfin]; exact hSuf) hK
        (fun z hz => by rw [nxt_fst]; exact List.mem_cons_of_mem _ (hKH z hz))
        (fun z hz => by rw [nxt_fst, List.mem_cons] at hz; exact hz.elim (fun e => e ▸ hqN) (hHN z))
        (fun h2 => by rw [h2] at hlen; simp only [List.length_nil] at hlen; omega)
        (fun _ => by rw [List.length_append, List.length_singleton]; omega)
      simp only [pk, hT, List.length_append]
      omega
    · rw [hT] at hsv
      have hqN : q < N := hN _ _ _ hsv.1
      have hqK : q ∉ K := fun h => hq (hKH q h)
      have hR' : R = (R0 ++ C) ++ R2 := by rw [hR, List.append_assoc]
      have hSuf2 : Suf g c (fin a.2 U2) R2 := by
        rw [hfin]
        refine suf_drop g c _ (R0 ++ C) R2 ?_
        rw [← hR']; exact hSuf
      have hgq := hg1 q
      have hr : pk dr wd oc tu n (e + 1) (some a.1) a.2 (U2 ++ R2) ≤ sumTo g N + c := by
        rcases (show U2 = [] ∨ ∃ p ws P, Str dr wd oc fw (some a.1) a.2 U2 q p ws P [a] from (Classical.em (U2 = [])).imp id hS2) with h2 | ⟨p, ws, P, h2⟩
        · exact ih (nxt q l a H) (some a.1) a.2 U2 R2 q 0 [] [] [a] (e + 1) (q :: K) hI2 (fun h => absurd h2 h) hSuf2 (List.nodup_cons.2 ⟨hqK, hK⟩)
            (fun z hz => by rw [nxt_fst]; rw [List.mem_cons] at hz ⊢; exact hz.imp id (hKH z))
            (fun z hz => by rw [nxt_fst, List.mem_cons] at hz; exact hz.elim (fun e => e ▸ hqN) (hHN z))
            (fun _ => by rw [List.map_cons, List.sum_cons]; omega)
            (fun h => absurd h2 h)
        · exact ih (nxt q l a H) (some a.1) a.2 U2 R2 q p ws P [a] (e + 1) (q :: K) hI2 (fun _ => h2) hSuf2 (List.nodup_cons.2 ⟨hqK, hK⟩)
            (fun z hz => by rw [nxt_fst]; rw [List.mem_cons] at hz ⊢; exact hz.imp id (hKH z))
            (fun z hz => by rw [nxt_fst, List.mem_cons] at hz; exact hz.elim (fun e => e ▸ hqN) (hHN z))
            (fun _ => by rw [List.map_cons, List.sum_cons]; omega)
            (fun _ => by rw [List.map_cons, List.sum_cons, List.length_singleton]; omega)
      simp only [pk, hT]
      refine Nat.max_le.2 ⟨?_, hr⟩
      simp only [List.length_append, List.length_cons] at hlen ⊢
      rcases hC with ⟨hC, hU2⟩ | ⟨hC, hz⟩
      · subst hC hU2
        obtain ⟨Y, y1, y2, y3⟩ := hSuf R0 ([a] ++ R2) hR
        have hs2 := sum_two g N K Y hK y1 (fun z hz hk => (hnew _ _ hR z (y2 z hz)).1 (hKH z hk)) (fun z hz => hHN z (hKH z hz)) (fun z hz => (hnew _ _ hR z (y2 z hz)).2)
        simp only [List.length_append, List.length_cons, List.length_nil] at y3 ⊢
        omega
      · subst hC
        rw [List.nil_append] at hR
        obtain ⟨Y, y1, y2, y3⟩ := hSuf R0 R2 hR
        have hs2 := sum_two g N (q :: K) Y (List.nodup_cons.2 ⟨hqK, hK⟩) y1
          (fun z hz' hk => by
            rw [List.mem_cons] at hk
            rcases hk with rfl | hk
            · exact hz _ (y2 _ hz') rfl
            · exact (hnew _ _ hR z (y2 z hz')).1 (hKH z hk))
          (fun z hz' => by rw [List.mem_cons] at hz'; exact hz'.elim (fun e => e ▸ hqN) (fun h => hHN z (hKH z h)))
          (fun z hz' => (hnew _ _ hR z (y2 z hz')).2)
        rw [List.map_cons, List.sum_cons] at hs2
        omega
