section
def dx6 (g m : Nat) : Int := (qFx (Int32.ofNat g) (Int32.ofNat m)).toInt
def dy6 (g m : Nat) : Int := (qFy (Int32.ofNat g) (Int32.ofNat m)).toInt
def hd6 (g m : Nat) : Nat := (g + (if m = 1 ∨ m = 5 then 7 else if m % 3 = 0 then 0 else 1)) % 8
theorem ck_mv6 : allP (fun p => allB 6 fun m => decide (enN p m = 0 ∨ ((((enN p m - 1) % 16 : Nat) : Int) = ((p % 16 : Nat) : Int) + dx6 (p / 256) m ∧ (((enN p m - 1) / 16 % 16 : Nat) : Int) = ((p / 16 % 16 : Nat) : Int) + dy6 (p / 256) m ∧ (enN p m - 1) / 256 = hd6 (p / 256) m))) = true := by decide +kernel
def hdS (g m : Nat) : Nat → Nat
  | 0 => g
  | n + 1 => hd6 (hdS g m n) m
def dS (f : Nat → Nat → Int) (g m : Nat) : Nat → Int
  | 0 => 0
  | n + 1 => dS f g m n + f (hdS g m n) m
theorem ck_circ : allB 8 (fun g => allB 6 fun m => decide (m % 3 = 0 ∨ (hdS g m 8 = g ∧ dS dx6 g m 8 = 0 ∧ dS dy6 g m 8 = 0))) = true := by decide +kernel
theorem ck_strt : allB 8 (fun g => allB 6 fun m => decide (m % 3 ≠ 0 ∨ (hdS g m 16 = g ∧ (dS dx6 g m 16 = 16 ∨ dS dx6 g m 16 = -16 ∨ dS dy6 g m 16 = 16 ∨ dS dy6 g m 16 = -16)))) = true := by decide +kernel
theorem drN_some {q m x : Nat} (h : drE enN q m = some x) : enN q m = x + 1 := by
  unfold drE at h
  split at h
  · cases h
  · have := Option.some.inj h
    omega
/-- where a row of one move leads -/
theorem run_end {m : Nat} (hm : m < 6) : ∀ (B : List (Nat × Nat)) (q : Nat), q < 2048 → (∀ x ∈ B, x.1 = m ∧ x.2 < 2048) → Sho.Val (drE enN) q B →
    (((Sho.fin q B) % 16 : Nat) : Int) = ((q % 16 : Nat) : Int) + dS dx6 (q / 256) m B.length ∧ (((Sho.fin q B) / 16 % 16 : Nat) : Int) = ((q / 16 % 16 : Nat) : Int) + dS dy6 (q / 256) m B.length ∧ Sho.fin q B / 256 = hdS (q / 256) m B.length := by
  intro B
  induction hn : B.length generalizing B with
  | zero =>
    intro q hq hB hv
    rw [List.length_eq_zero_iff.mp hn]
    exact ⟨by simp [Sho.fin, dS], by simp [Sho.fin, dS], rfl⟩
  | succ n ih =>
    intro q hq hB hv
    rcases List.eq_nil_or_concat B with rfl | ⟨B', a, rfl⟩
    · simp at hn
    · rw [List.concat_eq_append] at hn hB hv ⊢
      have hl : B'.length = n := by simpa using hn
      obtain ⟨v1, v2⟩ := (Sho.val_app (drE enN) q B' [a]).1 hv
      have hB' : ∀ x ∈ B', x.1 = m ∧ x.2 < 2048 := fun x hx => hB x (List.mem_append_left _ hx)
      obtain ⟨i1, i2, i3⟩ := ih B' hl q hq hB' v1
      have ha := hB a (by simp)
      have f1 : Sho.fin q B' < 2048 := fin_lt hq (fun x hx => ⟨by rw [(hB' x hx).1]; exact hm, (hB' x hx).2⟩)
      have e1 := drN_some v2.1
      rw [ha.1] at e1
      have ck := (of_decide_eq_true (allB_get (allP_get ck_mv6 f1) m hm)).resolve_left (by omega)
      rw [e1, Nat.add_sub_cancel, i1, i2, i3] at ck
      rw [Sho.fin_app, show Sho.fin (Sho.fin q B') [a] = a.2 from rfl]
      exact ⟨by rw [ck.1, dS, Int.add_assoc], by rw [ck.2.1, dS, Int.add_assoc], ck.2.2⟩
theorem circ_end {m q : Nat} (hm : m < 6) (h3 : m % 3 ≠ 0) {B : List (Nat × Nat)} (hq : q < 2048) (hB : ∀ x ∈ B, x.1 = m ∧ x.2 < 2048) (hv : Sho.Val (drE enN) q B) (h8 : B.length = 8) : Sho.fin q B = q := by
  obtain ⟨a1, a2, a3⟩ := run_end hm B q hq hB hv
  rw [h8] at a1 a2 a3
  have ck := (of_decide_eq_true (allB_get (allB_get ck_circ (q / 256) (by omega)) m hm)).resolve_left h3
  rw [ck.2.1] at a1
  rw [ck.2.2] at a2
  rw [ck.1] at a3
  have f1 : Sho.fin q B < 2048 := fin_lt hq (fun x hx => ⟨by rw [(hB x hx).1]; exact hm, (hB x hx).2⟩)
  omega
theorem strt_len {m q : Nat} (hm : m < 6) (h3 : m % 3 = 0) {B : List (Nat × Nat)} (hq : q < 2048) (hB : ∀ x ∈ B, x.1 = m ∧ x.2 < 2048) (hv : Sho.Val (drE enN) q B) : B.length ≤ 15 := by
  refine Classical.byContradiction fun hl => ?_
  have hv' : Sho.Val (drE enN) q (B.take 16) := ((Sho.val_app (drE enN) q (B.take 16) (B.drop 16)).1 (by rw [List.take_append_drop]; exact hv)).1
  have hB' : ∀ x ∈ B.take 16, x.1 = m ∧ x.2 < 2048 := fun x hx => hB x (List.mem_of_mem_take hx)
  obtain ⟨a1, a2, a3⟩ := run_end hm (B.take 16) q hq hB' hv'
  have l16 : (B.take 16).length = 16 := by rw [List.length_take]; omega
  rw [l16] at a1 a2
  have ck := (of_decide_eq_true (allB_get (allB_get ck_strt (q / 256) (by omega)) m hm)).resolve_left (by omega)
  omega
/-- rows of one move -/
def Rn (T : List (Nat × Nat)) : Prop := ∀ A B C m, T = A ++ (B ++ C) → (∀ x ∈ B, x.1 = m) → B.length < 100
theorem sp_val {q : Nat} {A B : List (Nat × Nat)} {y : Nat} (h : y ∈ Sho.sp q (A ++ B)) : y ∈ Sho.sp q A ∨ y ∈ Sho.sp (Sho.fin q A) B := by
  rw [Sho.sp_app] at h
  exact List.mem_append.mp h
/-- behind 8 arcs the poses come again -/
theorem circ_sp {m : Nat} (hm : m < 6) (h3 : m % 3 ≠ 0) : ∀ (n : Nat) (q : Nat) (B : List (Nat × Nat)), B.length ≤ n → q < 2048 → (∀ x ∈ B, x.1 = m ∧ x.2 < 2048) → Sho.Val (drE enN) q B → ∀ y ∈ Sho.sp q B, y ∈ Sho.sp q (B.take 8) := by
  intro n
  induction n with
  | zero =>
    intro q B hn hq hB hv y hy
    rw [List.length_eq_zero_iff.mp (Nat.le_zero.mp hn)] at hy
    exact (List.not_mem_nil hy).elim
  | succ n ih =>
    intro q B hn hq hB hv y hy
    by_cases h8 : B.length ≤ 8
    · rw [List.take_of_length_le h8]; exact hy
    · have e : B = B.take 8 ++ B.drop 8 := (List.take_append_drop 8 B).symm
      have t8 : (B.take 8).length = 8 := by rw [List.length_take]; omega
      have hv' := hv
      rw [e] at hv' hy
      obtain ⟨v1, v2⟩ := (Sho.val_app (drE enN) q _ _).1 hv'
      have c := circ_end hm h3 hq (fun x hx => hB x (List.mem_of_mem_take hx)) v1 t8
      rcases sp_val hy with z | z
      · exact z
      · rw [c] at z v2
        have d := ih q (B.drop 8) (by rw [List.length_drop]; omega) hq (fun x hx => hB x (List.mem_of_mem_drop hx)) v2 y z
        -- the first 8 behind are as the first 8
        have key : ∀ (k : Nat) (q : Nat) (A C : List (Nat × Nat)), A.length = k → C.length ≤ k → (∀ x ∈ A, x.1 = m) → (∀ x ∈ C, x.1 = m) → Sho.Val (drE enN) q A → Sho.Val (drE enN) q C → ∀ y ∈ Sho.sp q C, y ∈ Sho.sp q A := by
          intro k
          induction k with
          | zero =>
            intro q A C hA hC _ _ _ _ y hy
            rw [List.length_eq_zero_iff.mp (Nat.le_zero.mp hC)] at hy
            exact (List.not_mem_nil hy).elim
          | succ k ihk =>
            intro q A C hA hC mA mC vA vC y hy
            cases A with
            | nil => simp at hA
            | cons a A =>
              cases C with
              | nil => exact (List.not_mem_nil hy).elim
              | cons c C =>
                have e1 := drN_some vA.1
                have e2 := drN_some vC.1
                rw [mA a List.mem_cons_self] at e1
                rw [mC c List.mem_cons_self] at e2
                have e3 : c.2 = a.2 := by omega
                rw [Sho.sp, List.mem_cons] at hy ⊢
                refine hy.imp id fun h => ?_
                rw [e3] at h
                exact ihk a.2 A C (by simpa using hA) (by simpa using hC) (fun x hx => mA x (List.mem_cons_of_mem _ hx)) (fun x hx => mC x (List.mem_cons_of_mem _ hx)) vA.2 (e3 ▸ vC.2) y h
        exact key 8 q (B.take 8) ((B.drop 8).take 8) t8 (by rw [List.length_take]; omega) (fun x hx => (hB x (List.mem_of_mem_take hx)).1) (fun x hx => (hB x (List.mem_of_mem_drop (List.mem_of_mem_take hx))).1) v1
          ((Sho.val_app (drE enN) q ((B.drop 8).take 8) ((B.drop 8).drop 8)).1 (by rw [List.take_append_drop]; exact v2)).1 y d
theorem val_mono {dr dr' : Nat → Nat → Option Nat} (h : ∀ q m x, dr q m = some x → dr' q m = some x) : ∀ (T : List (Nat × Nat)) (q : Nat), Sho.Val dr q T → Sho.Val dr' q T
  | [], _, _ => trivial
  | a :: T, q, hv => ⟨h _ _ _ hv.1, val_mono h T a.2 hv.2⟩
theorem dr_geo {o : Nat → Bool} (q m x : Nat) (h : drE (eG o) q m = some x) : drE enN q m = some x := by
  obtain ⟨_, _, e⟩ := dr_some h
  unfold drE
  rw [if_neg (by omega), e, Nat.add_sub_cancel]
/-- what holds of each plan: where its moves lead, how long it can be, that no row of one move is long -/
def PI (q : Nat) (T : List (Nat × Nat)) : Prop := q < 2048 ∧ (∀ x ∈ T, x.1 < 6 ∧ x.2 < 2048) ∧ Sho.Val (drE enN) q T ∧ Sho.Suf gN 75 q T ∧ Rn T ∧ T.length ≤ 113068
theorem run_of {q m : Nat} {T A B C : List (Nat × Nat)} (hq : q < 2048) (hT : ∀ x ∈ T, x.1 < 6 ∧ x.2 < 2048) (hv : Sho.Val (drE enN) q T) (e : T = A ++ (B ++ C)) (hB : ∀ x ∈ B, x.1 = m) (hl : 16 ≤ B.length) :
    m < 6 ∧ m % 3 ≠ 0 ∧ Sho.fin q A < 2048 ∧ (∀ x ∈ B, x.1 = m ∧ x.2 < 2048) ∧ Sho.Val (drE enN) (Sho.fin q A) B := by
  have hB' : ∀ x ∈ B, x.1 = m ∧ x.2 < 2048 := fun x hx => ⟨hB x hx, (hT x (by rw [e]; exact List.mem_append_right _ (List.mem_append_left _ hx))).2⟩
  have hm : m < 6 := by
    cases B with
    | nil => simp at hl
    | cons b B => rw [← hB b List.mem_cons_self]; exact (hT b (by rw [e]; simp)).1
  have hA : Sho.fin q A < 2048 := fin_lt hq (fun x hx => hT x (by rw [e]; exact List.mem_append_left _ hx))
  have hvB : Sho.Val (drE enN) (Sho.fin q A) B := by
    rw [e] at hv
    exact ((Sho.val_app _ _ _ _).1 ((Sho.val_app _ _ _ _).1 hv).2).1
  refine ⟨hm, fun h3 => ?_, hA, hB', hvB⟩
  have := strt_len hm h3 hA hB' hvB
  omega
theorem sumTo_gN : Sho.sumTo gN 2048 ≤ 113068 := gN_sum
/-- what a shorten leaves -/
theorem pi_dec {q : Nat} {L : List (List (Nat × Nat))} (hq : q < 2048) (hT : ∀ x ∈ L.flatten, x.1 < 6 ∧ x.2 < 2048) (hv : Sho.Val (drE enN) q L.flatten) (h : Sho.Dec gN [] q L) : PI q L.flatten := by
  have spl : ∀ (T : List (Nat × Nat)) (q : Nat), q < 2048 → (∀ x ∈ T, x.1 < 6 ∧ x.2 < 2048) → ∀ y ∈ Sho.sp q T, y < 2048 := by
    intro T
    induction T with
    | nil => intro q _ _ y hy; exact (List.not_mem_nil hy).elim
    | cons a T ih =>
      intro q hq hT y hy
      rw [Sho.sp, List.mem_cons] at hy
      rcases hy with z | z
      · rw [z]; exact hq
      · exact ih a.2 (hT a List.mem_cons_self).2 (fun x hx => hT x (List.mem_cons_of_mem _ hx)) y z
  refine ⟨hq, hT, hv, Sho.dec_suf gN 75 gN_75 [] q L h, ?_, ?_⟩
  · intro A B C m e hB
    by_cases hl : 16 ≤ B.length
    · obtain ⟨hm, h3, hA, hB', hvB⟩ := run_of hq hT hv e hB hl
      have e2 : B = B.take 8 ++ B.drop 8 := (List.take_append_drop 8 B).symm
      have := Sho.dec_run gN 75 gN_75 [] q L h (A ++ B.take 8) (B.drop 8) C (by rw [e, List.append_assoc, ← List.append_assoc (B.take 8), ← e2]) (by
        intro y hy
        rw [List.nil_append, Sho.sp_app]
        refine List.mem_append_right _ (circ_sp hm h3 B.length (Sho.fin q A) B (Nat.le_refl _) hA hB' hvB y ?_)
        rw [e2, Sho.sp_app]
        rw [Sho.fin_app] at hy
        exact List.mem_append_right _ hy)
      rw [List.length_drop] at this
      omega
    · omega
  · obtain ⟨Y, y1, y2, y3⟩ := Sho.dec_starts gN [] q L h
    have := Sho.nodup_sum gN 2048 Y y1 (fun y hy => spl _ q hq hT y (y2 y hy).2)
    have := sumTo_gN
    omega
/-- a short drive -/
theorem pi_short {q : Nat} {T : List (Nat × Nat)} (hq : q < 2048) (hT : ∀ x ∈ T, x.1 < 6 ∧ x.2 < 2048) (hv : Sho.Val (drE enN) q T) (hl : T.length ≤ 75) : PI q T := by
  refine ⟨hq, hT, hv, fun A B e => ⟨[], List.nodup_nil, fun y hy => (List.not_mem_nil hy).elim, ?_⟩, fun A B C m e _ => ?_, by omega⟩
  · have := congrArg List.length e
    rw [List.length_append] at this
    simp only [List.map_nil, List.sum_nil]
    omega
  · have := congrArg List.length e
    rw [List.length_append, List.length_append] at this
    omega
end
