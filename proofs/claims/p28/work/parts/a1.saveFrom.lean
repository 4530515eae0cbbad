section
variable {L : Nat} {xs : Nat → Int32} {k : Nat} {h : List mCel} {rt pa ma e0 q : Nat} {T : List (Nat × Nat)}
/-- different addresses -/
def Dj (A B : List Nat) : Prop := ∀ a, a ∈ A → ∀ b, b ∈ B → a ≠ b
/-- what a move costs -/
def ocE (e : Nat → Nat → Nat) (wt : Nat → Nat → Nat → Nat) (q m : Nat) : Nat := wt q m (e q m - 1)
theorem mv_eq {e : Nat → Nat → Nat} {wt : Nat → Nat → Nat → Nat} {tu : Option Nat → Option Nat → Nat} : ∀ (A : List (Nat × Nat)) (l : Option Nat) (q : Nat), Sho.Val (drE e) q A → mvW wt tu l q A = Sho.mv (ocE e wt) tu l q A
  | [], _, _, _ => rfl
  | a :: A, l, q, hv => by
    obtain ⟨h1, h2⟩ := hv
    have h3 : a.2 = e q a.1 - 1 := by
      unfold drE at h1
      split at h1
      · cases h1
      · exact (Option.some.inj h1).symm
    rw [mvW, Sho.mv, mv_eq A (some a.1) a.2 h2, ocE, ← h3]
variable {F P W rs sh ar ax ay cl op cu pr mr er qr : Nat} {Tr : List (Nat × Nat)} {fF : List Value} {fc fo fX fY : Nat → Int32} {mg : Int32} {wt : Nat → Nat → Nat → Nat} {e : Nat → Nat → Nat} {s : wS}
/-- what a step of a shorten leaves: the route, the rest, the word -/
def svO (rt pa ma e0 q rs pr mr er W ar : Nat) (X : List (Nat × Nat)) (h h' : List mCel) (pa' ma' e' pr' mr' er' qr' : Nat) (Tr' : List (Nat × Nat)) (s' : wS) : Prop :=
  RT rt pa' ma' e' q X h' ∧ RT rs pr' mr' er' qr' Tr' h' ∧ (mCell h' W = some (wC ar s') ∧ wIn s' ∧ s'.1 ≤ 536870912) ∧ (e0 ≤ e' ∧ er ≤ er') ∧ h'.length = h.length + 2 * (e' - e0) + 2 * (er' - er) ∧
  hz h' + 256 * 2 ^ e0 + 256 * 2 ^ er = hz h + 256 * 2 ^ e' + 256 * 2 ^ er' ∧ mExt (fun a => ((a = rt ∨ a = pa ∨ a = ma) ∨ (a = rs ∨ a = pr ∨ a = mr)) ∨ a = W) h h' ∧
  ((pa' = pa ∨ 8 + h.length ≤ pa') ∧ (ma' = ma ∨ 8 + h.length ≤ ma')) ∧ ((pr' = pr ∨ 8 + h.length ≤ pr') ∧ (mr' = mr ∨ 8 + h.length ≤ mr')) ∧ (pr' ≠ pa' ∧ pr' ≠ ma' ∧ mr' ≠ pa' ∧ mr' ≠ ma')
theorem ext_old {P Q : Nat → Prop} {h h' h'' : List mCel} (a : mExt P h h') (b : mExt Q h' h'') (hp : ∀ x, x < 8 + h.length → Q x → P x) : mExt P h h'' :=
  ⟨Nat.le_trans a.1 b.1, fun x hx hn => (b.2 x (by have := a.1; omega) (fun z => hn (hp x hx z))).trans (a.2 x hx hn)⟩
theorem new_new {x x' x'' N N' : Nat} (hN : N ≤ N') (a : x' = x ∨ N ≤ x') (b : x'' = x' ∨ N' ≤ x'') : x'' = x ∨ N ≤ x'' := by rcases a with a | a <;> rcases b with b | b <;> omega
theorem sv_hz {a0 a1 a2 b0 c0 b1 c1 b2 c2 : Nat} (h1 : a1 + b0 + c0 = a0 + b1 + c1) (h2 : a2 + b1 + c1 = a1 + b2 + c2) : a2 + b0 + c0 = a0 + b2 + c2 := by omega
theorem sv_len {l0 l1 l2 e0 e1 e2 r0 r1 r2 : Nat} (h1 : l1 = l0 + 2 * (e1 - e0) + 2 * (r1 - r0)) (h2 : l2 = l1 + 2 * (e2 - e1) + 2 * (r2 - r1)) (a1 : e0 ≤ e1) (a2 : e1 ≤ e2) (b1 : r0 ≤ r1) (b2 : r1 ≤ r2) : l2 = l0 + 2 * (e2 - e0) + 2 * (r2 - r0) := by omega
theorem sv_trans {X X2 : List (Nat × Nat)} {h1 h2 : List mCel} {pa1 ma1 e1 pr1 mr1 er1 q1 pa2 ma2 e2 pr2 mr2 er2 q2 : Nat} {T1 T2 : List (Nat × Nat)} {s1 s2 : wS}
    (A : svO rt pa ma e0 q rs pr mr er W ar X h h1 pa1 ma1 e1 pr1 mr1 er1 q1 T1 s1) (B : svO rt pa1 ma1 e1 q rs pr1 mr1 er1 W ar X2 h1 h2 pa2 ma2 e2 pr2 mr2 er2 q2 T2 s2) :
    svO rt pa ma e0 q rs pr mr er W ar X2 h h2 pa2 ma2 e2 pr2 mr2 er2 q2 T2 s2 := by
  obtain ⟨a1, a2, a3, a4, a5, a6, a7, a8, a9, a10⟩ := A
  obtain ⟨b1, b2, b3, b4, b5, b6, b7, b8, b9, b10⟩ := B
  have hN : 8 + h.length ≤ 8 + h1.length := Nat.add_le_add_left a7.1 8
  refine ⟨b1, b2, b3, ⟨Nat.le_trans a4.1 b4.1, Nat.le_trans a4.2 b4.2⟩, sv_len a5 b5 a4.1 b4.1 a4.2 b4.2, sv_hz a6 b6, ext_old a7 b7 (fun x hx z => ?_), ⟨new_new hN a8.1 b8.1, new_new hN a8.2 b8.2⟩, ⟨new_new hN a9.1 b9.1, new_new hN a9.2 b9.2⟩, b10⟩
  have key : ∀ y y1, (y1 = y ∨ 8 + h.length ≤ y1) → x = y1 → x = y := fun y y1 w z => w.elim (fun w => z.trans w) (fun w => absurd (z ▸ w) (Nat.not_le.mpr hx))
  exact z.imp (fun z => z.imp (fun z => z.imp id (fun z => z.imp (key _ _ a8.1) (key _ _ a8.2))) (fun z => z.imp id (fun z => z.imp (key _ _ a9.1) (key _ _ a9.2)))) id
end
