section STA
variable {ρ : Nat → Nat} {ro : Nat → Nat × (Nat → Int32)} {A B : Nat → Prop} {u U : State} {H H1 : Heap}
theorem mSta.kept (h : mSta ρ ro A U H) (hs : H.size ≤ H1.size) (hq : ∀ a : Nat, a < H.size → ¬ A a → H1[a]? = H[a]?) : mSta ρ ro A U H1 :=
  ⟨⟨⟨h.1.1.1.kept (hq _ h.1.1.2.1 h.1.1.2.2), Nat.lt_of_lt_of_le h.1.1.2.1 hs, h.1.1.2.2⟩, fun k h1 h2 => va_T.kept (h.1.2 k h1 h2) hq⟩, fun k h1 h2 => va_Z.kept (h.2.1 k h1 h2) hq, vx_Zq.kept h.2.2.1 hq, vx_Zq.kept h.2.2.2.1 hq, h.2.2.2.2⟩
theorem mSta.narrow (h : mSta ρ ro A U H) (hAB : ∀ q, B q → A q) : mSta ρ ro B U H :=
  ⟨⟨⟨h.1.1.1, h.1.1.2.1, fun z => h.1.1.2.2 (hAB _ z)⟩, fun k h1 h2 => va_T.narrow (h.1.2 k h1 h2) hAB⟩, fun k h1 h2 => va_Z.narrow (h.2.1 k h1 h2) hAB, vx_Zq.narrow h.2.2.1 hAB, vx_Zq.narrow h.2.2.2.1 hAB, h.2.2.2.2⟩
theorem mNest_m {w : Jvm.Cond} (h : w ∈ mNest) : ∃ a i x o, w = .methodLinkNest a i x o := by
  simp only [mNest, List.mem_cons, List.not_mem_nil, or_false] at h
  rcases h with rfl | rfl | rfl | rfl | rfl | rfl <;> exact ⟨_, _, _, _, rfl⟩
theorem mSta.warm {s : State} (hW : s.WarmedH U.vm) (h : mSta ρ ro A s H) : mSta ρ ro A U H := by
  refine ⟨⟨⟨h.1.1.1.moved hW.alike, h.1.1.2.1, h.1.1.2.2⟩, fun k h1 h2 => va_T.moved hW.alike (h.1.2 k h1 h2)⟩, fun k h1 h2 => va_Z.moved hW.alike (h.2.1 k h1 h2), vx_Zq.moved hW.alike h.2.2.1, vx_Zq.moved hW.alike h.2.2.2.1, fun w hw => ?_, fun q hq => ?_, ⟨fun E hE => va_Nw.warmC hW (h.2.2.2.2.2.2.1.1 E hE), fun y hy => va_Nw.warmD hW (h.2.2.2.2.2.2.1.2 y hy)⟩, fun E E' h1 h2 h3 => va_Nc.moved hW.alike (h.2.2.2.2.2.2.2.1 E E' h1 h2 h3), va_AO.moved hW.alike h.2.2.2.2.2.2.2.2.1, va_AO.moved hW.alike h.2.2.2.2.2.2.2.2.2⟩
  · obtain ⟨a, i, x, o, rfl⟩ := mNest_m hw
    exact va_Nw.warmM hW (h.2.2.2.2.1 _ hw)
  · obtain ⟨a, ha⟩ := h.2.2.2.2.2.1 q hq
    exact ⟨a, vk_R.warm hW ha⟩
theorem mSta.same (hv : u.vm = U.vm) (h : mSta ρ ro A u H) : mSta ρ ro A U H := by
  have hA : u.vm.Alike U.vm := by rw [hv]; exact Vm.Alike.refl _
  refine ⟨⟨⟨h.1.1.1.moved hA, h.1.1.2.1, h.1.1.2.2⟩, fun k h1 h2 => va_T.moved hA (h.1.2 k h1 h2)⟩, fun k h1 h2 => va_Z.moved hA (h.2.1 k h1 h2), vx_Zq.moved hA h.2.2.1, vx_Zq.moved hA h.2.2.2.1, fun w hw => ?_, fun q hq => ?_, ⟨fun E hE => va_Nw.same rfl hv (h.2.2.2.2.2.2.1.1 E hE), fun y hy => va_Nw.same rfl hv (h.2.2.2.2.2.2.1.2 y hy)⟩, fun E E' h1 h2 h3 => va_Nc.moved hA (h.2.2.2.2.2.2.2.1 E E' h1 h2 h3), va_AO.moved hA h.2.2.2.2.2.2.2.2.1, va_AO.moved hA h.2.2.2.2.2.2.2.2.2⟩
  · obtain ⟨a, i, x, o, rfl⟩ := mNest_m hw
    exact va_Nw.same rfl hv (h.2.2.2.2.1 _ hw)
  · obtain ⟨a, ha⟩ := h.2.2.2.2.2.1 q hq
    exact ⟨a, vk_R.same hv.symm ha⟩
end STA
def mPc (κ ρ : Nat → Nat) (D : va_G) (ro : Nat → Nat × (Nat → Int32)) (as : List Value) (h : List mCel) (sz : Nat) : Array Value → State → Prop :=
  va_Pc (as.map (rv ρ)) (fun U => U.heap.size = sz ∧ va_P D vwCl (xW κ ρ h) U.heap ∧ va_K D vwCl (tyl κ) U ∧ va_D (fun _ => True) (xW κ ρ h) ∧ mSta ρ ro (va_A (xW κ ρ h) sz) U U.heap)
theorem mPc_blind {κ ρ : Nat → Nat} {D : va_G} {ro : Nat → Nat × (Nat → Int32)} {as : List Value} {h : List mCel} {sz : Nat} : FrameBlind (mPc κ ρ D ro as h sz) := fun a U g mk q =>
  ⟨q.1, q.2.1, q.2.2.1, va_K.moved (u := U) (U := U.calling g mk a) (Vm.Alike.refl U.vm) q.2.2.2.1, q.2.2.2.2.1, mSta.same (u := U) (U := U.calling g mk a) rfl q.2.2.2.2.2⟩
def mBx (κ ρ : Nat → Nat) (D : va_G) (A : Nat → Prop) (h1 : List mCel) (t : State) : Prop :=
  va_P D vwCl (xW κ ρ h1) t.heap ∧ va_D A (xW κ ρ h1) ∧ ∀ j, 8 + h1.length ≤ j → ρ j = t.heap.size + (j - (8 + h1.length))
def mBt (κ ρ0 : Nat → Nat) (n0 : Nat) (D : va_G) (A : Nat → Prop) (h1 : List mCel) (t : State) : Prop := ∃ ρ : Nat → Nat, mAg n0 ρ0 ρ ∧ mBx κ ρ D A h1 t
def mQc (κ ρ0 : Nat → Nat) (n0 : Nat) (D : va_G) (A : Nat → Prop) (h1 : List mCel) : Option Value → Array Value → State → Outcome → State → Prop
  | none => va_Qv (S := Unit) (fun _ => True) (fun _ t => mBt κ ρ0 n0 D A h1 t) A
  | some (.int r) => va_Qi (S := Unit) (fun r' _ => r' = r) (fun _ t => mBt κ ρ0 n0 D A h1 t) A
  | some (.float r) => va_Qf (S := Unit) (fun r' _ => r' = r) (fun _ t => mBt κ ρ0 n0 D A h1 t) A
  | some (.ref a) => va_Qr (S := Unit) (fun _ => True) (fun _ ra t => ∃ ρ : Nat → Nat, (mAg n0 ρ0 ρ ∧ mBx κ ρ D A h1 t) ∧ ra = ρ a) A
  | _ => fun _ _ _ _ => False
