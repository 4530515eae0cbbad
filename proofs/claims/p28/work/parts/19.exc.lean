def exL (E : Nat) : List Jvm.Cond := vx_atS RX11 (mIc E) (mEx E) ["java/lang/RuntimeException", "java/lang/Exception"]
def exB (E : Nat) : Bool := (exL E).all fun w => goodWord w || decide (w = Jvm.Cond.castable (mEx E) (mEx E)) || mDecl.any fun y => decide (w = Jvm.Cond.declares y)
theorem ex_ok0 : exB 0 = true := by decide +kernel
theorem ex_ok1 : exB 1 = true := by decide +kernel
theorem ex_ok2 : exB 2 = true := by decide +kernel
theorem ex_in {E : Nat} (hE : E < 3) : ∀ w ∈ (exL E).filter goodWord, w ∈ gF := by
  intro w hw
  have key : ∀ (a b : List Jvm.Cond), w ∈ b → w ∈ a ++ b := fun a b h => List.mem_append_right _ h
  have k2 : w ∈ (vx_atS RX11 88 "java/lang/IllegalArgumentException" ["java/lang/RuntimeException", "java/lang/Exception"]).filter goodWord ++ ((vx_atS RX11 121 "java/lang/IndexOutOfBoundsException" ["java/lang/RuntimeException", "java/lang/Exception"]).filter goodWord ++ (vx_atS RX11 99 "java/lang/IllegalStateException" ["java/lang/RuntimeException", "java/lang/Exception"]).filter goodWord) := by
    rcases (show E = 0 ∨ E = 1 ∨ E = 2 by omega) with rfl | rfl | rfl
    · exact List.mem_append_left _ hw
    · exact List.mem_append_right _ (List.mem_append_right _ hw)
    · exact List.mem_append_right _ (List.mem_append_left _ hw)
  unfold gF
  iterate 38 apply key
  exact k2
theorem ex_ot0 : ((exL 0).all vx_ot && Bundle.fit (mEx 0)) = true := by decide +kernel
theorem ex_ot1 : ((exL 1).all vx_ot && Bundle.fit (mEx 1)) = true := by decide +kernel
theorem ex_ot2 : ((exL 2).all vx_ot && Bundle.fit (mEx 2)) = true := by decide +kernel
theorem ex_words {p : Program} {l : Launch} {s : State} {m : MethodId} {args : Array Value} {meth : Method} {c : Code} {M : mM} {κ ρ : Nat → Nat} {D : va_G} {ro : Nat → Nat × (Nat → Int32)} {A : Nat → Prop} (C : mCtx p l s m args meth c M κ ρ D ro A) {E k : Nat} (hE : E < 3) (hg : goodWord (Jvm.Cond.classLink RX11 k (mEx E)) = true) :
    (∀ w ∈ exL E, w.before args s = true) ∧ (∀ w ∈ Jvm.Cond.classLink RX11 k (mEx E) :: Jvm.Cond.initialized (mEx E) :: exL E, vx_ot w = true) ∧ Bundle.fit (mEx E) = true := by
  have h1 : exB E = true := by
    rcases (show E = 0 ∨ E = 1 ∨ E = 2 by omega) with rfl | rfl | rfl
    · exact ex_ok0
    · exact ex_ok1
    · exact ex_ok2
  have h2 : ((exL E).all vx_ot && Bundle.fit (mEx E)) = true := by
    rcases (show E = 0 ∨ E = 1 ∨ E = 2 by omega) with rfl | rfl | rfl
    · exact ex_ot0
    · exact ex_ot1
    · exact ex_ot2
  simp only [Bool.and_eq_true] at h2
  have hX := C.2.2.2.2.2.1.2.2.2.2.2.2.1
  refine ⟨fun w hw => ?_, fun w hw => ?_, h2.2⟩
  · have h3 := List.all_eq_true.mp h1 w hw
    simp only [Bool.or_eq_true, decide_eq_true_eq] at h3
    rcases h3 with (h3 | rfl) | h3
    · exact C.2.2.1 w (ex_in hE w (List.mem_filter.mpr ⟨hw, h3⟩))
    · exact va_Nw.use rfl (hX.1 E hE)
    · obtain ⟨y, hy, h4⟩ := List.any_eq_true.mp h3
      rw [of_decide_eq_true h4]
      exact va_Nw.use rfl (hX.2 y hy)
  · rcases List.mem_cons.mp hw with rfl | hw
    · unfold vx_ot; rw [hg]; simp
    · rcases List.mem_cons.mp hw with rfl | hw
      · rfl
      · exact List.all_eq_true.mp h2.1 w hw
