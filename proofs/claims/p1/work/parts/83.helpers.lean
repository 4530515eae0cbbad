section
variable {xs : Nat → Int32} {h h1 : List mCel} {x1 : Nat}
theorem kLS_out {fl : Nat → Int64} {q : Nat → (Nat → Int64) → Option mOut} (hc : mCell h 62 = some (.inl (3, 1, .inr (.inl fl)))) : kLS h 62 0 q = q 1 fl := by
  unfold kLS; rw [hc]; rfl
theorem hx_234_0 {a1 a2 : Int32} (X8 : kR (mCell h 8) 10 = true) (E : mW (mRo 8 xs) mTab 42 0 [some (.ref 8), some (.int a1), some (.int a2)] [] h 0 = some (.inr 0, h1, x1)) : mW (mRo 8 xs) mTab 234 0 [some (.ref 8), some (.int a1), some (.int a2), some (.ref 62), none] [] h 0 = some (.inl (some (.int 1)), h1, x1) := by
  rw [e234_0, e234_1, e234_2, e234_3, e234_4, e234_5 X8 (by simp [Value.category]), E]
  show mW (mRo 8 xs) mTab 234 15 [some (.ref 8), some (.int a1), some (.int a2), some (.ref 62), none] [] h1 x1 = _
  rw [e234_15, e234_16]
theorem hx_234_1 {a1 a2 : Int32} (X8 : kR (mCell h 8) 10 = true) (E : mW (mRo 8 xs) mTab 42 0 [some (.ref 8), some (.int a1), some (.int a2)] [] h 0 = some (.inr 1, h1, x1)) : mW (mRo 8 xs) mTab 234 0 [some (.ref 8), some (.int a1), some (.int a2), some (.ref 62), none] [] h 0 = some (.inl (some (.int 2)), h1, x1) := by
  rw [e234_0, e234_1, e234_2, e234_3, e234_4, e234_5 X8 (by simp [Value.category]), E]
  show mW (mRo 8 xs) mTab 234 19 [some (.ref 8), some (.int a1), some (.int a2), some (.ref 62), none] [] h1 x1 = _
  rw [e234_19, e234_20]
theorem hn_234 {a1 a2 : Int32} {v : Int32} {fl : Nat → Int64} (X8 : kR (mCell h 8) 10 = true) (E : mW (mRo 8 xs) mTab 42 0 [some (.ref 8), some (.int a1), some (.int a2)] [] h 0 = some (.inl (some (.int v)), h1, x1)) (O : mCell h1 62 = some (.inl (3, 1, .inr (.inl fl)))) : mW (mRo 8 xs) mTab 234 0 [some (.ref 8), some (.int a1), some (.int a2), some (.ref 62), none] [] h 0 = some (.inl (some (.int 0)), h1.set (62 - 8) (.inl (3, 1, .inr (.inl (vp_updL fl 0 v.toInt64)))), x1) := by
  rw [e234_0, e234_1, e234_2, e234_3, e234_4, e234_5 X8 (by simp [Value.category]), E]
  simp only [mAft, Option.toList_some, List.cons_append, List.nil_append]
  rw [e234_8, e234_9, kLS_out O, e234_10, e234_21, e234_22]
  rfl
theorem hx_246_1 (X8 : kR (mCell h 8) 10 = true) (E : mW (mRo 8 xs) mTab 56 0 [some (.ref 8), none] [] h 0 = some (.inr 1, h1, x1)) : mW (mRo 8 xs) mTab 246 0 [some (.ref 8), some (.ref 62), none] [] h 0 = some (.inl (some (.int 1)), h1, x1) := by
  rw [e246_0, e246_1, e246_2, e246_3 X8 (by simp [Value.category]), E]
  show mW (mRo 8 xs) mTab 246 12 [some (.ref 8), some (.ref 62), none] [] h1 x1 = _
  rw [e246_12, e246_13]
theorem hn_246 {v : Int32} {fl : Nat → Int64} (X8 : kR (mCell h 8) 10 = true) (E : mW (mRo 8 xs) mTab 56 0 [some (.ref 8), none] [] h 0 = some (.inl (some (.int v)), h1, x1)) (O : mCell h1 62 = some (.inl (3, 1, .inr (.inl fl)))) : mW (mRo 8 xs) mTab 246 0 [some (.ref 8), some (.ref 62), none] [] h 0 = some (.inl (some (.int 0)), h1.set (62 - 8) (.inl (3, 1, .inr (.inl (vp_updL fl 0 v.toInt64)))), x1) := by
  rw [e246_0, e246_1, e246_2, e246_3 X8 (by simp [Value.category]), E]
  simp only [mAft, Option.toList_some, List.cons_append, List.nil_append]
  rw [e246_6, e246_7, kLS_out O, e246_8, e246_14, e246_15]
  rfl
theorem hx_252_2 {a1 : Int32} (X8 : kR (mCell h 8) 10 = true) (E : mW (mRo 8 xs) mTab 67 0 [some (.ref 8), some (.int a1)] [] h 0 = some (.inr 2, h1, x1)) : mW (mRo 8 xs) mTab 252 0 [some (.ref 8), some (.int a1), some (.ref 62), none] [] h 0 = some (.inl (some (.int 1)), h1, x1) := by
  rw [e252_0, e252_1, e252_2, e252_3, e252_4 X8 (by simp [Value.category]), E]
  show mW (mRo 8 xs) mTab 252 13 [some (.ref 8), some (.int a1), some (.ref 62), none] [] h1 x1 = _
  rw [e252_13, e252_14]
theorem hx_252_1 {a1 : Int32} (X8 : kR (mCell h 8) 10 = true) (E : mW (mRo 8 xs) mTab 67 0 [some (.ref 8), some (.int a1)] [] h 0 = some (.inr 1, h1, x1)) : mW (mRo 8 xs) mTab 252 0 [some (.ref 8), some (.int a1), some (.ref 62), none] [] h 0 = some (.inl (some (.int 2)), h1, x1) := by
  rw [e252_0, e252_1, e252_2, e252_3, e252_4 X8 (by simp [Value.category]), E]
  show mW (mRo 8 xs) mTab 252 16 [some (.ref 8), some (.int a1), some (.ref 62), none] [] h1 x1 = _
  rw [e252_16, e252_17]
theorem hn_252 {a1 : Int32} {v : Int32} {fl : Nat → Int64} (X8 : kR (mCell h 8) 10 = true) (E : mW (mRo 8 xs) mTab 67 0 [some (.ref 8), some (.int a1)] [] h 0 = some (.inl (some (.int v)), h1, x1)) (O : mCell h1 62 = some (.inl (3, 1, .inr (.inl fl)))) : mW (mRo 8 xs) mTab 252 0 [some (.ref 8), some (.int a1), some (.ref 62), none] [] h 0 = some (.inl (some (.int 0)), h1.set (62 - 8) (.inl (3, 1, .inr (.inl (vp_updL fl 0 v.toInt64)))), x1) := by
  rw [e252_0, e252_1, e252_2, e252_3, e252_4 X8 (by simp [Value.category]), E]
  simp only [mAft, Option.toList_some, List.cons_append, List.nil_append]
  rw [e252_7, e252_8, kLS_out O, e252_9, e252_18, e252_19]
  rfl
theorem hx_253_0 {a1 a2 : Int32} (X8 : kR (mCell h 8) 10 = true) (E : mW (mRo 8 xs) mTab 68 0 [some (.ref 8), some (.int a1), some (.int a2)] [] h 0 = some (.inr 0, h1, x1)) : mW (mRo 8 xs) mTab 253 0 [some (.ref 8), some (.int a1), some (.int a2), none] [] h 0 = some (.inl (some (.int 1)), h1, x1) := by
  rw [e253_0, e253_1, e253_2, e253_3 X8 (by simp [Value.category]), E]
  show mW (mRo 8 xs) mTab 253 10 [some (.ref 8), some (.int a1), some (.int a2), none] [] h1 x1 = _
  rw [e253_10, e253_11]
theorem hn_253 {a1 a2 : Int32} (X8 : kR (mCell h 8) 10 = true) (E : mW (mRo 8 xs) mTab 68 0 [some (.ref 8), some (.int a1), some (.int a2)] [] h 0 = some (.inl none, h1, x1)) : mW (mRo 8 xs) mTab 253 0 [some (.ref 8), some (.int a1), some (.int a2), none] [] h 0 = some (.inl (some (.int 0)), h1, x1) := by
  rw [e253_0, e253_1, e253_2, e253_3 X8 (by simp [Value.category]), E]
  simp only [mAft, Option.toList_none, List.nil_append]
  rw [e253_6, e253_12, e253_13]
theorem hx_235_0 {a1 : Int32} (X8 : kR (mCell h 8) 10 = true) (E : mW (mRo 8 xs) mTab 43 0 [some (.ref 8), some (.int a1)] [] h 0 = some (.inr 0, h1, x1)) : mW (mRo 8 xs) mTab 235 0 [some (.ref 8), some (.int a1), some (.ref 62), none] [] h 0 = some (.inl (some (.int 1)), h1, x1) := by
  rw [e235_0, e235_1, e235_2, e235_3, e235_4 X8 (by simp [Value.category]), E]
  show mW (mRo 8 xs) mTab 235 13 [some (.ref 8), some (.int a1), some (.ref 62), none] [] h1 x1 = _
  rw [e235_13, e235_14]
theorem hn_235 {a1 : Int32} {v : Int32} {fl : Nat → Int64} (X8 : kR (mCell h 8) 10 = true) (E : mW (mRo 8 xs) mTab 43 0 [some (.ref 8), some (.int a1)] [] h 0 = some (.inl (some (.int v)), h1, x1)) (O : mCell h1 62 = some (.inl (3, 1, .inr (.inl fl)))) : mW (mRo 8 xs) mTab 235 0 [some (.ref 8), some (.int a1), some (.ref 62), none] [] h 0 = some (.inl (some (.int 0)), h1.set (62 - 8) (.inl (3, 1, .inr (.inl (vp_updL fl 0 v.toInt64)))), x1) := by
  rw [e235_0, e235_1, e235_2, e235_3, e235_4 X8 (by simp [Value.category]), E]
  simp only [mAft, Option.toList_some, List.cons_append, List.nil_append]
  rw [e235_7, e235_8, kLS_out O, e235_9, e235_15, e235_16]
  rfl
theorem hx_241_0 {a1 : Int32} (X8 : kR (mCell h 8) 10 = true) (E : mW (mRo 8 xs) mTab 51 0 [some (.ref 8), some (.int a1)] [] h 0 = some (.inr 0, h1, x1)) : mW (mRo 8 xs) mTab 241 0 [some (.ref 8), some (.int a1), some (.ref 62), none] [] h 0 = some (.inl (some (.int 1)), h1, x1) := by
  rw [e241_0, e241_1, e241_2, e241_3, e241_4 X8 (by simp [Value.category]), E]
  show mW (mRo 8 xs) mTab 241 13 [some (.ref 8), some (.int a1), some (.ref 62), none] [] h1 x1 = _
  rw [e241_13, e241_14]
theorem hn_241 {a1 : Int32} {v : Int32} {fl : Nat → Int64} (X8 : kR (mCell h 8) 10 = true) (E : mW (mRo 8 xs) mTab 51 0 [some (.ref 8), some (.int a1)] [] h 0 = some (.inl (some (.int v)), h1, x1)) (O : mCell h1 62 = some (.inl (3, 1, .inr (.inl fl)))) : mW (mRo 8 xs) mTab 241 0 [some (.ref 8), some (.int a1), some (.ref 62), none] [] h 0 = some (.inl (some (.int 0)), h1.set (62 - 8) (.inl (3, 1, .inr (.inl (vp_updL fl 0 v.toInt64)))), x1) := by
  rw [e241_0, e241_1, e241_2, e241_3, e241_4 X8 (by simp [Value.category]), E]
  simp only [mAft, Option.toList_some, List.cons_append, List.nil_append]
  rw [e241_7, e241_8, kLS_out O, e241_9, e241_15, e241_16]
  rfl
theorem hx_233_2 {a1 a2 : Int32} (X8 : kR (mCell h 8) 10 = true) (E : mW (mRo 8 xs) mTab 41 0 [some (.ref 8), some (.int a1), some (.int a2)] [] h 0 = some (.inr 2, h1, x1)) : mW (mRo 8 xs) mTab 233 0 [some (.ref 8), some (.int a1), some (.int a2), some (.ref 62), none] [] h 0 = some (.inl (some (.int 1)), h1, x1) := by
  rw [e233_0, e233_1, e233_2, e233_3, e233_4, e233_5 X8 (by simp [Value.category]), E]
  show mW (mRo 8 xs) mTab 233 15 [some (.ref 8), some (.int a1), some (.int a2), some (.ref 62), none] [] h1 x1 = _
  rw [e233_15, e233_16]
theorem hn_233 {a1 a2 : Int32} {v : Int32} {fl : Nat → Int64} (X8 : kR (mCell h 8) 10 = true) (E : mW (mRo 8 xs) mTab 41 0 [some (.ref 8), some (.int a1), some (.int a2)] [] h 0 = some (.inl (some (.int v)), h1, x1)) (O : mCell h1 62 = some (.inl (3, 1, .inr (.inl fl)))) : mW (mRo 8 xs) mTab 233 0 [some (.ref 8), some (.int a1), some (.int a2), some (.ref 62), none] [] h 0 = some (.inl (some (.int 0)), h1.set (62 - 8) (.inl (3, 1, .inr (.inl (vp_updL fl 0 v.toInt64)))), x1) := by
  rw [e233_0, e233_1, e233_2, e233_3, e233_4, e233_5 X8 (by simp [Value.category]), E]
  simp only [mAft, Option.toList_some, List.cons_append, List.nil_append]
  rw [e233_8, e233_9, kLS_out O, e233_10, e233_17, e233_18]
  rfl
theorem hx_238_2 {a1 a2 a3 : Int32} (X8 : kR (mCell h 8) 10 = true) (E : mW (mRo 8 xs) mTab 48 0 [some (.ref 8), some (.int a1), some (.int a2), some (.int a3)] [] h 0 = some (.inr 2, h1, x1)) : mW (mRo 8 xs) mTab 238 0 [some (.ref 8), some (.int a1), some (.int a2), some (.int a3), some (.ref 62), none] [] h 0 = some (.inl (some (.int 1)), h1, x1) := by
  rw [e238_0, e238_2, e238_3, e238_4, e238_5, e238_6, e238_7 X8 (by simp [Value.category]), E]
  show mW (mRo 8 xs) mTab 238 24 [some (.ref 8), some (.int a1), some (.int a2), some (.int a3), some (.ref 62), none] [] h1 x1 = _
  rw [e238_24, e238_25]
theorem hx_254_2 {a1 a2 a3 a4 a5 a6 : Int32} (X8 : kR (mCell h 8) 10 = true) (E : mW (mRo 8 xs) mTab 69 0 [some (.ref 8), some (.int a1), some (.int a2), some (.int a3), some (.int a4), some (.int a5), some (.int a6), none, none] [] h 0 = some (.inr 2, h1, x1)) : mW (mRo 8 xs) mTab 254 0 [some (.ref 8), some (.int a1), some (.int a2), some (.int a3), some (.int a4), some (.int a5), some (.int a6), some (.ref 62), none] [] h 0 = some (.inl (some (.int 1)), h1, x1) := by
  rw [e254_0, e254_2, e254_3, e254_4, e254_5, e254_6, e254_7, e254_9, e254_11, e254_13 X8 (by simp [Value.category]), E]
  show mW (mRo 8 xs) mTab 254 23 [some (.ref 8), some (.int a1), some (.int a2), some (.int a3), some (.int a4), some (.int a5), some (.int a6), some (.ref 62), none] [] h1 x1 = _
  rw [e254_23, e254_24]
theorem hn_254 {a1 a2 a3 a4 a5 a6 : Int32} {v : Int32} {fl : Nat → Int64} (X8 : kR (mCell h 8) 10 = true) (E : mW (mRo 8 xs) mTab 69 0 [some (.ref 8), some (.int a1), some (.int a2), some (.int a3), some (.int a4), some (.int a5), some (.int a6), none, none] [] h 0 = some (.inl (some (.int v)), h1, x1)) (O : mCell h1 62 = some (.inl (3, 1, .inr (.inl fl)))) : mW (mRo 8 xs) mTab 254 0 [some (.ref 8), some (.int a1), some (.int a2), some (.int a3), some (.int a4), some (.int a5), some (.int a6), some (.ref 62), none] [] h 0 = some (.inl (some (.int 0)), h1.set (62 - 8) (.inl (3, 1, .inr (.inl (vp_updL fl 0 v.toInt64)))), x1) := by
  rw [e254_0, e254_2, e254_3, e254_4, e254_5, e254_6, e254_7, e254_9, e254_11, e254_13 X8 (by simp [Value.category]), E]
  simp only [mAft, Option.toList_some, List.cons_append, List.nil_append]
  rw [e254_16, e254_17, kLS_out O, e254_18, e254_25, e254_26]
  rfl
theorem hx_237_0 {a1 : Int32} (X8 : kR (mCell h 8) 10 = true) (E : mW (mRo 8 xs) mTab 46 0 [some (.ref 8), some (.int a1)] [] h 0 = some (.inr 0, h1, x1)) : mW (mRo 8 xs) mTab 237 0 [some (.ref 8), some (.int a1), some (.ref 62), none] [] h 0 = some (.inl (some (.int 1)), h1, x1) := by
  rw [e237_0, e237_1, e237_2, e237_3, e237_4 X8 (by simp [Value.category]), E]
  show mW (mRo 8 xs) mTab 237 13 [some (.ref 8), some (.int a1), some (.ref 62), none] [] h1 x1 = _
  rw [e237_13, e237_14]
theorem hn_237 {a1 : Int32} {v : Int32} {fl : Nat → Int64} (X8 : kR (mCell h 8) 10 = true) (E : mW (mRo 8 xs) mTab 46 0 [some (.ref 8), some (.int a1)] [] h 0 = some (.inl (some (.int v)), h1, x1)) (O : mCell h1 62 = some (.inl (3, 1, .inr (.inl fl)))) : mW (mRo 8 xs) mTab 237 0 [some (.ref 8), some (.int a1), some (.ref 62), none] [] h 0 = some (.inl (some (.int 0)), h1.set (62 - 8) (.inl (3, 1, .inr (.inl (vp_updL fl 0 v.toInt64)))), x1) := by
  rw [e237_0, e237_1, e237_2, e237_3, e237_4 X8 (by simp [Value.category]), E]
  simp only [mAft, Option.toList_some, List.cons_append, List.nil_append]
  rw [e237_7, e237_8, kLS_out O, e237_9, e237_15, e237_16]
  rfl
theorem hx_231_2 {a1 a2 a3 a4 a5 a6 a7 : Int32} (X8 : kR (mCell h 8) 10 = true) (E : mW (mRo 8 xs) mTab 39 0 [some (.ref 8), some (.int a1), some (.int a2), some (.int a3), some (.int a4), some (.int a5), some (.int a6), some (.int a7), none, none] [] h 0 = some (.inr 2, h1, x1)) : mW (mRo 8 xs) mTab 231 0 [some (.ref 8), some (.int a1), some (.int a2), some (.int a3), some (.int a4), some (.int a5), some (.int a6), some (.int a7), some (.ref 62), none] [] h 0 = some (.inl (some (.int 1)), h1, x1) := by
  rw [e231_0, e231_2, e231_3, e231_4, e231_5, e231_6, e231_7, e231_9, e231_11, e231_13, e231_15 X8 (by simp [Value.category]), E]
  show mW (mRo 8 xs) mTab 231 25 [some (.ref 8), some (.int a1), some (.int a2), some (.int a3), some (.int a4), some (.int a5), some (.int a6), some (.int a7), some (.ref 62), none] [] h1 x1 = _
  rw [e231_25, e231_26]
theorem hn_231 {a1 a2 a3 a4 a5 a6 a7 : Int32} {v : Int32} {fl : Nat → Int64} (X8 : kR (mCell h 8) 10 = true) (E : mW (mRo 8 xs) mTab 39 0 [some (.ref 8), some (.int a1), some (.int a2), some (.int a3), some (.int a4), some (.int a5), some (.int a6), some (.int a7), none, none] [] h 0 = some (.inl (some (.int v)), h1, x1)) (O : mCell h1 62 = some (.inl (3, 1, .inr (.inl fl)))) : mW (mRo 8 xs) mTab 231 0 [some (.ref 8), some (.int a1), some (.int a2), some (.int a3), some (.int a4), some (.int a5), some (.int a6), some (.int a7), some (.ref 62), none] [] h 0 = some (.inl (some (.int 0)), h1.set (62 - 8) (.inl (3, 1, .inr (.inl (vp_updL fl 0 v.toInt64)))), x1) := by
  rw [e231_0, e231_2, e231_3, e231_4, e231_5, e231_6, e231_7, e231_9, e231_11, e231_13, e231_15 X8 (by simp [Value.category]), E]
  simp only [mAft, Option.toList_some, List.cons_append, List.nil_append]
  rw [e231_18, e231_19, kLS_out O, e231_20, e231_27, e231_28]
  rfl
theorem hx_232_2 {a1 a2 a3 a4 a5 a6 a7 : Int32} (X8 : kR (mCell h 8) 10 = true) (E : mW (mRo 8 xs) mTab 40 0 [some (.ref 8), some (.int a1), some (.int a2), some (.int a3), some (.int a4), some (.int a5), some (.int a6), some (.int a7), none, none] [] h 0 = some (.inr 2, h1, x1)) : mW (mRo 8 xs) mTab 232 0 [some (.ref 8), some (.int a1), some (.int a2), some (.int a3), some (.int a4), some (.int a5), some (.int a6), some (.int a7), some (.ref 62), none] [] h 0 = some (.inl (some (.int 1)), h1, x1) := by
  rw [e232_0, e232_2, e232_3, e232_4, e232_5, e232_6, e232_7, e232_9, e232_11, e232_13, e232_15 X8 (by simp [Value.category]), E]
  show mW (mRo 8 xs) mTab 232 25 [some (.ref 8), some (.int a1), some (.int a2), some (.int a3), some (.int a4), some (.int a5), some (.int a6), some (.int a7), some (.ref 62), none] [] h1 x1 = _
  rw [e232_25, e232_26]
theorem hn_232 {a1 a2 a3 a4 a5 a6 a7 : Int32} {v : Int32} {fl : Nat → Int64} (X8 : kR (mCell h 8) 10 = true) (E : mW (mRo 8 xs) mTab 40 0 [some (.ref 8), some (.int a1), some (.int a2), some (.int a3), some (.int a4), some (.int a5), some (.int a6), some (.int a7), none, none] [] h 0 = some (.inl (some (.int v)), h1, x1)) (O : mCell h1 62 = some (.inl (3, 1, .inr (.inl fl)))) : mW (mRo 8 xs) mTab 232 0 [some (.ref 8), some (.int a1), some (.int a2), some (.int a3), some (.int a4), some (.int a5), some (.int a6), some (.int a7), some (.ref 62), none] [] h 0 = some (.inl (some (.int 0)), h1.set (62 - 8) (.inl (3, 1, .inr (.inl (vp_updL fl 0 v.toInt64)))), x1) := by
  rw [e232_0, e232_2, e232_3, e232_4, e232_5, e232_6, e232_7, e232_9, e232_11, e232_13, e232_15 X8 (by simp [Value.category]), E]
  simp only [mAft, Option.toList_some, List.cons_append, List.nil_append]
  rw [e232_18, e232_19, kLS_out O, e232_20, e232_27, e232_28]
  rfl
theorem hx_244_2 {a1 a2 a3 a4 a5 a6 a7 : Int32} (X8 : kR (mCell h 8) 10 = true) (E : mW (mRo 8 xs) mTab 54 0 [some (.ref 8), some (.int a1), some (.int a2), some (.int a3), some (.int a4), some (.int a5), some (.int a6), some (.int a7), none, none] [] h 0 = some (.inr 2, h1, x1)) : mW (mRo 8 xs) mTab 244 0 [some (.ref 8), some (.int a1), some (.int a2), some (.int a3), some (.int a4), some (.int a5), some (.int a6), some (.int a7), some (.ref 62), none] [] h 0 = some (.inl (some (.int 1)), h1, x1) := by
  rw [e244_0, e244_2, e244_3, e244_4, e244_5, e244_6, e244_7, e244_9, e244_11, e244_13, e244_15 X8 (by simp [Value.category]), E]
  show mW (mRo 8 xs) mTab 244 25 [some (.ref 8), some (.int a1), some (.int a2), some (.int a3), some (.int a4), some (.int a5), some (.int a6), some (.int a7), some (.ref 62), none] [] h1 x1 = _
  rw [e244_25, e244_26]
theorem hx_244_1 {a1 a2 a3 a4 a5 a6 a7 : Int32} (X8 : kR (mCell h 8) 10 = true) (E : mW (mRo 8 xs) mTab 54 0 [some (.ref 8), some (.int a1), some (.int a2), some (.int a3), some (.int a4), some (.int a5), some (.int a6), some (.int a7), none, none] [] h 0 = some (.inr 1, h1, x1)) : mW (mRo 8 xs) mTab 244 0 [some (.ref 8), some (.int a1), some (.int a2), some (.int a3), some (.int a4), some (.int a5), some (.int a6), some (.int a7), some (.ref 62), none] [] h 0 = some (.inl (some (.int 2)), h1, x1) := by
  rw [e244_0, e244_2, e244_3, e244_4, e244_5, e244_6, e244_7, e244_9, e244_11, e244_13, e244_15 X8 (by simp [Value.category]), E]
  show mW (mRo 8 xs) mTab 244 29 [some (.ref 8), some (.int a1), some (.int a2), some (.int a3), some (.int a4), some (.int a5), some (.int a6), some (.int a7), some (.ref 62), none] [] h1 x1 = _
  rw [e244_29, e244_30]
theorem hn_244 {a1 a2 a3 a4 a5 a6 a7 : Int32} {v : Int32} {fl : Nat → Int64} (X8 : kR (mCell h 8) 10 = true) (E : mW (mRo 8 xs) mTab 54 0 [some (.ref 8), some (.int a1), some (.int a2), some (.int a3), some (.int a4), some (.int a5), some (.int a6), some (.int a7), none, none] [] h 0 = some (.inl (some (.int v)), h1, x1)) (O : mCell h1 62 = some (.inl (3, 1, .inr (.inl fl)))) : mW (mRo 8 xs) mTab 244 0 [some (.ref 8), some (.int a1), some (.int a2), some (.int a3), some (.int a4), some (.int a5), some (.int a6), some (.int a7), some (.ref 62), none] [] h 0 = some (.inl (some (.int 0)), h1.set (62 - 8) (.inl (3, 1, .inr (.inl (vp_updL fl 0 v.toInt64)))), x1) := by
  rw [e244_0, e244_2, e244_3, e244_4, e244_5, e244_6, e244_7, e244_9, e244_11, e244_13, e244_15 X8 (by simp [Value.category]), E]
  simp only [mAft, Option.toList_some, List.cons_append, List.nil_append]
  rw [e244_18, e244_19, kLS_out O, e244_20, e244_31, e244_32]
  rfl
theorem hx_230_2 {a1 a2 a3 : Int32} (X8 : kR (mCell h 8) 10 = true) (E : mW (mRo 8 xs) mTab 38 0 [some (.ref 8), some (.int a1), some (.int a2), some (.int a3), none] [] h 0 = some (.inr 2, h1, x1)) : mW (mRo 8 xs) mTab 230 0 [some (.ref 8), some (.int a1), some (.int a2), some (.int a3), none] [] h 0 = some (.inl (some (.int 1)), h1, x1) := by
  rw [e230_0, e230_1, e230_2, e230_3, e230_4 X8 (by simp [Value.category]), E]
  show mW (mRo 8 xs) mTab 230 12 [some (.ref 8), some (.int a1), some (.int a2), some (.int a3), none] [] h1 x1 = _
  rw [e230_12, e230_13]
theorem hx_230_1 {a1 a2 a3 : Int32} (X8 : kR (mCell h 8) 10 = true) (E : mW (mRo 8 xs) mTab 38 0 [some (.ref 8), some (.int a1), some (.int a2), some (.int a3), none] [] h 0 = some (.inr 1, h1, x1)) : mW (mRo 8 xs) mTab 230 0 [some (.ref 8), some (.int a1), some (.int a2), some (.int a3), none] [] h 0 = some (.inl (some (.int 2)), h1, x1) := by
  rw [e230_0, e230_1, e230_2, e230_3, e230_4 X8 (by simp [Value.category]), E]
  show mW (mRo 8 xs) mTab 230 16 [some (.ref 8), some (.int a1), some (.int a2), some (.int a3), none] [] h1 x1 = _
  rw [e230_16, e230_17]
theorem hn_230 {a1 a2 a3 : Int32} (X8 : kR (mCell h 8) 10 = true) (E : mW (mRo 8 xs) mTab 38 0 [some (.ref 8), some (.int a1), some (.int a2), some (.int a3), none] [] h 0 = some (.inl none, h1, x1)) : mW (mRo 8 xs) mTab 230 0 [some (.ref 8), some (.int a1), some (.int a2), some (.int a3), none] [] h 0 = some (.inl (some (.int 0)), h1, x1) := by
  rw [e230_0, e230_1, e230_2, e230_3, e230_4 X8 (by simp [Value.category]), E]
  simp only [mAft, Option.toList_none, List.nil_append]
  rw [e230_7, e230_18, e230_19]
theorem hx_236_2 {a1 : Int32} (X8 : kR (mCell h 8) 10 = true) (E : mW (mRo 8 xs) mTab 44 0 [some (.ref 8), some (.int a1), none] [] h 0 = some (.inr 2, h1, x1)) : mW (mRo 8 xs) mTab 236 0 [some (.ref 8), some (.int a1), some (.ref 62), none] [] h 0 = some (.inl (some (.int 1)), h1, x1) := by
  rw [e236_0, e236_1, e236_2, e236_3, e236_4 X8 (by simp [Value.category]), E]
  show mW (mRo 8 xs) mTab 236 13 [some (.ref 8), some (.int a1), some (.ref 62), none] [] h1 x1 = _
  rw [e236_13, e236_14]
theorem hx_236_1 {a1 : Int32} (X8 : kR (mCell h 8) 10 = true) (E : mW (mRo 8 xs) mTab 44 0 [some (.ref 8), some (.int a1), none] [] h 0 = some (.inr 1, h1, x1)) : mW (mRo 8 xs) mTab 236 0 [some (.ref 8), some (.int a1), some (.ref 62), none] [] h 0 = some (.inl (some (.int 2)), h1, x1) := by
  rw [e236_0, e236_1, e236_2, e236_3, e236_4 X8 (by simp [Value.category]), E]
  show mW (mRo 8 xs) mTab 236 16 [some (.ref 8), some (.int a1), some (.ref 62), none] [] h1 x1 = _
  rw [e236_16, e236_17]
theorem hn_236 {a1 : Int32} {v : Int32} {fl : Nat → Int64} (X8 : kR (mCell h 8) 10 = true) (E : mW (mRo 8 xs) mTab 44 0 [some (.ref 8), some (.int a1), none] [] h 0 = some (.inl (some (.int v)), h1, x1)) (O : mCell h1 62 = some (.inl (3, 1, .inr (.inl fl)))) : mW (mRo 8 xs) mTab 236 0 [some (.ref 8), some (.int a1), some (.ref 62), none] [] h 0 = some (.inl (some (.int 0)), h1.set (62 - 8) (.inl (3, 1, .inr (.inl (vp_updL fl 0 v.toInt64)))), x1) := by
  rw [e236_0, e236_1, e236_2, e236_3, e236_4 X8 (by simp [Value.category]), E]
  simp only [mAft, Option.toList_some, List.cons_append, List.nil_append]
  rw [e236_7, e236_8, kLS_out O, e236_9, e236_18, e236_19]
  rfl
theorem hx_239_1 (X8 : kR (mCell h 8) 10 = true) (E : mW (mRo 8 xs) mTab 50 0 [some (.ref 8)] [] h 0 = some (.inr 1, h1, x1)) : mW (mRo 8 xs) mTab 239 0 [some (.ref 8), some (.ref 62), none] [] h 0 = some (.inl (some (.int 1)), h1, x1) := by
  rw [e239_0, e239_1, e239_2, e239_3 X8 (by simp [Value.category]), E]
  show mW (mRo 8 xs) mTab 239 12 [some (.ref 8), some (.ref 62), none] [] h1 x1 = _
  rw [e239_12, e239_13]
theorem hn_239 {v : Int32} {fl : Nat → Int64} (X8 : kR (mCell h 8) 10 = true) (E : mW (mRo 8 xs) mTab 50 0 [some (.ref 8)] [] h 0 = some (.inl (some (.int v)), h1, x1)) (O : mCell h1 62 = some (.inl (3, 1, .inr (.inl fl)))) : mW (mRo 8 xs) mTab 239 0 [some (.ref 8), some (.ref 62), none] [] h 0 = some (.inl (some (.int 0)), h1.set (62 - 8) (.inl (3, 1, .inr (.inl (vp_updL fl 0 v.toInt64)))), x1) := by
  rw [e239_0, e239_1, e239_2, e239_3 X8 (by simp [Value.category]), E]
  simp only [mAft, Option.toList_some, List.cons_append, List.nil_append]
  rw [e239_6, e239_7, kLS_out O, e239_8, e239_14, e239_15]
  rfl
theorem hx_249_2 {a1 : Int32} (X8 : kR (mCell h 8) 10 = true) (E : mW (mRo 8 xs) mTab 64 0 [some (.ref 8), some (.int a1), none] [] h 0 = some (.inr 2, h1, x1)) : mW (mRo 8 xs) mTab 249 0 [some (.ref 8), some (.int a1), some (.ref 62), none] [] h 0 = some (.inl (some (.int 1)), h1, x1) := by
  rw [e249_0, e249_1, e249_2, e249_3, e249_4 X8 (by simp [Value.category]), E]
  show mW (mRo 8 xs) mTab 249 13 [some (.ref 8), some (.int a1), some (.ref 62), none] [] h1 x1 = _
  rw [e249_13, e249_14]
theorem hx_249_1 {a1 : Int32} (X8 : kR (mCell h 8) 10 = true) (E : mW (mRo 8 xs) mTab 64 0 [some (.ref 8), some (.int a1), none] [] h 0 = some (.inr 1, h1, x1)) : mW (mRo 8 xs) mTab 249 0 [some (.ref 8), some (.int a1), some (.ref 62), none] [] h 0 = some (.inl (some (.int 2)), h1, x1) := by
  rw [e249_0, e249_1, e249_2, e249_3, e249_4 X8 (by simp [Value.category]), E]
  show mW (mRo 8 xs) mTab 249 16 [some (.ref 8), some (.int a1), some (.ref 62), none] [] h1 x1 = _
  rw [e249_16, e249_17]
theorem hn_249 {a1 : Int32} {v : Int32} {fl : Nat → Int64} (X8 : kR (mCell h 8) 10 = true) (E : mW (mRo 8 xs) mTab 64 0 [some (.ref 8), some (.int a1), none] [] h 0 = some (.inl (some (.int v)), h1, x1)) (O : mCell h1 62 = some (.inl (3, 1, .inr (.inl fl)))) : mW (mRo 8 xs) mTab 249 0 [some (.ref 8), some (.int a1), some (.ref 62), none] [] h 0 = some (.inl (some (.int 0)), h1.set (62 - 8) (.inl (3, 1, .inr (.inl (vp_updL fl 0 v.toInt64)))), x1) := by
  rw [e249_0, e249_1, e249_2, e249_3, e249_4 X8 (by simp [Value.category]), E]
  simp only [mAft, Option.toList_some, List.cons_append, List.nil_append]
  rw [e249_7, e249_8, kLS_out O, e249_9, e249_18, e249_19]
  rfl
theorem hx_245_2 {a1 a2 : Int32} (X8 : kR (mCell h 8) 10 = true) (E : mW (mRo 8 xs) mTab 55 0 [some (.ref 8), some (.int a1), some (.int a2), none] [] h 0 = some (.inr 2, h1, x1)) : mW (mRo 8 xs) mTab 245 0 [some (.ref 8), some (.int a1), some (.int a2), some (.ref 62), none] [] h 0 = some (.inl (some (.int 1)), h1, x1) := by
  rw [e245_0, e245_1, e245_2, e245_3, e245_4, e245_5 X8 (by simp [Value.category]), E]
  show mW (mRo 8 xs) mTab 245 15 [some (.ref 8), some (.int a1), some (.int a2), some (.ref 62), none] [] h1 x1 = _
  rw [e245_15, e245_16]
theorem hx_245_0 {a1 a2 : Int32} (X8 : kR (mCell h 8) 10 = true) (E : mW (mRo 8 xs) mTab 55 0 [some (.ref 8), some (.int a1), some (.int a2), none] [] h 0 = some (.inr 0, h1, x1)) : mW (mRo 8 xs) mTab 245 0 [some (.ref 8), some (.int a1), some (.int a2), some (.ref 62), none] [] h 0 = some (.inl (some (.int 2)), h1, x1) := by
  rw [e245_0, e245_1, e245_2, e245_3, e245_4, e245_5 X8 (by simp [Value.category]), E]
  show mW (mRo 8 xs) mTab 245 19 [some (.ref 8), some (.int a1), some (.int a2), some (.ref 62), none] [] h1 x1 = _
  rw [e245_19, e245_20]
theorem hn_245 {a1 a2 : Int32} {v : Int32} {fl : Nat → Int64} (X8 : kR (mCell h 8) 10 = true) (E : mW (mRo 8 xs) mTab 55 0 [some (.ref 8), some (.int a1), some (.int a2), none] [] h 0 = some (.inl (some (.int v)), h1, x1)) (O : mCell h1 62 = some (.inl (3, 1, .inr (.inl fl)))) : mW (mRo 8 xs) mTab 245 0 [some (.ref 8), some (.int a1), some (.int a2), some (.ref 62), none] [] h 0 = some (.inl (some (.int 0)), h1.set (62 - 8) (.inl (3, 1, .inr (.inl (vp_updL fl 0 v.toInt64)))), x1) := by
  rw [e245_0, e245_1, e245_2, e245_3, e245_4, e245_5 X8 (by simp [Value.category]), E]
  simp only [mAft, Option.toList_some, List.cons_append, List.nil_append]
  rw [e245_8, e245_9, kLS_out O, e245_10, e245_21, e245_22]
  rfl
theorem hx_242_2 {a1 a2 : Int32} (X8 : kR (mCell h 8) 10 = true) (E : mW (mRo 8 xs) mTab 52 0 [some (.ref 8), some (.int a1), some (.int a2), none] [] h 0 = some (.inr 2, h1, x1)) : mW (mRo 8 xs) mTab 242 0 [some (.ref 8), some (.int a1), some (.int a2), some (.ref 62), none] [] h 0 = some (.inl (some (.int 1)), h1, x1) := by
  rw [e242_0, e242_1, e242_2, e242_3, e242_4, e242_5 X8 (by simp [Value.category]), E]
  show mW (mRo 8 xs) mTab 242 15 [some (.ref 8), some (.int a1), some (.int a2), some (.ref 62), none] [] h1 x1 = _
  rw [e242_15, e242_16]
theorem hn_242 {a1 a2 : Int32} {v : Int32} {fl : Nat → Int64} (X8 : kR (mCell h 8) 10 = true) (E : mW (mRo 8 xs) mTab 52 0 [some (.ref 8), some (.int a1), some (.int a2), none] [] h 0 = some (.inl (some (.int v)), h1, x1)) (O : mCell h1 62 = some (.inl (3, 1, .inr (.inl fl)))) : mW (mRo 8 xs) mTab 242 0 [some (.ref 8), some (.int a1), some (.int a2), some (.ref 62), none] [] h 0 = some (.inl (some (.int 0)), h1.set (62 - 8) (.inl (3, 1, .inr (.inl (vp_updL fl 0 v.toInt64)))), x1) := by
  rw [e242_0, e242_1, e242_2, e242_3, e242_4, e242_5 X8 (by simp [Value.category]), E]
  simp only [mAft, Option.toList_some, List.cons_append, List.nil_append]
  rw [e242_8, e242_9, kLS_out O, e242_10, e242_17, e242_18]
  rfl
theorem hx_247_2 {a1 a2 : Int32} (X8 : kR (mCell h 8) 10 = true) (E : mW (mRo 8 xs) mTab 57 0 [some (.ref 8), some (.int a1), some (.int a2), none] [] h 0 = some (.inr 2, h1, x1)) : mW (mRo 8 xs) mTab 247 0 [some (.ref 8), some (.int a1), some (.int a2), some (.ref 62), none] [] h 0 = some (.inl (some (.int 1)), h1, x1) := by
  rw [e247_0, e247_1, e247_2, e247_3, e247_4, e247_5 X8 (by simp [Value.category]), E]
  show mW (mRo 8 xs) mTab 247 15 [some (.ref 8), some (.int a1), some (.int a2), some (.ref 62), none] [] h1 x1 = _
  rw [e247_15, e247_16]
theorem hn_247 {a1 a2 : Int32} {v : Int32} {fl : Nat → Int64} (X8 : kR (mCell h 8) 10 = true) (E : mW (mRo 8 xs) mTab 57 0 [some (.ref 8), some (.int a1), some (.int a2), none] [] h 0 = some (.inl (some (.int v)), h1, x1)) (O : mCell h1 62 = some (.inl (3, 1, .inr (.inl fl)))) : mW (mRo 8 xs) mTab 247 0 [some (.ref 8), some (.int a1), some (.int a2), some (.ref 62), none] [] h 0 = some (.inl (some (.int 0)), h1.set (62 - 8) (.inl (3, 1, .inr (.inl (vp_updL fl 0 v.toInt64)))), x1) := by
  rw [e247_0, e247_1, e247_2, e247_3, e247_4, e247_5 X8 (by simp [Value.category]), E]
  simp only [mAft, Option.toList_some, List.cons_append, List.nil_append]
  rw [e247_8, e247_9, kLS_out O, e247_10, e247_17, e247_18]
  rfl
theorem hx_248_2 {a1 a2 : Int32} (X8 : kR (mCell h 8) 10 = true) (E : mW (mRo 8 xs) mTab 63 0 [some (.ref 8), some (.int a1), some (.int a2), none, none] [] h 0 = some (.inr 2, h1, x1)) : mW (mRo 8 xs) mTab 248 0 [some (.ref 8), some (.int a1), some (.int a2), some (.ref 62), none] [] h 0 = some (.inl (some (.int 1)), h1, x1) := by
  rw [e248_0, e248_1, e248_2, e248_3, e248_4, e248_5 X8 (by simp [Value.category]), E]
  show mW (mRo 8 xs) mTab 248 15 [some (.ref 8), some (.int a1), some (.int a2), some (.ref 62), none] [] h1 x1 = _
  rw [e248_15, e248_16]
theorem hn_248 {a1 a2 : Int32} {v : Int32} {fl : Nat → Int64} (X8 : kR (mCell h 8) 10 = true) (E : mW (mRo 8 xs) mTab 63 0 [some (.ref 8), some (.int a1), some (.int a2), none, none] [] h 0 = some (.inl (some (.int v)), h1, x1)) (O : mCell h1 62 = some (.inl (3, 1, .inr (.inl fl)))) : mW (mRo 8 xs) mTab 248 0 [some (.ref 8), some (.int a1), some (.int a2), some (.ref 62), none] [] h 0 = some (.inl (some (.int 0)), h1.set (62 - 8) (.inl (3, 1, .inr (.inl (vp_updL fl 0 v.toInt64)))), x1) := by
  rw [e248_0, e248_1, e248_2, e248_3, e248_4, e248_5 X8 (by simp [Value.category]), E]
  simp only [mAft, Option.toList_some, List.cons_append, List.nil_append]
  rw [e248_8, e248_9, kLS_out O, e248_10, e248_17, e248_18]
  rfl
theorem hx_251_0 {a1 a2 a3 a4 : Int32} (X8 : kR (mCell h 8) 10 = true) (E : mW (mRo 8 xs) mTab 66 0 [some (.ref 8), some (.int a1), some (.int a2), some (.int a3), some (.int a4)] [] h 0 = some (.inr 0, h1, x1)) : mW (mRo 8 xs) mTab 251 0 [some (.ref 8), some (.int a1), some (.int a2), some (.int a3), some (.int a4), none] [] h 0 = some (.inl (some (.int 1)), h1, x1) := by
  rw [e251_0, e251_1, e251_2, e251_3, e251_4, e251_6 X8 (by simp [Value.category]), E]
  show mW (mRo 8 xs) mTab 251 14 [some (.ref 8), some (.int a1), some (.int a2), some (.int a3), some (.int a4), none] [] h1 x1 = _
  rw [e251_14, e251_15]
theorem hn_251 {a1 a2 a3 a4 : Int32} (X8 : kR (mCell h 8) 10 = true) (E : mW (mRo 8 xs) mTab 66 0 [some (.ref 8), some (.int a1), some (.int a2), some (.int a3), some (.int a4)] [] h 0 = some (.inl none, h1, x1)) : mW (mRo 8 xs) mTab 251 0 [some (.ref 8), some (.int a1), some (.int a2), some (.int a3), some (.int a4), none] [] h 0 = some (.inl (some (.int 0)), h1, x1) := by
  rw [e251_0, e251_1, e251_2, e251_3, e251_4, e251_6 X8 (by simp [Value.category]), E]
  simp only [mAft, Option.toList_none, List.nil_append]
  rw [e251_9, e251_16, e251_17]
theorem hx_250_2 {a1 a2 : Int32} (X8 : kR (mCell h 8) 10 = true) (E : mW (mRo 8 xs) mTab 65 0 [some (.ref 8), some (.int a1), some (.int a2), none] [] h 0 = some (.inr 2, h1, x1)) : mW (mRo 8 xs) mTab 250 0 [some (.ref 8), some (.int a1), some (.int a2), some (.ref 63), none] [] h 0 = some (.inl (some (.int 1)), h1, x1) := by
  rw [e250_0, e250_1, e250_2, e250_3, e250_4, e250_5 X8 (by simp [Value.category]), E]
  show mW (mRo 8 xs) mTab 250 15 [some (.ref 8), some (.int a1), some (.int a2), some (.ref 63), none] [] h1 x1 = _
  rw [e250_15, e250_16]
theorem hx_243_2 {a1 : Int32} (X8 : kR (mCell h 8) 10 = true) (E : mW (mRo 8 xs) mTab 53 0 [some (.ref 8), some (.int a1), none] [] h 0 = some (.inr 2, h1, x1)) : mW (mRo 8 xs) mTab 243 0 [some (.ref 8), some (.int a1), some (.ref 62), none] [] h 0 = some (.inl (some (.int 1)), h1, x1) := by
  rw [e243_0, e243_1, e243_2, e243_3, e243_4 X8 (by simp [Value.category]), E]
  show mW (mRo 8 xs) mTab 243 13 [some (.ref 8), some (.int a1), some (.ref 62), none] [] h1 x1 = _
  rw [e243_13, e243_14]
theorem hn_243 {a1 : Int32} {v : Int32} {fl : Nat → Int64} (X8 : kR (mCell h 8) 10 = true) (E : mW (mRo 8 xs) mTab 53 0 [some (.ref 8), some (.int a1), none] [] h 0 = some (.inl (some (.int v)), h1, x1)) (O : mCell h1 62 = some (.inl (3, 1, .inr (.inl fl)))) : mW (mRo 8 xs) mTab 243 0 [some (.ref 8), some (.int a1), some (.ref 62), none] [] h 0 = some (.inl (some (.int 0)), h1.set (62 - 8) (.inl (3, 1, .inr (.inl (vp_updL fl 0 v.toInt64)))), x1) := by
  rw [e243_0, e243_1, e243_2, e243_3, e243_4 X8 (by simp [Value.category]), E]
  simp only [mAft, Option.toList_some, List.cons_append, List.nil_append]
  rw [e243_7, e243_8, kLS_out O, e243_9, e243_15, e243_16]
  rfl
end
