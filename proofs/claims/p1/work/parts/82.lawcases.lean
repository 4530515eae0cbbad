section
variable {xs : Nat → Int32}
theorem sc_1 {h : List mCel} {f : Int32 → Option mOut} : kIA (mRo 8 xs) h 0 (0 + 1) f = f (xs 1) := rfl
theorem sc_2 {h : List mCel} {f : Int32 → Option mOut} : kIA (mRo 8 xs) h 0 (0 + 2) f = f (xs 2) := rfl
theorem sc_3 {h : List mCel} {f : Int32 → Option mOut} : kIA (mRo 8 xs) h 0 (0 + 3) f = f (xs 3) := rfl
theorem sc_4 {h : List mCel} {f : Int32 → Option mOut} : kIA (mRo 8 xs) h 0 (0 + 4) f = f (xs 4) := rfl
theorem sc_5 {h : List mCel} {f : Int32 → Option mOut} : kIA (mRo 8 xs) h 0 (0 + 5) f = f (xs 5) := rfl
theorem sc_6 {h : List mCel} {f : Int32 → Option mOut} : kIA (mRo 8 xs) h 0 (0 + 6) f = f (xs 6) := rfl
theorem sc_7 {h : List mCel} {f : Int32 → Option mOut} : kIA (mRo 8 xs) h 0 (0 + 7) f = f (xs 7) := rfl
theorem sc_0 {h : List mCel} {f : Int32 → Option mOut} : kIA (mRo 8 xs) h 0 0 f = f (xs 0) := rfl
theorem lg_same (v : Int64) : lg_cmp v v = 0 := by
  unfold lg_cmp; simp
theorem lc_0 {h h1 h2 : List mCel} {x1 : Nat} {kk b : Int32} {fs0 fs : List Value} (E1 : mW (mRo 8 xs) mTab 234 0 [some (.ref 8), some (.int (xs 1)), some (.int (xs 2)), some (.ref 62), none] [] h 0 = some (.inl (some (.int kk)), h1, x1)) (X42 : mCell h1 42 = some (.inr (11, fs0))) (E2 : mW (mRo 8 xs) mTab 81 0 [some (.ref 42), some (.int (xs 1)), some (.int (xs 2))] [] h1 x1 = some (.inl (some (.int b)), h2, x1)) (T1 : mCell h2 42 = some (.inr (11, fs))) (T2 : fs[45]? = some (.int kk)) (O : kk = 0 → ∀ q : Int64 → Option mOut, kLA h2 62 0 q = q b.toInt64) :
    ∃ l7, mW (mRo 8 xs) mTab 240 160 [some (.ref 0), some (.ref 8), some (.ref 42), some (.ref 62), some (.ref 63), some (.int 0), none, none] [] h 0 = mW (mRo 8 xs) mTab 240 1980 [some (.ref 0), some (.ref 8), some (.ref 42), some (.ref 62), some (.ref 63), some (.int 0), some (.int kk), l7] [] h2 x1 := by
  refine ⟨some (.int b), ?_⟩
  rw [e240_160, e240_161, e240_162, e240_164, e240_165, e240_166, sc_1, e240_167, e240_168, e240_170, e240_171, e240_172, sc_2, e240_173, e240_174 (by simp [Value.category]), E1]
  simp only [mAft, Option.toList_some, Option.toList_none, List.cons_append, List.nil_append]
  rw [e240_177, e240_179, e240_180, e240_181, e240_183, e240_184, e240_185, sc_1, e240_186, e240_187, e240_189, e240_190, e240_191, sc_2, e240_192 (kR_eq X42) (by simp [Value.category]), E2]
  simp only [mAft, Option.toList_some, Option.toList_none, List.cons_append, List.nil_append]
  rw [e240_195, e240_197, e240_198 (kR_eq T1) (by simp [Value.category]), d_thrown T1 T2]
  simp only [mAft, Option.toList_some, Option.toList_none, List.cons_append, List.nil_append]
  rw [e240_201, e240_203, if_pos rfl]
  rw [e240_208, e240_210]
  by_cases z : kk = 0
  · rw [if_neg (not_not_intro z), e240_213, e240_214, e240_215, O z, e240_216, e240_218, e240_219, lg_same, e240_220, if_pos rfl, e240_225]
  · rw [if_pos z, e240_225]
theorem lc_1 {h h1 h2 : List mCel} {x1 : Nat} {kk b : Int32} {fs0 fs : List Value} (E1 : mW (mRo 8 xs) mTab 246 0 [some (.ref 8), some (.ref 62), none] [] h 0 = some (.inl (some (.int kk)), h1, x1)) (X42 : mCell h1 42 = some (.inr (11, fs0))) (E2 : mW (mRo 8 xs) mTab 124 0 [some (.ref 42), none] [] h1 x1 = some (.inl (some (.int b)), h2, x1)) (T1 : mCell h2 42 = some (.inr (11, fs))) (T2 : fs[45]? = some (.int kk)) (O : kk = 0 → ∀ q : Int64 → Option mOut, kLA h2 62 0 q = q b.toInt64) :
    ∃ l7, mW (mRo 8 xs) mTab 240 228 [some (.ref 0), some (.ref 8), some (.ref 42), some (.ref 62), some (.ref 63), some (.int 0), none, none] [] h 0 = mW (mRo 8 xs) mTab 240 1980 [some (.ref 0), some (.ref 8), some (.ref 42), some (.ref 62), some (.ref 63), some (.int 0), some (.int kk), l7] [] h2 x1 := by
  refine ⟨some (.int b), ?_⟩
  rw [e240_228, e240_229, e240_230 (by simp [Value.category]), E1]
  simp only [mAft, Option.toList_some, Option.toList_none, List.cons_append, List.nil_append]
  rw [e240_233, e240_235, e240_236 (kR_eq X42) (by simp [Value.category]), E2]
  simp only [mAft, Option.toList_some, Option.toList_none, List.cons_append, List.nil_append]
  rw [e240_239, e240_241, e240_242 (kR_eq T1) (by simp [Value.category]), d_thrown T1 T2]
  simp only [mAft, Option.toList_some, Option.toList_none, List.cons_append, List.nil_append]
  rw [e240_245, e240_247, if_pos rfl]
  rw [e240_252, e240_254]
  by_cases z : kk = 0
  · rw [if_neg (not_not_intro z), e240_257, e240_258, e240_259, O z, e240_260, e240_262, e240_263, lg_same, e240_264, if_pos rfl, e240_269]
  · rw [if_pos z, e240_269]
theorem lc_3 {h h1 h2 : List mCel} {x1 : Nat} {kk b : Int32} {fs0 fs : List Value} (E1 : mW (mRo 8 xs) mTab 252 0 [some (.ref 8), some (.int (xs 1)), some (.ref 62), none] [] h 0 = some (.inl (some (.int kk)), h1, x1)) (X42 : mCell h1 42 = some (.inr (11, fs0))) (E2 : mW (mRo 8 xs) mTab 136 0 [some (.ref 42), some (.int (xs 1)), none, none] [] h1 x1 = some (.inl (some (.int b)), h2, x1)) (T1 : mCell h2 42 = some (.inr (11, fs))) (T2 : fs[45]? = some (.int kk)) (O : kk = 0 → ∀ q : Int64 → Option mOut, kLA h2 62 0 q = q b.toInt64) :
    ∃ l7, mW (mRo 8 xs) mTab 240 285 [some (.ref 0), some (.ref 8), some (.ref 42), some (.ref 62), some (.ref 63), some (.int 0), none, none] [] h 0 = mW (mRo 8 xs) mTab 240 1980 [some (.ref 0), some (.ref 8), some (.ref 42), some (.ref 62), some (.ref 63), some (.int 0), some (.int kk), l7] [] h2 x1 := by
  refine ⟨some (.int b), ?_⟩
  rw [e240_285, e240_286, e240_287, e240_289, e240_290, e240_291, sc_1, e240_292, e240_293 (by simp [Value.category]), E1]
  simp only [mAft, Option.toList_some, Option.toList_none, List.cons_append, List.nil_append]
  rw [e240_296, e240_298, e240_299, e240_300, e240_302, e240_303, e240_304, sc_1, e240_305 (kR_eq X42) (by simp [Value.category]), E2]
  simp only [mAft, Option.toList_some, Option.toList_none, List.cons_append, List.nil_append]
  rw [e240_308, e240_310, e240_311 (kR_eq T1) (by simp [Value.category]), d_thrown T1 T2]
  simp only [mAft, Option.toList_some, Option.toList_none, List.cons_append, List.nil_append]
  rw [e240_314, e240_316, if_pos rfl]
  rw [e240_321, e240_323]
  by_cases z : kk = 0
  · rw [if_neg (not_not_intro z), e240_326, e240_327, e240_328, O z, e240_329, e240_331, e240_332, lg_same, e240_333, if_pos rfl, e240_338]
  · rw [if_pos z, e240_338]
theorem lc_4 {h h1 h2 : List mCel} {x1 : Nat} {kk : Int32} {fs0 fs : List Value} (E1 : mW (mRo 8 xs) mTab 253 0 [some (.ref 8), some (.int (xs 1)), some (.int (xs 2)), none] [] h 0 = some (.inl (some (.int kk)), h1, x1)) (X42 : mCell h1 42 = some (.inr (11, fs0))) (E2 : mW (mRo 8 xs) mTab 141 0 [some (.ref 42), some (.int (xs 1)), some (.int (xs 2)), none] [] h1 x1 = some (.inl none, h2, x1)) (T1 : mCell h2 42 = some (.inr (11, fs))) (T2 : fs[45]? = some (.int kk)) :
    ∃ l7, mW (mRo 8 xs) mTab 240 341 [some (.ref 0), some (.ref 8), some (.ref 42), some (.ref 62), some (.ref 63), some (.int 0), none, none] [] h 0 = mW (mRo 8 xs) mTab 240 1980 [some (.ref 0), some (.ref 8), some (.ref 42), some (.ref 62), some (.ref 63), some (.int 0), some (.int kk), l7] [] h2 x1 := by
  refine ⟨none, ?_⟩
  rw [e240_341, e240_342, e240_343, e240_345, e240_346, e240_347, sc_1, e240_348, e240_349, e240_351, e240_352, e240_353, sc_2, e240_354 (by simp [Value.category]), E1]
  simp only [mAft, Option.toList_some, Option.toList_none, List.cons_append, List.nil_append]
  rw [e240_357, e240_359, e240_360, e240_361, e240_363, e240_364, e240_365, sc_1, e240_366, e240_367, e240_369, e240_370, e240_371, sc_2, e240_372 (kR_eq X42) (by simp [Value.category]), E2]
  simp only [mAft, Option.toList_some, Option.toList_none, List.cons_append, List.nil_append]
  rw [e240_375, e240_376 (kR_eq T1) (by simp [Value.category]), d_thrown T1 T2]
  simp only [mAft, Option.toList_some, Option.toList_none, List.cons_append, List.nil_append]
  rw [e240_379, e240_381, if_pos rfl, e240_386]
theorem lc_5 {h h1 h2 : List mCel} {x1 : Nat} {kk b : Int32} {fs0 fs : List Value} (E1 : mW (mRo 8 xs) mTab 235 0 [some (.ref 8), some (.int (xs 1)), some (.ref 62), none] [] h 0 = some (.inl (some (.int kk)), h1, x1)) (X42 : mCell h1 42 = some (.inr (11, fs0))) (E2 : mW (mRo 8 xs) mTab 84 0 [some (.ref 42), some (.int (xs 1)), none] [] h1 x1 = some (.inl (some (.int b)), h2, x1)) (T1 : mCell h2 42 = some (.inr (11, fs))) (T2 : fs[45]? = some (.int kk)) (O : kk = 0 → ∀ q : Int64 → Option mOut, kLA h2 62 0 q = q b.toInt64) :
    ∃ l7, mW (mRo 8 xs) mTab 240 389 [some (.ref 0), some (.ref 8), some (.ref 42), some (.ref 62), some (.ref 63), some (.int 0), none, none] [] h 0 = mW (mRo 8 xs) mTab 240 1980 [some (.ref 0), some (.ref 8), some (.ref 42), some (.ref 62), some (.ref 63), some (.int 0), some (.int kk), l7] [] h2 x1 := by
  refine ⟨some (.int b), ?_⟩
  rw [e240_389, e240_390, e240_391, e240_393, e240_394, e240_395, sc_1, e240_396, e240_397 (by simp [Value.category]), E1]
  simp only [mAft, Option.toList_some, Option.toList_none, List.cons_append, List.nil_append]
  rw [e240_400, e240_402, e240_403, e240_404, e240_406, e240_407, e240_408, sc_1, e240_409 (kR_eq X42) (by simp [Value.category]), E2]
  simp only [mAft, Option.toList_some, Option.toList_none, List.cons_append, List.nil_append]
  rw [e240_412, e240_414, e240_415 (kR_eq T1) (by simp [Value.category]), d_thrown T1 T2]
  simp only [mAft, Option.toList_some, Option.toList_none, List.cons_append, List.nil_append]
  rw [e240_418, e240_420, if_pos rfl]
  rw [e240_425, e240_427]
  by_cases z : kk = 0
  · rw [if_neg (not_not_intro z), e240_430, e240_431, e240_432, O z, e240_433, e240_435, e240_436, lg_same, e240_437, if_pos rfl, e240_442]
  · rw [if_pos z, e240_442]
theorem lc_6 {h h1 h2 : List mCel} {x1 : Nat} {kk b : Int32} {fs0 fs : List Value} (E1 : mW (mRo 8 xs) mTab 241 0 [some (.ref 8), some (.int (xs 1)), some (.ref 62), none] [] h 0 = some (.inl (some (.int kk)), h1, x1)) (X42 : mCell h1 42 = some (.inr (11, fs0))) (E2 : mW (mRo 8 xs) mTab 117 0 [some (.ref 42), some (.int (xs 1)), none] [] h1 x1 = some (.inl (some (.int b)), h2, x1)) (T1 : mCell h2 42 = some (.inr (11, fs))) (T2 : fs[45]? = some (.int kk)) (O : kk = 0 → ∀ q : Int64 → Option mOut, kLA h2 62 0 q = q b.toInt64) :
    ∃ l7, mW (mRo 8 xs) mTab 240 445 [some (.ref 0), some (.ref 8), some (.ref 42), some (.ref 62), some (.ref 63), some (.int 0), none, none] [] h 0 = mW (mRo 8 xs) mTab 240 1980 [some (.ref 0), some (.ref 8), some (.ref 42), some (.ref 62), some (.ref 63), some (.int 0), some (.int kk), l7] [] h2 x1 := by
  refine ⟨some (.int b), ?_⟩
  rw [e240_445, e240_446, e240_447, e240_449, e240_450, e240_451, sc_1, e240_452, e240_453 (by simp [Value.category]), E1]
  simp only [mAft, Option.toList_some, Option.toList_none, List.cons_append, List.nil_append]
  rw [e240_456, e240_458, e240_459, e240_460, e240_462, e240_463, e240_464, sc_1, e240_465 (kR_eq X42) (by simp [Value.category]), E2]
  simp only [mAft, Option.toList_some, Option.toList_none, List.cons_append, List.nil_append]
  rw [e240_468, e240_470, e240_471 (kR_eq T1) (by simp [Value.category]), d_thrown T1 T2]
  simp only [mAft, Option.toList_some, Option.toList_none, List.cons_append, List.nil_append]
  rw [e240_474, e240_476, if_pos rfl]
  rw [e240_481, e240_483]
  by_cases z : kk = 0
  · rw [if_neg (not_not_intro z), e240_486, e240_487, e240_488, O z, e240_489, e240_491, e240_492, lg_same, e240_493, if_pos rfl, e240_498]
  · rw [if_pos z, e240_498]
theorem lc_7 {h h1 h2 : List mCel} {x1 : Nat} {kk b : Int32} {fs0 fs : List Value} (E1 : mW (mRo 8 xs) mTab 233 0 [some (.ref 8), some (.int (xs 1)), some (.int (xs 2)), some (.ref 62), none] [] h 0 = some (.inl (some (.int kk)), h1, x1)) (X42 : mCell h1 42 = some (.inr (11, fs0))) (E2 : mW (mRo 8 xs) mTab 80 0 [some (.ref 42), some (.int (xs 1)), some (.int (xs 2))] [] h1 x1 = some (.inl (some (.int b)), h2, x1)) (T1 : mCell h2 42 = some (.inr (11, fs))) (T2 : fs[45]? = some (.int kk)) (O : kk = 0 → ∀ q : Int64 → Option mOut, kLA h2 62 0 q = q b.toInt64) :
    ∃ l7, mW (mRo 8 xs) mTab 240 501 [some (.ref 0), some (.ref 8), some (.ref 42), some (.ref 62), some (.ref 63), some (.int 0), none, none] [] h 0 = mW (mRo 8 xs) mTab 240 1980 [some (.ref 0), some (.ref 8), some (.ref 42), some (.ref 62), some (.ref 63), some (.int 0), some (.int kk), l7] [] h2 x1 := by
  refine ⟨some (.int b), ?_⟩
  rw [e240_501, e240_502, e240_503, e240_505, e240_506, e240_507, sc_1, e240_508, e240_509, e240_511, e240_512, e240_513, sc_2, e240_514, e240_515 (by simp [Value.category]), E1]
  simp only [mAft, Option.toList_some, Option.toList_none, List.cons_append, List.nil_append]
  rw [e240_518, e240_520, e240_521, e240_522, e240_524, e240_525, e240_526, sc_1, e240_527, e240_528, e240_530, e240_531, e240_532, sc_2, e240_533 (kR_eq X42) (by simp [Value.category]), E2]
  simp only [mAft, Option.toList_some, Option.toList_none, List.cons_append, List.nil_append]
  rw [e240_536, e240_538, e240_539 (kR_eq T1) (by simp [Value.category]), d_thrown T1 T2]
  simp only [mAft, Option.toList_some, Option.toList_none, List.cons_append, List.nil_append]
  rw [e240_542, e240_544, if_pos rfl]
  rw [e240_549, e240_551]
  by_cases z : kk = 0
  · rw [if_neg (not_not_intro z), e240_554, e240_555, e240_556, O z, e240_557, e240_559, e240_560, lg_same, e240_561, if_pos rfl, e240_566]
  · rw [if_pos z, e240_566]
theorem lc_8 {h h1 h2 : List mCel} {x1 : Nat} {kk b : Int32} {fs0 fs : List Value} (E1 : mW (mRo 8 xs) mTab 238 0 [some (.ref 8), some (.int (xs 1)), some (.int (xs 2)), some (.int (xs 3)), some (.ref 62), none] [] h 0 = some (.inl (some (.int kk)), h1, x1)) (X42 : mCell h1 42 = some (.inr (11, fs0))) (E2 : mW (mRo 8 xs) mTab 106 0 [some (.ref 42), some (.int (xs 1)), some (.int (xs 2)), some (.int (xs 3))] [] h1 x1 = some (.inl (some (.int b)), h2, x1)) (T1 : mCell h2 42 = some (.inr (11, fs))) (T2 : fs[45]? = some (.int kk)) (B01 : b = 0 ∨ b = 1) (O : kk = 0 → ∀ q : Int64 → Option mOut, kLA h2 62 0 q = q b.toInt64) :
    ∃ l7, mW (mRo 8 xs) mTab 240 569 [some (.ref 0), some (.ref 8), some (.ref 42), some (.ref 62), some (.ref 63), some (.int 0), none, none] [] h 0 = mW (mRo 8 xs) mTab 240 1980 [some (.ref 0), some (.ref 8), some (.ref 42), some (.ref 62), some (.ref 63), some (.int 0), some (.int kk), l7] [] h2 x1 := by
  refine ⟨some (.int b), ?_⟩
  rw [e240_569, e240_570, e240_571, e240_573, e240_574, e240_575, sc_1, e240_576, e240_577, e240_579, e240_580, e240_581, sc_2, e240_582, e240_583, e240_585, e240_586, e240_587, sc_3, e240_588, e240_589 (by simp [Value.category]), E1]
  simp only [mAft, Option.toList_some, Option.toList_none, List.cons_append, List.nil_append]
  rw [e240_592, e240_594, e240_595, e240_596, e240_598, e240_599, e240_600, sc_1, e240_601, e240_602, e240_604, e240_605, e240_606, sc_2, e240_607, e240_608, e240_610, e240_611, e240_612, sc_3, e240_613 (kR_eq X42) (by simp [Value.category]), E2]
  simp only [mAft, Option.toList_some, Option.toList_none, List.cons_append, List.nil_append]
  rw [e240_616, e240_618, e240_619 (kR_eq T1) (by simp [Value.category]), d_thrown T1 T2]
  simp only [mAft, Option.toList_some, Option.toList_none, List.cons_append, List.nil_append]
  rw [e240_622, e240_624, if_pos rfl]
  rw [e240_629, e240_631]
  by_cases z : kk = 0
  · rw [if_neg (not_not_intro z), e240_634, e240_635, e240_636, O z]
    rcases B01 with rfl | rfl
    · rw [e240_637, e240_639, if_pos rfl, e240_646, e240_647, e240_648, show lg_cmp (Int32.toInt64 0) 0 = 0 from by decide, if_pos rfl, e240_653]
    · rw [e240_637, e240_639, if_neg (by decide), e240_642, e240_643, e240_647, e240_648, show lg_cmp (Int32.toInt64 1) 1 = 0 from by decide, if_pos rfl, e240_653]
  · rw [if_pos z, e240_653]
theorem lc_9 {h h1 h2 : List mCel} {x1 : Nat} {kk b : Int32} {fs0 fs : List Value} (E1 : mW (mRo 8 xs) mTab 254 0 [some (.ref 8), some (.int (xs 1)), some (.int (xs 2)), some (.int (xs 3)), some (.int (xs 4)), some (.int (xs 5)), some (.int (xs 6)), some (.ref 62), none] [] h 0 = some (.inl (some (.int kk)), h1, x1)) (X42 : mCell h1 42 = some (.inr (11, fs0))) (E2 : mW (mRo 8 xs) mTab 143 0 [some (.ref 42), some (.int (xs 1)), some (.int (xs 2)), some (.int (xs 3)), some (.int (xs 4)), some (.int (xs 5)), some (.int (xs 6)), none] [] h1 x1 = some (.inl (some (.int b)), h2, x1)) (T1 : mCell h2 42 = some (.inr (11, fs))) (T2 : fs[45]? = some (.int kk)) (O : kk = 0 → ∀ q : Int64 → Option mOut, kLA h2 62 0 q = q b.toInt64) :
    ∃ l7, mW (mRo 8 xs) mTab 240 656 [some (.ref 0), some (.ref 8), some (.ref 42), some (.ref 62), some (.ref 63), some (.int 0), none, none] [] h 0 = mW (mRo 8 xs) mTab 240 1980 [some (.ref 0), some (.ref 8), some (.ref 42), some (.ref 62), some (.ref 63), some (.int 0), some (.int kk), l7] [] h2 x1 := by
  refine ⟨some (.int b), ?_⟩
  rw [e240_656, e240_657, e240_658, e240_660, e240_661, e240_662, sc_1, e240_663, e240_664, e240_666, e240_667, e240_668, sc_2, e240_669, e240_670, e240_672, e240_673, e240_674, sc_3, e240_675, e240_676, e240_678, e240_679, e240_680, sc_4, e240_681, e240_682, e240_684, e240_685, e240_686, sc_5, e240_687, e240_688, e240_690, e240_692, e240_693, sc_6, e240_694, e240_695 (by simp [Value.category]), E1]
  simp only [mAft, Option.toList_some, Option.toList_none, List.cons_append, List.nil_append]
  rw [e240_698, e240_700, e240_701, e240_702, e240_704, e240_705, e240_706, sc_1, e240_707, e240_708, e240_710, e240_711, e240_712, sc_2, e240_713, e240_714, e240_716, e240_717, e240_718, sc_3, e240_719, e240_720, e240_722, e240_723, e240_724, sc_4, e240_725, e240_726, e240_728, e240_729, e240_730, sc_5, e240_731, e240_732, e240_734, e240_736, e240_737, sc_6, e240_738 (kR_eq X42) (by simp [Value.category]), E2]
  simp only [mAft, Option.toList_some, Option.toList_none, List.cons_append, List.nil_append]
  rw [e240_741, e240_743, e240_744 (kR_eq T1) (by simp [Value.category]), d_thrown T1 T2]
  simp only [mAft, Option.toList_some, Option.toList_none, List.cons_append, List.nil_append]
  rw [e240_747, e240_749, if_pos rfl]
  rw [e240_754, e240_756]
  by_cases z : kk = 0
  · rw [if_neg (not_not_intro z), e240_759, e240_760, e240_761, O z, e240_762, e240_764, e240_765, lg_same, e240_766, if_pos rfl, e240_771]
  · rw [if_pos z, e240_771]
theorem lc_10 {h h1 h2 : List mCel} {x1 : Nat} {kk b : Int32} {fs0 fs : List Value} (E1 : mW (mRo 8 xs) mTab 237 0 [some (.ref 8), some (.int (xs 1)), some (.ref 62), none] [] h 0 = some (.inl (some (.int kk)), h1, x1)) (X42 : mCell h1 42 = some (.inr (11, fs0))) (E2 : mW (mRo 8 xs) mTab 94 0 [some (.ref 42), some (.int (xs 1))] [] h1 x1 = some (.inl (some (.int b)), h2, x1)) (T1 : mCell h2 42 = some (.inr (11, fs))) (T2 : fs[45]? = some (.int kk)) (O : kk = 0 → ∀ q : Int64 → Option mOut, kLA h2 62 0 q = q b.toInt64) :
    ∃ l7, mW (mRo 8 xs) mTab 240 774 [some (.ref 0), some (.ref 8), some (.ref 42), some (.ref 62), some (.ref 63), some (.int 0), none, none] [] h 0 = mW (mRo 8 xs) mTab 240 1980 [some (.ref 0), some (.ref 8), some (.ref 42), some (.ref 62), some (.ref 63), some (.int 0), some (.int kk), l7] [] h2 x1 := by
  refine ⟨some (.int b), ?_⟩
  rw [e240_774, e240_775, e240_776, e240_778, e240_779, e240_780, sc_1, e240_781, e240_782 (by simp [Value.category]), E1]
  simp only [mAft, Option.toList_some, Option.toList_none, List.cons_append, List.nil_append]
  rw [e240_785, e240_787, e240_788, e240_789, e240_791, e240_792, e240_793, sc_1, e240_794 (kR_eq X42) (by simp [Value.category]), E2]
  simp only [mAft, Option.toList_some, Option.toList_none, List.cons_append, List.nil_append]
  rw [e240_797, e240_799, e240_800 (kR_eq T1) (by simp [Value.category]), d_thrown T1 T2]
  simp only [mAft, Option.toList_some, Option.toList_none, List.cons_append, List.nil_append]
  rw [e240_803, e240_805, if_pos rfl]
  rw [e240_810, e240_812]
  by_cases z : kk = 0
  · rw [if_neg (not_not_intro z), e240_815, e240_816, e240_817, O z, e240_818, e240_820, e240_821, lg_same, e240_822, if_pos rfl, e240_827]
  · rw [if_pos z, e240_827]
theorem lc_11 {h h1 h2 : List mCel} {x1 : Nat} {kk b : Int32} {fs0 fs : List Value} {rv : Int32} (hz0 : xs 7 = 0 → rv = 0) (hz1 : xs 7 ≠ 0 → rv = 1) (E1 : mW (mRo 8 xs) mTab 231 0 [some (.ref 8), some (.int (xs 1)), some (.int (xs 2)), some (.int (xs 3)), some (.int (xs 4)), some (.int (xs 5)), some (.int (xs 6)), some (.int rv), some (.ref 62), none] [] h 0 = some (.inl (some (.int kk)), h1, x1)) (X42 : mCell h1 42 = some (.inr (11, fs0))) (E2 : mW (mRo 8 xs) mTab 77 0 [some (.ref 42), some (.int (xs 1)), some (.int (xs 2)), some (.int (xs 3)), some (.int (xs 4)), some (.int (xs 5)), some (.int (xs 6)), some (.int rv)] [] h1 x1 = some (.inl (some (.int b)), h2, x1)) (T1 : mCell h2 42 = some (.inr (11, fs))) (T2 : fs[45]? = some (.int kk)) (O : kk = 0 → ∀ q : Int64 → Option mOut, kLA h2 62 0 q = q b.toInt64) :
    ∃ l7, mW (mRo 8 xs) mTab 240 830 [some (.ref 0), some (.ref 8), some (.ref 42), some (.ref 62), some (.ref 63), some (.int 0), none, none] [] h 0 = mW (mRo 8 xs) mTab 240 1980 [some (.ref 0), some (.ref 8), some (.ref 42), some (.ref 62), some (.ref 63), some (.int 0), some (.int kk), l7] [] h2 x1 := by
  refine ⟨some (.int b), ?_⟩
  by_cases z7 : xs 7 = 0
  · rw [hz0 z7] at E1 E2
    rw [e240_830, e240_831, e240_832, e240_834, e240_835, e240_836, sc_1, e240_837, e240_838, e240_840, e240_841, e240_842, sc_2, e240_843, e240_844, e240_846, e240_847, e240_848, sc_3, e240_849, e240_850, e240_852, e240_853, e240_854, sc_4, e240_855, e240_856, e240_858, e240_859, e240_860, sc_5, e240_861, e240_862, e240_864, e240_866, e240_867, sc_6, e240_868, e240_869, e240_871, e240_873, e240_874, sc_7, e240_875, if_pos z7, e240_882, e240_883, e240_884 (by simp [Value.category]), E1]
    simp only [mAft, Option.toList_some, Option.toList_none, List.cons_append, List.nil_append]
    rw [e240_887, e240_889, e240_890, e240_891, e240_893, e240_894, e240_895, sc_1, e240_896, e240_897, e240_899, e240_900, e240_901, sc_2, e240_902, e240_903, e240_905, e240_906, e240_907, sc_3, e240_908, e240_909, e240_911, e240_912, e240_913, sc_4, e240_914, e240_915, e240_917, e240_918, e240_919, sc_5, e240_920, e240_921, e240_923, e240_925, e240_926, sc_6, e240_927, e240_928, e240_930, e240_932, e240_933, sc_7, e240_934, if_pos z7, e240_941, e240_942 (kR_eq X42) (by simp [Value.category]), E2]
    simp only [mAft, Option.toList_some, Option.toList_none, List.cons_append, List.nil_append]
    rw [e240_945, e240_947, e240_948 (kR_eq T1) (by simp [Value.category]), d_thrown T1 T2]
    simp only [mAft, Option.toList_some, Option.toList_none, List.cons_append, List.nil_append]
    rw [e240_951, e240_953, if_pos rfl]
    rw [e240_958, e240_960]
    by_cases z : kk = 0
    · rw [if_neg (not_not_intro z), e240_963, e240_964, e240_965, O z, e240_966, e240_968, e240_969, lg_same, e240_970, if_pos rfl, e240_975]
    · rw [if_pos z, e240_975]
  · rw [hz1 z7] at E1 E2
    rw [e240_830, e240_831, e240_832, e240_834, e240_835, e240_836, sc_1, e240_837, e240_838, e240_840, e240_841, e240_842, sc_2, e240_843, e240_844, e240_846, e240_847, e240_848, sc_3, e240_849, e240_850, e240_852, e240_853, e240_854, sc_4, e240_855, e240_856, e240_858, e240_859, e240_860, sc_5, e240_861, e240_862, e240_864, e240_866, e240_867, sc_6, e240_868, e240_869, e240_871, e240_873, e240_874, sc_7, e240_875, if_neg z7, e240_878, e240_879, e240_883, e240_884 (by simp [Value.category]), E1]
    simp only [mAft, Option.toList_some, Option.toList_none, List.cons_append, List.nil_append]
    rw [e240_887, e240_889, e240_890, e240_891, e240_893, e240_894, e240_895, sc_1, e240_896, e240_897, e240_899, e240_900, e240_901, sc_2, e240_902, e240_903, e240_905, e240_906, e240_907, sc_3, e240_908, e240_909, e240_911, e240_912, e240_913, sc_4, e240_914, e240_915, e240_917, e240_918, e240_919, sc_5, e240_920, e240_921, e240_923, e240_925, e240_926, sc_6, e240_927, e240_928, e240_930, e240_932, e240_933, sc_7, e240_934, if_neg z7, e240_937, e240_938, e240_942 (kR_eq X42) (by simp [Value.category]), E2]
    simp only [mAft, Option.toList_some, Option.toList_none, List.cons_append, List.nil_append]
    rw [e240_945, e240_947, e240_948 (kR_eq T1) (by simp [Value.category]), d_thrown T1 T2]
    simp only [mAft, Option.toList_some, Option.toList_none, List.cons_append, List.nil_append]
    rw [e240_951, e240_953, if_pos rfl]
    rw [e240_958, e240_960]
    by_cases z : kk = 0
    · rw [if_neg (not_not_intro z), e240_963, e240_964, e240_965, O z, e240_966, e240_968, e240_969, lg_same, e240_970, if_pos rfl, e240_975]
    · rw [if_pos z, e240_975]
theorem lc_12 {h h1 h2 : List mCel} {x1 : Nat} {kk b : Int32} {fs0 fs : List Value} {rv : Int32} (hz0 : xs 7 = 0 → rv = 0) (hz1 : xs 7 ≠ 0 → rv = 1) (E1 : mW (mRo 8 xs) mTab 232 0 [some (.ref 8), some (.int (xs 1)), some (.int (xs 2)), some (.int (xs 3)), some (.int (xs 4)), some (.int (xs 5)), some (.int (xs 6)), some (.int rv), some (.ref 62), none] [] h 0 = some (.inl (some (.int kk)), h1, x1)) (X42 : mCell h1 42 = some (.inr (11, fs0))) (E2 : mW (mRo 8 xs) mTab 78 0 [some (.ref 42), some (.int (xs 1)), some (.int (xs 2)), some (.int (xs 3)), some (.int (xs 4)), some (.int (xs 5)), some (.int (xs 6)), some (.int rv)] [] h1 x1 = some (.inl (some (.int b)), h2, x1)) (T1 : mCell h2 42 = some (.inr (11, fs))) (T2 : fs[45]? = some (.int kk)) (O : kk = 0 → ∀ q : Int64 → Option mOut, kLA h2 62 0 q = q b.toInt64) :
    ∃ l7, mW (mRo 8 xs) mTab 240 978 [some (.ref 0), some (.ref 8), some (.ref 42), some (.ref 62), some (.ref 63), some (.int 0), none, none] [] h 0 = mW (mRo 8 xs) mTab 240 1980 [some (.ref 0), some (.ref 8), some (.ref 42), some (.ref 62), some (.ref 63), some (.int 0), some (.int kk), l7] [] h2 x1 := by
  refine ⟨some (.int b), ?_⟩
  by_cases z7 : xs 7 = 0
  · rw [hz0 z7] at E1 E2
    rw [e240_978, e240_979, e240_980, e240_982, e240_983, e240_984, sc_1, e240_985, e240_986, e240_988, e240_989, e240_990, sc_2, e240_991, e240_992, e240_994, e240_995, e240_996, sc_3, e240_997, e240_998, e240_1000, e240_1001, e240_1002, sc_4, e240_1003, e240_1004, e240_1006, e240_1007, e240_1008, sc_5, e240_1009, e240_1010, e240_1012, e240_1014, e240_1015, sc_6, e240_1016, e240_1017, e240_1019, e240_1021, e240_1022, sc_7, e240_1023, if_pos z7, e240_1030, e240_1031, e240_1032 (by simp [Value.category]), E1]
    simp only [mAft, Option.toList_some, Option.toList_none, List.cons_append, List.nil_append]
    rw [e240_1035, e240_1037, e240_1038, e240_1039, e240_1041, e240_1042, e240_1043, sc_1, e240_1044, e240_1045, e240_1047, e240_1048, e240_1049, sc_2, e240_1050, e240_1051, e240_1053, e240_1054, e240_1055, sc_3, e240_1056, e240_1057, e240_1059, e240_1060, e240_1061, sc_4, e240_1062, e240_1063, e240_1065, e240_1066, e240_1067, sc_5, e240_1068, e240_1069, e240_1071, e240_1073, e240_1074, sc_6, e240_1075, e240_1076, e240_1078, e240_1080, e240_1081, sc_7, e240_1082, if_pos z7, e240_1089, e240_1090 (kR_eq X42) (by simp [Value.category]), E2]
    simp only [mAft, Option.toList_some, Option.toList_none, List.cons_append, List.nil_append]
    rw [e240_1093, e240_1095, e240_1096 (kR_eq T1) (by simp [Value.category]), d_thrown T1 T2]
    simp only [mAft, Option.toList_some, Option.toList_none, List.cons_append, List.nil_append]
    rw [e240_1099, e240_1101, if_pos rfl]
    rw [e240_1106, e240_1108]
    by_cases z : kk = 0
    · rw [if_neg (not_not_intro z), e240_1111, e240_1112, e240_1113, O z, e240_1114, e240_1116, e240_1117, lg_same, e240_1118, if_pos rfl, e240_1123]
    · rw [if_pos z, e240_1123]
  · rw [hz1 z7] at E1 E2
    rw [e240_978, e240_979, e240_980, e240_982, e240_983, e240_984, sc_1, e240_985, e240_986, e240_988, e240_989, e240_990, sc_2, e240_991, e240_992, e240_994, e240_995, e240_996, sc_3, e240_997, e240_998, e240_1000, e240_1001, e240_1002, sc_4, e240_1003, e240_1004, e240_1006, e240_1007, e240_1008, sc_5, e240_1009, e240_1010, e240_1012, e240_1014, e240_1015, sc_6, e240_1016, e240_1017, e240_1019, e240_1021, e240_1022, sc_7, e240_1023, if_neg z7, e240_1026, e240_1027, e240_1031, e240_1032 (by simp [Value.category]), E1]
    simp only [mAft, Option.toList_some, Option.toList_none, List.cons_append, List.nil_append]
    rw [e240_1035, e240_1037, e240_1038, e240_1039, e240_1041, e240_1042, e240_1043, sc_1, e240_1044, e240_1045, e240_1047, e240_1048, e240_1049, sc_2, e240_1050, e240_1051, e240_1053, e240_1054, e240_1055, sc_3, e240_1056, e240_1057, e240_1059, e240_1060, e240_1061, sc_4, e240_1062, e240_1063, e240_1065, e240_1066, e240_1067, sc_5, e240_1068, e240_1069, e240_1071, e240_1073, e240_1074, sc_6, e240_1075, e240_1076, e240_1078, e240_1080, e240_1081, sc_7, e240_1082, if_neg z7, e240_1085, e240_1086, e240_1090 (kR_eq X42) (by simp [Value.category]), E2]
    simp only [mAft, Option.toList_some, Option.toList_none, List.cons_append, List.nil_append]
    rw [e240_1093, e240_1095, e240_1096 (kR_eq T1) (by simp [Value.category]), d_thrown T1 T2]
    simp only [mAft, Option.toList_some, Option.toList_none, List.cons_append, List.nil_append]
    rw [e240_1099, e240_1101, if_pos rfl]
    rw [e240_1106, e240_1108]
    by_cases z : kk = 0
    · rw [if_neg (not_not_intro z), e240_1111, e240_1112, e240_1113, O z, e240_1114, e240_1116, e240_1117, lg_same, e240_1118, if_pos rfl, e240_1123]
    · rw [if_pos z, e240_1123]
theorem lc_13 {h h1 h2 : List mCel} {x1 : Nat} {kk b : Int32} {fs0 fs : List Value} {rv : Int32} (hz0 : xs 7 = 0 → rv = 0) (hz1 : xs 7 ≠ 0 → rv = 1) (E1 : mW (mRo 8 xs) mTab 244 0 [some (.ref 8), some (.int (xs 1)), some (.int (xs 2)), some (.int (xs 3)), some (.int (xs 4)), some (.int (xs 5)), some (.int (xs 6)), some (.int rv), some (.ref 62), none] [] h 0 = some (.inl (some (.int kk)), h1, x1)) (X42 : mCell h1 42 = some (.inr (11, fs0))) (E2 : mW (mRo 8 xs) mTab 121 0 [some (.ref 42), some (.int (xs 1)), some (.int (xs 2)), some (.int (xs 3)), some (.int (xs 4)), some (.int (xs 5)), some (.int (xs 6)), some (.int rv), none, none, none, none] [] h1 x1 = some (.inl (some (.int b)), h2, x1)) (T1 : mCell h2 42 = some (.inr (11, fs))) (T2 : fs[45]? = some (.int kk)) (O : kk = 0 → ∀ q : Int64 → Option mOut, kLA h2 62 0 q = q b.toInt64) :
    ∃ l7, mW (mRo 8 xs) mTab 240 1126 [some (.ref 0), some (.ref 8), some (.ref 42), some (.ref 62), some (.ref 63), some (.int 0), none, none] [] h 0 = mW (mRo 8 xs) mTab 240 1980 [some (.ref 0), some (.ref 8), some (.ref 42), some (.ref 62), some (.ref 63), some (.int 0), some (.int kk), l7] [] h2 x1 := by
  refine ⟨some (.int b), ?_⟩
  by_cases z7 : xs 7 = 0
  · rw [hz0 z7] at E1 E2
    rw [e240_1126, e240_1127, e240_1128, e240_1130, e240_1131, e240_1132, sc_1, e240_1133, e240_1134, e240_1136, e240_1137, e240_1138, sc_2, e240_1139, e240_1140, e240_1142, e240_1143, e240_1144, sc_3, e240_1145, e240_1146, e240_1148, e240_1149, e240_1150, sc_4, e240_1151, e240_1152, e240_1154, e240_1155, e240_1156, sc_5, e240_1157, e240_1158, e240_1160, e240_1162, e240_1163, sc_6, e240_1164, e240_1165, e240_1167, e240_1169, e240_1170, sc_7, e240_1171, if_pos z7, e240_1178, e240_1179, e240_1180 (by simp [Value.category]), E1]
    simp only [mAft, Option.toList_some, Option.toList_none, List.cons_append, List.nil_append]
    rw [e240_1183, e240_1185, e240_1186, e240_1187, e240_1189, e240_1190, e240_1191, sc_1, e240_1192, e240_1193, e240_1195, e240_1196, e240_1197, sc_2, e240_1198, e240_1199, e240_1201, e240_1202, e240_1203, sc_3, e240_1204, e240_1205, e240_1207, e240_1208, e240_1209, sc_4, e240_1210, e240_1211, e240_1213, e240_1214, e240_1215, sc_5, e240_1216, e240_1217, e240_1219, e240_1221, e240_1222, sc_6, e240_1223, e240_1224, e240_1226, e240_1228, e240_1229, sc_7, e240_1230, if_pos z7, e240_1237, e240_1238 (kR_eq X42) (by simp [Value.category]), E2]
    simp only [mAft, Option.toList_some, Option.toList_none, List.cons_append, List.nil_append]
    rw [e240_1241, e240_1243, e240_1244 (kR_eq T1) (by simp [Value.category]), d_thrown T1 T2]
    simp only [mAft, Option.toList_some, Option.toList_none, List.cons_append, List.nil_append]
    rw [e240_1247, e240_1249, if_pos rfl]
    rw [e240_1254, e240_1256]
    by_cases z : kk = 0
    · rw [if_neg (not_not_intro z), e240_1259, e240_1260, e240_1261, O z, e240_1262, e240_1264, e240_1265, lg_same, e240_1266, if_pos rfl, e240_1271]
    · rw [if_pos z, e240_1271]
  · rw [hz1 z7] at E1 E2
    rw [e240_1126, e240_1127, e240_1128, e240_1130, e240_1131, e240_1132, sc_1, e240_1133, e240_1134, e240_1136, e240_1137, e240_1138, sc_2, e240_1139, e240_1140, e240_1142, e240_1143, e240_1144, sc_3, e240_1145, e240_1146, e240_1148, e240_1149, e240_1150, sc_4, e240_1151, e240_1152, e240_1154, e240_1155, e240_1156, sc_5, e240_1157, e240_1158, e240_1160, e240_1162, e240_1163, sc_6, e240_1164, e240_1165, e240_1167, e240_1169, e240_1170, sc_7, e240_1171, if_neg z7, e240_1174, e240_1175, e240_1179, e240_1180 (by simp [Value.category]), E1]
    simp only [mAft, Option.toList_some, Option.toList_none, List.cons_append, List.nil_append]
    rw [e240_1183, e240_1185, e240_1186, e240_1187, e240_1189, e240_1190, e240_1191, sc_1, e240_1192, e240_1193, e240_1195, e240_1196, e240_1197, sc_2, e240_1198, e240_1199, e240_1201, e240_1202, e240_1203, sc_3, e240_1204, e240_1205, e240_1207, e240_1208, e240_1209, sc_4, e240_1210, e240_1211, e240_1213, e240_1214, e240_1215, sc_5, e240_1216, e240_1217, e240_1219, e240_1221, e240_1222, sc_6, e240_1223, e240_1224, e240_1226, e240_1228, e240_1229, sc_7, e240_1230, if_neg z7, e240_1233, e240_1234, e240_1238 (kR_eq X42) (by simp [Value.category]), E2]
    simp only [mAft, Option.toList_some, Option.toList_none, List.cons_append, List.nil_append]
    rw [e240_1241, e240_1243, e240_1244 (kR_eq T1) (by simp [Value.category]), d_thrown T1 T2]
    simp only [mAft, Option.toList_some, Option.toList_none, List.cons_append, List.nil_append]
    rw [e240_1247, e240_1249, if_pos rfl]
    rw [e240_1254, e240_1256]
    by_cases z : kk = 0
    · rw [if_neg (not_not_intro z), e240_1259, e240_1260, e240_1261, O z, e240_1262, e240_1264, e240_1265, lg_same, e240_1266, if_pos rfl, e240_1271]
    · rw [if_pos z, e240_1271]
theorem lc_14 {h h1 h2 : List mCel} {x1 : Nat} {kk : Int32} {fs0 fs : List Value} (E1 : mW (mRo 8 xs) mTab 230 0 [some (.ref 8), some (.int (xs 1)), some (.int (xs 2)), some (.int (xs 3)), none] [] h 0 = some (.inl (some (.int kk)), h1, x1)) (X42 : mCell h1 42 = some (.inr (11, fs0))) (E2 : mW (mRo 8 xs) mTab 72 0 [some (.ref 42), some (.int (xs 1)), some (.int (xs 2)), some (.int (xs 3)), none] [] h1 x1 = some (.inl none, h2, x1)) (T1 : mCell h2 42 = some (.inr (11, fs))) (T2 : fs[45]? = some (.int kk)) :
    ∃ l7, mW (mRo 8 xs) mTab 240 1274 [some (.ref 0), some (.ref 8), some (.ref 42), some (.ref 62), some (.ref 63), some (.int 0), none, none] [] h 0 = mW (mRo 8 xs) mTab 240 1980 [some (.ref 0), some (.ref 8), some (.ref 42), some (.ref 62), some (.ref 63), some (.int 0), some (.int kk), l7] [] h2 x1 := by
  refine ⟨none, ?_⟩
  rw [e240_1274, e240_1275, e240_1276, e240_1278, e240_1279, e240_1280, sc_1, e240_1281, e240_1282, e240_1284, e240_1285, e240_1286, sc_2, e240_1287, e240_1288, e240_1290, e240_1291, e240_1292, sc_3, e240_1293 (by simp [Value.category]), E1]
  simp only [mAft, Option.toList_some, Option.toList_none, List.cons_append, List.nil_append]
  rw [e240_1296, e240_1298, e240_1299, e240_1300, e240_1302, e240_1303, e240_1304, sc_1, e240_1305, e240_1306, e240_1308, e240_1309, e240_1310, sc_2, e240_1311, e240_1312, e240_1314, e240_1315, e240_1316, sc_3, e240_1317 (kR_eq X42) (by simp [Value.category]), E2]
  simp only [mAft, Option.toList_some, Option.toList_none, List.cons_append, List.nil_append]
  rw [e240_1320, e240_1321 (kR_eq T1) (by simp [Value.category]), d_thrown T1 T2]
  simp only [mAft, Option.toList_some, Option.toList_none, List.cons_append, List.nil_append]
  rw [e240_1324, e240_1326, if_pos rfl, e240_1331]
theorem lc_15 {h h1 h2 : List mCel} {x1 : Nat} {kk b : Int32} {fs0 fs : List Value} (E1 : mW (mRo 8 xs) mTab 236 0 [some (.ref 8), some (.int (xs 1)), some (.ref 62), none] [] h 0 = some (.inl (some (.int kk)), h1, x1)) (X42 : mCell h1 42 = some (.inr (11, fs0))) (E2 : mW (mRo 8 xs) mTab 86 0 [some (.ref 42), some (.int (xs 1)), none] [] h1 x1 = some (.inl (some (.int b)), h2, x1)) (T1 : mCell h2 42 = some (.inr (11, fs))) (T2 : fs[45]? = some (.int kk)) (O : kk = 0 → ∀ q : Int64 → Option mOut, kLA h2 62 0 q = q b.toInt64) :
    ∃ l7, mW (mRo 8 xs) mTab 240 1334 [some (.ref 0), some (.ref 8), some (.ref 42), some (.ref 62), some (.ref 63), some (.int 0), none, none] [] h 0 = mW (mRo 8 xs) mTab 240 1980 [some (.ref 0), some (.ref 8), some (.ref 42), some (.ref 62), some (.ref 63), some (.int 0), some (.int kk), l7] [] h2 x1 := by
  refine ⟨some (.int b), ?_⟩
  rw [e240_1334, e240_1335, e240_1336, e240_1338, e240_1339, e240_1340, sc_1, e240_1341, e240_1342 (by simp [Value.category]), E1]
  simp only [mAft, Option.toList_some, Option.toList_none, List.cons_append, List.nil_append]
  rw [e240_1345, e240_1347, e240_1348, e240_1349, e240_1351, e240_1352, e240_1353, sc_1, e240_1354 (kR_eq X42) (by simp [Value.category]), E2]
  simp only [mAft, Option.toList_some, Option.toList_none, List.cons_append, List.nil_append]
  rw [e240_1357, e240_1359, e240_1360 (kR_eq T1) (by simp [Value.category]), d_thrown T1 T2]
  simp only [mAft, Option.toList_some, Option.toList_none, List.cons_append, List.nil_append]
  rw [e240_1363, e240_1365, if_pos rfl]
  rw [e240_1370, e240_1372]
  by_cases z : kk = 0
  · rw [if_neg (not_not_intro z), e240_1375, e240_1376, e240_1377, O z, e240_1378, e240_1380, e240_1381, lg_same, e240_1382, if_pos rfl, e240_1387]
  · rw [if_pos z, e240_1387]
theorem lc_16 {h h1 h2 : List mCel} {x1 : Nat} {kk b : Int32} {fs0 fs : List Value} (E1 : mW (mRo 8 xs) mTab 239 0 [some (.ref 8), some (.ref 62), none] [] h 0 = some (.inl (some (.int kk)), h1, x1)) (X42 : mCell h1 42 = some (.inr (11, fs0))) (E2 : mW (mRo 8 xs) mTab 111 0 [some (.ref 42), none] [] h1 x1 = some (.inl (some (.int b)), h2, x1)) (T1 : mCell h2 42 = some (.inr (11, fs))) (T2 : fs[45]? = some (.int kk)) (O : kk = 0 → ∀ q : Int64 → Option mOut, kLA h2 62 0 q = q b.toInt64) :
    ∃ l7, mW (mRo 8 xs) mTab 240 1390 [some (.ref 0), some (.ref 8), some (.ref 42), some (.ref 62), some (.ref 63), some (.int 0), none, none] [] h 0 = mW (mRo 8 xs) mTab 240 1980 [some (.ref 0), some (.ref 8), some (.ref 42), some (.ref 62), some (.ref 63), some (.int 0), some (.int kk), l7] [] h2 x1 := by
  refine ⟨some (.int b), ?_⟩
  rw [e240_1390, e240_1391, e240_1392 (by simp [Value.category]), E1]
  simp only [mAft, Option.toList_some, Option.toList_none, List.cons_append, List.nil_append]
  rw [e240_1395, e240_1397, e240_1398 (kR_eq X42) (by simp [Value.category]), E2]
  simp only [mAft, Option.toList_some, Option.toList_none, List.cons_append, List.nil_append]
  rw [e240_1401, e240_1403, e240_1404 (kR_eq T1) (by simp [Value.category]), d_thrown T1 T2]
  simp only [mAft, Option.toList_some, Option.toList_none, List.cons_append, List.nil_append]
  rw [e240_1407, e240_1409, if_pos rfl]
  rw [e240_1414, e240_1416]
  by_cases z : kk = 0
  · rw [if_neg (not_not_intro z), e240_1419, e240_1420, e240_1421, O z, e240_1422, e240_1424, e240_1425, lg_same, e240_1426, if_pos rfl, e240_1431]
  · rw [if_pos z, e240_1431]
theorem lc_17 {h h1 h2 : List mCel} {x1 : Nat} {kk b : Int32} {fs0 fs : List Value} (E1 : mW (mRo 8 xs) mTab 249 0 [some (.ref 8), some (.int (xs 1)), some (.ref 62), none] [] h 0 = some (.inl (some (.int kk)), h1, x1)) (X42 : mCell h1 42 = some (.inr (11, fs0))) (E2 : mW (mRo 8 xs) mTab 129 0 [some (.ref 42), some (.int (xs 1)), none, none, none] [] h1 x1 = some (.inl (some (.int b)), h2, x1)) (T1 : mCell h2 42 = some (.inr (11, fs))) (T2 : fs[45]? = some (.int kk)) (O : kk = 0 → ∀ q : Int64 → Option mOut, kLA h2 62 0 q = q b.toInt64) :
    ∃ l7, mW (mRo 8 xs) mTab 240 1434 [some (.ref 0), some (.ref 8), some (.ref 42), some (.ref 62), some (.ref 63), some (.int 0), none, none] [] h 0 = mW (mRo 8 xs) mTab 240 1980 [some (.ref 0), some (.ref 8), some (.ref 42), some (.ref 62), some (.ref 63), some (.int 0), some (.int kk), l7] [] h2 x1 := by
  refine ⟨some (.int b), ?_⟩
  rw [e240_1434, e240_1435, e240_1436, e240_1438, e240_1439, e240_1440, sc_1, e240_1441, e240_1442 (by simp [Value.category]), E1]
  simp only [mAft, Option.toList_some, Option.toList_none, List.cons_append, List.nil_append]
  rw [e240_1445, e240_1447, e240_1448, e240_1449, e240_1451, e240_1452, e240_1453, sc_1, e240_1454 (kR_eq X42) (by simp [Value.category]), E2]
  simp only [mAft, Option.toList_some, Option.toList_none, List.cons_append, List.nil_append]
  rw [e240_1457, e240_1459, e240_1460 (kR_eq T1) (by simp [Value.category]), d_thrown T1 T2]
  simp only [mAft, Option.toList_some, Option.toList_none, List.cons_append, List.nil_append]
  rw [e240_1463, e240_1465, if_pos rfl]
  rw [e240_1470, e240_1472]
  by_cases z : kk = 0
  · rw [if_neg (not_not_intro z), e240_1475, e240_1476, e240_1477, O z, e240_1478, e240_1480, e240_1481, lg_same, e240_1482, if_pos rfl, e240_1487]
  · rw [if_pos z, e240_1487]
theorem lc_18 {h h1 h2 : List mCel} {x1 : Nat} {kk b : Int32} {fs0 fs : List Value} (E1 : mW (mRo 8 xs) mTab 245 0 [some (.ref 8), some (.int (xs 1)), some (.int (xs 2)), some (.ref 62), none] [] h 0 = some (.inl (some (.int kk)), h1, x1)) (X42 : mCell h1 42 = some (.inr (11, fs0))) (E2 : mW (mRo 8 xs) mTab 123 0 [some (.ref 42), some (.int (xs 1)), some (.int (xs 2))] [] h1 x1 = some (.inl (some (.int b)), h2, x1)) (T1 : mCell h2 42 = some (.inr (11, fs))) (T2 : fs[45]? = some (.int kk)) (O : kk = 0 → ∀ q : Int64 → Option mOut, kLA h2 62 0 q = q b.toInt64) :
    ∃ l7, mW (mRo 8 xs) mTab 240 1490 [some (.ref 0), some (.ref 8), some (.ref 42), some (.ref 62), some (.ref 63), some (.int 0), none, none] [] h 0 = mW (mRo 8 xs) mTab 240 1980 [some (.ref 0), some (.ref 8), some (.ref 42), some (.ref 62), some (.ref 63), some (.int 0), some (.int kk), l7] [] h2 x1 := by
  refine ⟨some (.int b), ?_⟩
  rw [e240_1490, e240_1491, e240_1492, e240_1494, e240_1495, e240_1496, sc_1, e240_1497, e240_1498, e240_1500, e240_1501, e240_1502, sc_2, e240_1503, e240_1504 (by simp [Value.category]), E1]
  simp only [mAft, Option.toList_some, Option.toList_none, List.cons_append, List.nil_append]
  rw [e240_1507, e240_1509, e240_1510, e240_1511, e240_1513, e240_1514, e240_1515, sc_1, e240_1516, e240_1517, e240_1519, e240_1520, e240_1521, sc_2, e240_1522 (kR_eq X42) (by simp [Value.category]), E2]
  simp only [mAft, Option.toList_some, Option.toList_none, List.cons_append, List.nil_append]
  rw [e240_1525, e240_1527, e240_1528 (kR_eq T1) (by simp [Value.category]), d_thrown T1 T2]
  simp only [mAft, Option.toList_some, Option.toList_none, List.cons_append, List.nil_append]
  rw [e240_1531, e240_1533, if_pos rfl]
  rw [e240_1538, e240_1540]
  by_cases z : kk = 0
  · rw [if_neg (not_not_intro z), e240_1543, e240_1544, e240_1545, O z, e240_1546, e240_1548, e240_1549, lg_same, e240_1550, if_pos rfl, e240_1555]
  · rw [if_pos z, e240_1555]
theorem lc_19 {h h1 h2 : List mCel} {x1 : Nat} {kk b : Int32} {fs0 fs : List Value} (E1 : mW (mRo 8 xs) mTab 242 0 [some (.ref 8), some (.int (xs 1)), some (.int (xs 2)), some (.ref 62), none] [] h 0 = some (.inl (some (.int kk)), h1, x1)) (X42 : mCell h1 42 = some (.inr (11, fs0))) (E2 : mW (mRo 8 xs) mTab 119 0 [some (.ref 42), some (.int (xs 1)), some (.int (xs 2))] [] h1 x1 = some (.inl (some (.int b)), h2, x1)) (T1 : mCell h2 42 = some (.inr (11, fs))) (T2 : fs[45]? = some (.int kk)) (O : kk = 0 → ∀ q : Int64 → Option mOut, kLA h2 62 0 q = q b.toInt64) :
    ∃ l7, mW (mRo 8 xs) mTab 240 1558 [some (.ref 0), some (.ref 8), some (.ref 42), some (.ref 62), some (.ref 63), some (.int 0), none, none] [] h 0 = mW (mRo 8 xs) mTab 240 1980 [some (.ref 0), some (.ref 8), some (.ref 42), some (.ref 62), some (.ref 63), some (.int 0), some (.int kk), l7] [] h2 x1 := by
  refine ⟨some (.int b), ?_⟩
  rw [e240_1558, e240_1559, e240_1560, e240_1562, e240_1563, e240_1564, sc_1, e240_1565, e240_1566, e240_1568, e240_1569, e240_1570, sc_2, e240_1571, e240_1572 (by simp [Value.category]), E1]
  simp only [mAft, Option.toList_some, Option.toList_none, List.cons_append, List.nil_append]
  rw [e240_1575, e240_1577, e240_1578, e240_1579, e240_1581, e240_1582, e240_1583, sc_1, e240_1584, e240_1585, e240_1587, e240_1588, e240_1589, sc_2, e240_1590 (kR_eq X42) (by simp [Value.category]), E2]
  simp only [mAft, Option.toList_some, Option.toList_none, List.cons_append, List.nil_append]
  rw [e240_1593, e240_1595, e240_1596 (kR_eq T1) (by simp [Value.category]), d_thrown T1 T2]
  simp only [mAft, Option.toList_some, Option.toList_none, List.cons_append, List.nil_append]
  rw [e240_1599, e240_1601, if_pos rfl]
  rw [e240_1606, e240_1608]
  by_cases z : kk = 0
  · rw [if_neg (not_not_intro z), e240_1611, e240_1612, e240_1613, O z, e240_1614, e240_1616, e240_1617, lg_same, e240_1618, if_pos rfl, e240_1623]
  · rw [if_pos z, e240_1623]
theorem lc_20 {h h1 h2 : List mCel} {x1 : Nat} {kk b : Int32} {fs0 fs : List Value} (E1 : mW (mRo 8 xs) mTab 247 0 [some (.ref 8), some (.int (xs 1)), some (.int (xs 2)), some (.ref 62), none] [] h 0 = some (.inl (some (.int kk)), h1, x1)) (X42 : mCell h1 42 = some (.inr (11, fs0))) (E2 : mW (mRo 8 xs) mTab 126 0 [some (.ref 42), some (.int (xs 1)), some (.int (xs 2))] [] h1 x1 = some (.inl (some (.int b)), h2, x1)) (T1 : mCell h2 42 = some (.inr (11, fs))) (T2 : fs[45]? = some (.int kk)) (O : kk = 0 → ∀ q : Int64 → Option mOut, kLA h2 62 0 q = q b.toInt64) :
    ∃ l7, mW (mRo 8 xs) mTab 240 1626 [some (.ref 0), some (.ref 8), some (.ref 42), some (.ref 62), some (.ref 63), some (.int 0), none, none] [] h 0 = mW (mRo 8 xs) mTab 240 1980 [some (.ref 0), some (.ref 8), some (.ref 42), some (.ref 62), some (.ref 63), some (.int 0), some (.int kk), l7] [] h2 x1 := by
  refine ⟨some (.int b), ?_⟩
  rw [e240_1626, e240_1627, e240_1628, e240_1630, e240_1631, e240_1632, sc_1, e240_1633, e240_1634, e240_1636, e240_1637, e240_1638, sc_2, e240_1639, e240_1640 (by simp [Value.category]), E1]
  simp only [mAft, Option.toList_some, Option.toList_none, List.cons_append, List.nil_append]
  rw [e240_1643, e240_1645, e240_1646, e240_1647, e240_1649, e240_1650, e240_1651, sc_1, e240_1652, e240_1653, e240_1655, e240_1656, e240_1657, sc_2, e240_1658 (kR_eq X42) (by simp [Value.category]), E2]
  simp only [mAft, Option.toList_some, Option.toList_none, List.cons_append, List.nil_append]
  rw [e240_1661, e240_1663, e240_1664 (kR_eq T1) (by simp [Value.category]), d_thrown T1 T2]
  simp only [mAft, Option.toList_some, Option.toList_none, List.cons_append, List.nil_append]
  rw [e240_1667, e240_1669, if_pos rfl]
  rw [e240_1674, e240_1676]
  by_cases z : kk = 0
  · rw [if_neg (not_not_intro z), e240_1679, e240_1680, e240_1681, O z, e240_1682, e240_1684, e240_1685, lg_same, e240_1686, if_pos rfl, e240_1691]
  · rw [if_pos z, e240_1691]
theorem lc_21 {h h1 h2 : List mCel} {x1 : Nat} {kk b : Int32} {fs0 fs : List Value} (E1 : mW (mRo 8 xs) mTab 248 0 [some (.ref 8), some (.int (xs 1)), some (.int (xs 2)), some (.ref 62), none] [] h 0 = some (.inl (some (.int kk)), h1, x1)) (X42 : mCell h1 42 = some (.inr (11, fs0))) (E2 : mW (mRo 8 xs) mTab 127 0 [some (.ref 42), some (.int (xs 1)), some (.int (xs 2)), none, none, none] [] h1 x1 = some (.inl (some (.int b)), h2, x1)) (T1 : mCell h2 42 = some (.inr (11, fs))) (T2 : fs[45]? = some (.int kk)) (O : kk = 0 → ∀ q : Int64 → Option mOut, kLA h2 62 0 q = q b.toInt64) :
    ∃ l7, mW (mRo 8 xs) mTab 240 1694 [some (.ref 0), some (.ref 8), some (.ref 42), some (.ref 62), some (.ref 63), some (.int 0), none, none] [] h 0 = mW (mRo 8 xs) mTab 240 1980 [some (.ref 0), some (.ref 8), some (.ref 42), some (.ref 62), some (.ref 63), some (.int 0), some (.int kk), l7] [] h2 x1 := by
  refine ⟨some (.int b), ?_⟩
  rw [e240_1694, e240_1695, e240_1696, e240_1698, e240_1699, e240_1700, sc_1, e240_1701, e240_1702, e240_1704, e240_1705, e240_1706, sc_2, e240_1707, e240_1708 (by simp [Value.category]), E1]
  simp only [mAft, Option.toList_some, Option.toList_none, List.cons_append, List.nil_append]
  rw [e240_1711, e240_1713, e240_1714, e240_1715, e240_1717, e240_1718, e240_1719, sc_1, e240_1720, e240_1721, e240_1723, e240_1724, e240_1725, sc_2, e240_1726 (kR_eq X42) (by simp [Value.category]), E2]
  simp only [mAft, Option.toList_some, Option.toList_none, List.cons_append, List.nil_append]
  rw [e240_1729, e240_1731, e240_1732 (kR_eq T1) (by simp [Value.category]), d_thrown T1 T2]
  simp only [mAft, Option.toList_some, Option.toList_none, List.cons_append, List.nil_append]
  rw [e240_1735, e240_1737, if_pos rfl]
  rw [e240_1742, e240_1744]
  by_cases z : kk = 0
  · rw [if_neg (not_not_intro z), e240_1747, e240_1748, e240_1749, O z, e240_1750, e240_1752, e240_1753, lg_same, e240_1754, if_pos rfl, e240_1759]
  · rw [if_pos z, e240_1759]
theorem lc_22 {h h1 h2 : List mCel} {x1 : Nat} {kk : Int32} {fs0 fs : List Value} (E1 : mW (mRo 8 xs) mTab 251 0 [some (.ref 8), some (.int (xs 1)), some (.int (xs 2)), some (.int (xs 3)), some (.int (xs 4)), none] [] h 0 = some (.inl (some (.int kk)), h1, x1)) (X42 : mCell h1 42 = some (.inr (11, fs0))) (E2 : mW (mRo 8 xs) mTab 132 0 [some (.ref 42), some (.int (xs 1)), some (.int (xs 2)), some (.int (xs 3)), some (.int (xs 4))] [] h1 x1 = some (.inl none, h2, x1)) (T1 : mCell h2 42 = some (.inr (11, fs))) (T2 : fs[45]? = some (.int kk)) :
    ∃ l7, mW (mRo 8 xs) mTab 240 1762 [some (.ref 0), some (.ref 8), some (.ref 42), some (.ref 62), some (.ref 63), some (.int 0), none, none] [] h 0 = mW (mRo 8 xs) mTab 240 1980 [some (.ref 0), some (.ref 8), some (.ref 42), some (.ref 62), some (.ref 63), some (.int 0), some (.int kk), l7] [] h2 x1 := by
  refine ⟨none, ?_⟩
  rw [e240_1762, e240_1763, e240_1764, e240_1766, e240_1767, e240_1768, sc_1, e240_1769, e240_1770, e240_1772, e240_1773, e240_1774, sc_2, e240_1775, e240_1776, e240_1778, e240_1779, e240_1780, sc_3, e240_1781, e240_1782, e240_1784, e240_1785, e240_1786, sc_4, e240_1787 (by simp [Value.category]), E1]
  simp only [mAft, Option.toList_some, Option.toList_none, List.cons_append, List.nil_append]
  rw [e240_1790, e240_1792, e240_1793, e240_1794, e240_1796, e240_1797, e240_1798, sc_1, e240_1799, e240_1800, e240_1802, e240_1803, e240_1804, sc_2, e240_1805, e240_1806, e240_1808, e240_1809, e240_1810, sc_3, e240_1811, e240_1812, e240_1814, e240_1815, e240_1816, sc_4, e240_1817 (kR_eq X42) (by simp [Value.category]), E2]
  simp only [mAft, Option.toList_some, Option.toList_none, List.cons_append, List.nil_append]
  rw [e240_1820, e240_1821 (kR_eq T1) (by simp [Value.category]), d_thrown T1 T2]
  simp only [mAft, Option.toList_some, Option.toList_none, List.cons_append, List.nil_append]
  rw [e240_1824, e240_1826, if_pos rfl, e240_1831]
theorem lc_24 {h h1 h2 : List mCel} {x1 : Nat} {kk b : Int32} {fs0 fs : List Value} (E1 : mW (mRo 8 xs) mTab 243 0 [some (.ref 8), some (.int (xs 1)), some (.ref 62), none] [] h 0 = some (.inl (some (.int kk)), h1, x1)) (X42 : mCell h1 42 = some (.inr (11, fs0))) (E2 : mW (mRo 8 xs) mTab 120 0 [some (.ref 42), some (.int (xs 1)), none, none] [] h1 x1 = some (.inl (some (.int b)), h2, x1)) (T1 : mCell h2 42 = some (.inr (11, fs))) (T2 : fs[45]? = some (.int kk)) (O : kk = 0 → ∀ q : Int64 → Option mOut, kLA h2 62 0 q = q b.toInt64) :
    ∃ l7, mW (mRo 8 xs) mTab 240 1924 [some (.ref 0), some (.ref 8), some (.ref 42), some (.ref 62), some (.ref 63), some (.int 0), none, none] [] h 0 = mW (mRo 8 xs) mTab 240 1980 [some (.ref 0), some (.ref 8), some (.ref 42), some (.ref 62), some (.ref 63), some (.int 0), some (.int kk), l7] [] h2 x1 := by
  refine ⟨some (.int b), ?_⟩
  rw [e240_1924, e240_1925, e240_1926, e240_1928, e240_1929, e240_1930, sc_1, e240_1931, e240_1932 (by simp [Value.category]), E1]
  simp only [mAft, Option.toList_some, Option.toList_none, List.cons_append, List.nil_append]
  rw [e240_1935, e240_1937, e240_1938, e240_1939, e240_1941, e240_1942, e240_1943, sc_1, e240_1944 (kR_eq X42) (by simp [Value.category]), E2]
  simp only [mAft, Option.toList_some, Option.toList_none, List.cons_append, List.nil_append]
  rw [e240_1947, e240_1949, e240_1950 (kR_eq T1) (by simp [Value.category]), d_thrown T1 T2]
  simp only [mAft, Option.toList_some, Option.toList_none, List.cons_append, List.nil_append]
  rw [e240_1953, e240_1955, if_pos rfl]
  rw [e240_1960, e240_1962]
  by_cases z : kk = 0
  · rw [if_neg (not_not_intro z), e240_1965, e240_1966, e240_1967, O z, e240_1968, e240_1970, e240_1971, lg_same, e240_1972, if_pos rfl, e240_1977]
  · rw [if_pos z, e240_1977]
end
