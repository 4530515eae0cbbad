theorem e240_0 {ro : Nat → Nat × (Nat → Int32)} {l0 l1 l2 l3 l4 l5 l6 l7 : Option Value} {st : List Value} {h : List mCel}  : mW ro mTab 240 0 [l0, l1, l2, l3, l4, l5, l6, l7] st h 0 = mW ro mTab 240 3 [l0, l1, l2, l3, l4, l5, l6, l7] (.ref (8 + h.length) :: st) (h ++ [.inr (10, mFls TX11 11)]) 0 := (g_new rfl rfl rfl).trans rfl
theorem e240_3 {ro : Nat → Nat × (Nat → Int32)} {l0 l1 l2 l3 l4 l5 l6 l7 : Option Value} {st : List Value} {h : List mCel} {x : Nat} {v : Int32} : mW ro mTab 240 3 [l0, l1, l2, l3, l4, l5, l6, l7] (.int v :: st) h x = mW ro mTab 240 4 [l0, l1, l2, l3, l4, l5, l6, l7] (.int v :: .int v :: st) h x := (g_step rfl rfl rfl rfl).trans rfl
theorem e240_3r {ro : Nat → Nat × (Nat → Int32)} {l0 l1 l2 l3 l4 l5 l6 l7 : Option Value} {st : List Value} {h : List mCel} {x : Nat} {v : Nat} : mW ro mTab 240 3 [l0, l1, l2, l3, l4, l5, l6, l7] (.ref v :: st) h x = mW ro mTab 240 4 [l0, l1, l2, l3, l4, l5, l6, l7] (.ref v :: .ref v :: st) h x := (g_step rfl rfl rfl rfl).trans rfl
theorem e240_4 {ro : Nat → Nat × (Nat → Int32)} {l0 l1 l2 l3 l4 l5 l6 l7 : Option Value} {st : List Value} {h : List mCel} {x : Nat} {a0 : Nat} (hr : kR (mCell h a0) 10 = true) (hs : (st.map Value.category).sum ≤ 8) : mW ro mTab 240 4 [l0, l1, l2, l3, l4, l5, l6, l7] (.ref a0 :: st) h x = mAft (mW ro mTab) (mHd mM_240) 240 4 [l0, l1, l2, l3, l4, l5, l6, l7] st (mW ro mTab 47 0 [some (.ref a0), none] [] h x) := g_call rfl rfl rfl rfl rfl rfl (g_rcv rfl hr) hs
theorem e240_7 {ro : Nat → Nat × (Nat → Int32)} {l0 l1 l2 l3 l4 l5 l6 l7 : Option Value} {st : List Value} {h : List mCel} {x : Nat} {v : Nat} : mW ro mTab 240 7 [l0, l1, l2, l3, l4, l5, l6, l7] (.ref v :: st) h x = mW ro mTab 240 8 [l0, (some (.ref v)), l2, l3, l4, l5, l6, l7] st h x := (g_step rfl rfl rfl rfl).trans rfl
theorem e240_8 {ro : Nat → Nat × (Nat → Int32)} {l0 l1 l2 l3 l4 l5 l6 l7 : Option Value} {st : List Value} {h : List mCel}  : mW ro mTab 240 8 [l0, l1, l2, l3, l4, l5, l6, l7] st h 0 = mW ro mTab 240 11 [l0, l1, l2, l3, l4, l5, l6, l7] (.ref (8 + h.length) :: st) (h ++ [.inr (11, mFls TX12 46)]) 0 := (g_new rfl rfl rfl).trans rfl
theorem e240_11 {ro : Nat → Nat × (Nat → Int32)} {l0 l1 l2 l3 l4 l5 l6 l7 : Option Value} {st : List Value} {h : List mCel} {x : Nat} {v : Int32} : mW ro mTab 240 11 [l0, l1, l2, l3, l4, l5, l6, l7] (.int v :: st) h x = mW ro mTab 240 12 [l0, l1, l2, l3, l4, l5, l6, l7] (.int v :: .int v :: st) h x := (g_step rfl rfl rfl rfl).trans rfl
theorem e240_11r {ro : Nat → Nat × (Nat → Int32)} {l0 l1 l2 l3 l4 l5 l6 l7 : Option Value} {st : List Value} {h : List mCel} {x : Nat} {v : Nat} : mW ro mTab 240 11 [l0, l1, l2, l3, l4, l5, l6, l7] (.ref v :: st) h x = mW ro mTab 240 12 [l0, l1, l2, l3, l4, l5, l6, l7] (.ref v :: .ref v :: st) h x := (g_step rfl rfl rfl rfl).trans rfl
theorem e240_12 {ro : Nat → Nat × (Nat → Int32)} {l0 l1 l2 l3 l4 l5 l6 l7 : Option Value} {st : List Value} {h : List mCel} {x : Nat} {a0 : Nat} (hr : kR (mCell h a0) 11 = true) (hs : (st.map Value.category).sum ≤ 8) : mW ro mTab 240 12 [l0, l1, l2, l3, l4, l5, l6, l7] (.ref a0 :: st) h x = mAft (mW ro mTab) (mHd mM_240) 240 12 [l0, l1, l2, l3, l4, l5, l6, l7] st (mW ro mTab 101 0 [some (.ref a0)] [] h x) := g_call rfl rfl rfl rfl rfl rfl (g_rcv rfl hr) hs
theorem e240_15 {ro : Nat → Nat × (Nat → Int32)} {l0 l1 l2 l3 l4 l5 l6 l7 : Option Value} {st : List Value} {h : List mCel} {x : Nat} {v : Nat} : mW ro mTab 240 15 [l0, l1, l2, l3, l4, l5, l6, l7] (.ref v :: st) h x = mW ro mTab 240 16 [l0, l1, (some (.ref v)), l3, l4, l5, l6, l7] st h x := (g_step rfl rfl rfl rfl).trans rfl
theorem e240_16 {ro : Nat → Nat × (Nat → Int32)} {l0 l1 l2 l3 l4 l5 l6 l7 : Option Value} {st : List Value} {h : List mCel} {x : Nat}  : mW ro mTab 240 16 [l0, l1, l2, l3, l4, l5, l6, l7] st h x = mW ro mTab 240 17 [l0, l1, l2, l3, l4, l5, l6, l7] (.int 1 :: st) h x := (g_step rfl rfl rfl rfl).trans rfl
theorem e240_17 {ro : Nat → Nat × (Nat → Int32)} {l0 l1 l2 l3 l4 l5 l6 l7 : Option Value} {st : List Value} {h : List mCel} {v : Int32} (hv : 0 ≤ v.toInt ∧ v.toInt ≤ 1000000) : mW ro mTab 240 17 [l0, l1, l2, l3, l4, l5, l6, l7] (.int v :: st) h 0 = mW ro mTab 240 19 [l0, l1, l2, l3, l4, l5, l6, l7] (.ref (8 + h.length) :: st) (h ++ [.inl (3, mZero (mTy 3) v.toNatClampNeg)]) 0 := g_newarray rfl rfl hv
theorem e240_19 {ro : Nat → Nat × (Nat → Int32)} {l0 l1 l2 l3 l4 l5 l6 l7 : Option Value} {st : List Value} {h : List mCel} {x : Nat} {v : Nat} : mW ro mTab 240 19 [l0, l1, l2, l3, l4, l5, l6, l7] (.ref v :: st) h x = mW ro mTab 240 20 [l0, l1, l2, (some (.ref v)), l4, l5, l6, l7] st h x := (g_step rfl rfl rfl rfl).trans rfl
theorem e240_20 {ro : Nat → Nat × (Nat → Int32)} {l0 l1 l2 l3 l4 l5 l6 l7 : Option Value} {st : List Value} {h : List mCel} {x : Nat}  : mW ro mTab 240 20 [l0, l1, l2, l3, l4, l5, l6, l7] st h x = mW ro mTab 240 21 [l0, l1, l2, l3, l4, l5, l6, l7] (.int 1 :: st) h x := (g_step rfl rfl rfl rfl).trans rfl
theorem e240_21 {ro : Nat → Nat × (Nat → Int32)} {l0 l1 l2 l3 l4 l5 l6 l7 : Option Value} {st : List Value} {h : List mCel} {v : Int32} (hv : 0 ≤ v.toInt ∧ v.toInt ≤ 1000000) : mW ro mTab 240 21 [l0, l1, l2, l3, l4, l5, l6, l7] (.int v :: st) h 0 = mW ro mTab 240 23 [l0, l1, l2, l3, l4, l5, l6, l7] (.ref (8 + h.length) :: st) (h ++ [.inl (4, mZero (mTy 4) v.toNatClampNeg)]) 0 := g_newarray rfl rfl hv
theorem e240_23 {ro : Nat → Nat × (Nat → Int32)} {l0 l1 l2 l3 l4 l5 l6 l7 : Option Value} {st : List Value} {h : List mCel} {x : Nat} {v : Nat} : mW ro mTab 240 23 [l0, l1, l2, l3, l4, l5, l6, l7] (.ref v :: st) h x = mW ro mTab 240 25 [l0, l1, l2, l3, (some (.ref v)), l5, l6, l7] st h x := (g_step rfl rfl rfl rfl).trans rfl
theorem e240_25 {ro : Nat → Nat × (Nat → Int32)} {l0 l1 l2 l3 l4 l5 l6 l7 : Option Value} {st : List Value} {h : List mCel} {x : Nat}  : mW ro mTab 240 25 [l0, l1, l2, l3, l4, l5, l6, l7] st h x = mW ro mTab 240 26 [l0, l1, l2, l3, l4, l5, l6, l7] (.int 0 :: st) h x := (g_step rfl rfl rfl rfl).trans rfl
theorem e240_26 {ro : Nat → Nat × (Nat → Int32)} {l0 l1 l2 l3 l4 l5 l6 l7 : Option Value} {st : List Value} {h : List mCel} {x : Nat} {v : Int32} : mW ro mTab 240 26 [l0, l1, l2, l3, l4, l5, l6, l7] (.int v :: st) h x = mW ro mTab 240 28 [l0, l1, l2, l3, l4, (some (.int v)), l6, l7] st h x := (g_step rfl rfl rfl rfl).trans rfl
theorem e240_28 {ro : Nat → Nat × (Nat → Int32)} {l0 l1 l2 l3 l4 l6 l7 : Option Value} {st : List Value} {h : List mCel} {x : Nat} {v : Int32} : mW ro mTab 240 28 [l0, l1, l2, l3, l4, (some (.int v)), l6, l7] st h x = mW ro mTab 240 30 [l0, l1, l2, l3, l4, (some (.int v)), l6, l7] (.int v :: st) h x := (g_step rfl rfl rfl rfl).trans rfl
theorem e240_30 {ro : Nat → Nat × (Nat → Int32)} {l1 l2 l3 l4 l5 l6 l7 : Option Value} {st : List Value} {h : List mCel} {x : Nat} {v : Nat} : mW ro mTab 240 30 [(some (.ref v)), l1, l2, l3, l4, l5, l6, l7] st h x = mW ro mTab 240 31 [(some (.ref v)), l1, l2, l3, l4, l5, l6, l7] (.ref v :: st) h x := (g_step rfl rfl rfl rfl).trans rfl
theorem e240_31 {ro : Nat → Nat × (Nat → Int32)} {l0 l1 l2 l3 l4 l5 l6 l7 : Option Value} {st : List Value} {h : List mCel} {x : Nat} {a : Nat} : mW ro mTab 240 31 [l0, l1, l2, l3, l4, l5, l6, l7] (.ref a :: st) h x = kAL ro h a fun v => mW ro mTab 240 32 [l0, l1, l2, l3, l4, l5, l6, l7] (.int v :: st) h x := g_alen rfl rfl
theorem e240_32 {ro : Nat → Nat × (Nat → Int32)} {l0 l1 l2 l3 l4 l5 l6 l7 : Option Value} {st : List Value} {h : List mCel} {x : Nat}  : mW ro mTab 240 32 [l0, l1, l2, l3, l4, l5, l6, l7] st h x = mW ro mTab 240 34 [l0, l1, l2, l3, l4, l5, l6, l7] (.int 8 :: st) h x := (g_step rfl rfl rfl rfl).trans rfl
theorem e240_34 {ro : Nat → Nat × (Nat → Int32)} {l0 l1 l2 l3 l4 l5 l6 l7 : Option Value} {st : List Value} {h : List mCel} {x : Nat} {a b : Int32} : mW ro mTab 240 34 [l0, l1, l2, l3, l4, l5, l6, l7] (.int b :: .int a :: st) h x = mW ro mTab 240 35 [l0, l1, l2, l3, l4, l5, l6, l7] (.int (a - b) :: st) h x := (g_step rfl rfl rfl rfl).trans rfl
theorem e240_35 {ro : Nat → Nat × (Nat → Int32)} {l0 l1 l2 l3 l4 l5 l6 l7 : Option Value} {st : List Value} {h : List mCel} {x : Nat} {a b : Int32} : mW ro mTab 240 35 [l0, l1, l2, l3, l4, l5, l6, l7] (.int b :: .int a :: st) h x = if b < a then mW ro mTab 240 1986 [l0, l1, l2, l3, l4, l5, l6, l7] st h x else mW ro mTab 240 38 [l0, l1, l2, l3, l4, l5, l6, l7] st h x := g_icmp_gt rfl rfl rfl
theorem e240_38 {ro : Nat → Nat × (Nat → Int32)} {l1 l2 l3 l4 l5 l6 l7 : Option Value} {st : List Value} {h : List mCel} {x : Nat} {v : Nat} : mW ro mTab 240 38 [(some (.ref v)), l1, l2, l3, l4, l5, l6, l7] st h x = mW ro mTab 240 39 [(some (.ref v)), l1, l2, l3, l4, l5, l6, l7] (.ref v :: st) h x := (g_step rfl rfl rfl rfl).trans rfl
theorem e240_39 {ro : Nat → Nat × (Nat → Int32)} {l0 l1 l2 l3 l4 l6 l7 : Option Value} {st : List Value} {h : List mCel} {x : Nat} {v : Int32} : mW ro mTab 240 39 [l0, l1, l2, l3, l4, (some (.int v)), l6, l7] st h x = mW ro mTab 240 41 [l0, l1, l2, l3, l4, (some (.int v)), l6, l7] (.int v :: st) h x := (g_step rfl rfl rfl rfl).trans rfl
theorem e240_41 {ro : Nat → Nat × (Nat → Int32)} {l0 l1 l2 l3 l4 l5 l6 l7 : Option Value} {st : List Value} {h : List mCel} {x : Nat} {a : Nat} {j : Int32} : mW ro mTab 240 41 [l0, l1, l2, l3, l4, l5, l6, l7] (.int j :: .ref a :: st) h x = kIA ro h a j fun v => mW ro mTab 240 42 [l0, l1, l2, l3, l4, l5, l6, l7] (.int v :: st) h x := g_iaload rfl rfl
theorem e240_42 {ro : Nat → Nat × (Nat → Int32)} {l0 l1 l2 l3 l4 l5 l6 l7 : Option Value} {st : List Value} {h : List mCel} {x : Nat}  : mW ro mTab 240 42 [l0, l1, l2, l3, l4, l5, l6, l7] st h x = mW ro mTab 240 44 [l0, l1, l2, l3, l4, l5, l6, l7] (.int 31 :: st) h x := (g_step rfl rfl rfl rfl).trans rfl
theorem e240_44 {ro : Nat → Nat × (Nat → Int32)} {l0 l1 l2 l3 l4 l5 l6 l7 : Option Value} {st : List Value} {h : List mCel} {x : Nat} {a b : Int32} : mW ro mTab 240 44 [l0, l1, l2, l3, l4, l5, l6, l7] (.int b :: .int a :: st) h x = mW ro mTab 240 45 [l0, l1, l2, l3, l4, l5, l6, l7] (.int (a &&& b) :: st) h x := (g_step rfl rfl rfl rfl).trans rfl
theorem e240_160 {ro : Nat → Nat × (Nat → Int32)} {l0 l2 l3 l4 l5 l6 l7 : Option Value} {st : List Value} {h : List mCel} {x : Nat} {v : Nat} : mW ro mTab 240 160 [l0, (some (.ref v)), l2, l3, l4, l5, l6, l7] st h x = mW ro mTab 240 161 [l0, (some (.ref v)), l2, l3, l4, l5, l6, l7] (.ref v :: st) h x := (g_step rfl rfl rfl rfl).trans rfl
theorem e240_161 {ro : Nat → Nat × (Nat → Int32)} {l1 l2 l3 l4 l5 l6 l7 : Option Value} {st : List Value} {h : List mCel} {x : Nat} {v : Nat} : mW ro mTab 240 161 [(some (.ref v)), l1, l2, l3, l4, l5, l6, l7] st h x = mW ro mTab 240 162 [(some (.ref v)), l1, l2, l3, l4, l5, l6, l7] (.ref v :: st) h x := (g_step rfl rfl rfl rfl).trans rfl
theorem e240_162 {ro : Nat → Nat × (Nat → Int32)} {l0 l1 l2 l3 l4 l6 l7 : Option Value} {st : List Value} {h : List mCel} {x : Nat} {v : Int32} : mW ro mTab 240 162 [l0, l1, l2, l3, l4, (some (.int v)), l6, l7] st h x = mW ro mTab 240 164 [l0, l1, l2, l3, l4, (some (.int v)), l6, l7] (.int v :: st) h x := (g_step rfl rfl rfl rfl).trans rfl
theorem e240_164 {ro : Nat → Nat × (Nat → Int32)} {l0 l1 l2 l3 l4 l5 l6 l7 : Option Value} {st : List Value} {h : List mCel} {x : Nat}  : mW ro mTab 240 164 [l0, l1, l2, l3, l4, l5, l6, l7] st h x = mW ro mTab 240 165 [l0, l1, l2, l3, l4, l5, l6, l7] (.int 1 :: st) h x := (g_step rfl rfl rfl rfl).trans rfl
theorem e240_165 {ro : Nat → Nat × (Nat → Int32)} {l0 l1 l2 l3 l4 l5 l6 l7 : Option Value} {st : List Value} {h : List mCel} {x : Nat} {a b : Int32} : mW ro mTab 240 165 [l0, l1, l2, l3, l4, l5, l6, l7] (.int b :: .int a :: st) h x = mW ro mTab 240 166 [l0, l1, l2, l3, l4, l5, l6, l7] (.int (a + b) :: st) h x := (g_step rfl rfl rfl rfl).trans rfl
theorem e240_166 {ro : Nat → Nat × (Nat → Int32)} {l0 l1 l2 l3 l4 l5 l6 l7 : Option Value} {st : List Value} {h : List mCel} {x : Nat} {a : Nat} {j : Int32} : mW ro mTab 240 166 [l0, l1, l2, l3, l4, l5, l6, l7] (.int j :: .ref a :: st) h x = kIA ro h a j fun v => mW ro mTab 240 167 [l0, l1, l2, l3, l4, l5, l6, l7] (.int v :: st) h x := g_iaload rfl rfl
theorem e240_167 {ro : Nat → Nat × (Nat → Int32)} {l1 l2 l3 l4 l5 l6 l7 : Option Value} {st : List Value} {h : List mCel} {x : Nat} {v : Nat} : mW ro mTab 240 167 [(some (.ref v)), l1, l2, l3, l4, l5, l6, l7] st h x = mW ro mTab 240 168 [(some (.ref v)), l1, l2, l3, l4, l5, l6, l7] (.ref v :: st) h x := (g_step rfl rfl rfl rfl).trans rfl
theorem e240_168 {ro : Nat → Nat × (Nat → Int32)} {l0 l1 l2 l3 l4 l6 l7 : Option Value} {st : List Value} {h : List mCel} {x : Nat} {v : Int32} : mW ro mTab 240 168 [l0, l1, l2, l3, l4, (some (.int v)), l6, l7] st h x = mW ro mTab 240 170 [l0, l1, l2, l3, l4, (some (.int v)), l6, l7] (.int v :: st) h x := (g_step rfl rfl rfl rfl).trans rfl
theorem e240_170 {ro : Nat → Nat × (Nat → Int32)} {l0 l1 l2 l3 l4 l5 l6 l7 : Option Value} {st : List Value} {h : List mCel} {x : Nat}  : mW ro mTab 240 170 [l0, l1, l2, l3, l4, l5, l6, l7] st h x = mW ro mTab 240 171 [l0, l1, l2, l3, l4, l5, l6, l7] (.int 2 :: st) h x := (g_step rfl rfl rfl rfl).trans rfl
theorem e240_171 {ro : Nat → Nat × (Nat → Int32)} {l0 l1 l2 l3 l4 l5 l6 l7 : Option Value} {st : List Value} {h : List mCel} {x : Nat} {a b : Int32} : mW ro mTab 240 171 [l0, l1, l2, l3, l4, l5, l6, l7] (.int b :: .int a :: st) h x = mW ro mTab 240 172 [l0, l1, l2, l3, l4, l5, l6, l7] (.int (a + b) :: st) h x := (g_step rfl rfl rfl rfl).trans rfl
theorem e240_172 {ro : Nat → Nat × (Nat → Int32)} {l0 l1 l2 l3 l4 l5 l6 l7 : Option Value} {st : List Value} {h : List mCel} {x : Nat} {a : Nat} {j : Int32} : mW ro mTab 240 172 [l0, l1, l2, l3, l4, l5, l6, l7] (.int j :: .ref a :: st) h x = kIA ro h a j fun v => mW ro mTab 240 173 [l0, l1, l2, l3, l4, l5, l6, l7] (.int v :: st) h x := g_iaload rfl rfl
theorem e240_173 {ro : Nat → Nat × (Nat → Int32)} {l0 l1 l2 l4 l5 l6 l7 : Option Value} {st : List Value} {h : List mCel} {x : Nat} {v : Nat} : mW ro mTab 240 173 [l0, l1, l2, (some (.ref v)), l4, l5, l6, l7] st h x = mW ro mTab 240 174 [l0, l1, l2, (some (.ref v)), l4, l5, l6, l7] (.ref v :: st) h x := (g_step rfl rfl rfl rfl).trans rfl
theorem e240_174 {ro : Nat → Nat × (Nat → Int32)} {l0 l1 l2 l3 l4 l5 l6 l7 : Option Value} {st : List Value} {h : List mCel} {x : Nat} {a0 : Nat} {a1 : Int32} {a2 : Int32} {a3 : Nat} (hs : (st.map Value.category).sum ≤ 8) : mW ro mTab 240 174 [l0, l1, l2, l3, l4, l5, l6, l7] (.ref a3 :: .int a2 :: .int a1 :: .ref a0 :: st) h x = mAft (mW ro mTab) (mHd mM_240) 240 174 [l0, l1, l2, l3, l4, l5, l6, l7] st (mW ro mTab 234 0 [some (.ref a0), some (.int a1), some (.int a2), some (.ref a3), none] [] h x) := g_call rfl rfl rfl rfl rfl rfl rfl hs
theorem e240_177 {ro : Nat → Nat × (Nat → Int32)} {l0 l1 l2 l3 l4 l5 l6 l7 : Option Value} {st : List Value} {h : List mCel} {x : Nat} {v : Int32} : mW ro mTab 240 177 [l0, l1, l2, l3, l4, l5, l6, l7] (.int v :: st) h x = mW ro mTab 240 179 [l0, l1, l2, l3, l4, l5, (some (.int v)), l7] st h x := (g_step rfl rfl rfl rfl).trans rfl
theorem e240_179 {ro : Nat → Nat × (Nat → Int32)} {l0 l1 l3 l4 l5 l6 l7 : Option Value} {st : List Value} {h : List mCel} {x : Nat} {v : Nat} : mW ro mTab 240 179 [l0, l1, (some (.ref v)), l3, l4, l5, l6, l7] st h x = mW ro mTab 240 180 [l0, l1, (some (.ref v)), l3, l4, l5, l6, l7] (.ref v :: st) h x := (g_step rfl rfl rfl rfl).trans rfl
theorem e240_180 {ro : Nat → Nat × (Nat → Int32)} {l1 l2 l3 l4 l5 l6 l7 : Option Value} {st : List Value} {h : List mCel} {x : Nat} {v : Nat} : mW ro mTab 240 180 [(some (.ref v)), l1, l2, l3, l4, l5, l6, l7] st h x = mW ro mTab 240 181 [(some (.ref v)), l1, l2, l3, l4, l5, l6, l7] (.ref v :: st) h x := (g_step rfl rfl rfl rfl).trans rfl
theorem e240_181 {ro : Nat → Nat × (Nat → Int32)} {l0 l1 l2 l3 l4 l6 l7 : Option Value} {st : List Value} {h : List mCel} {x : Nat} {v : Int32} : mW ro mTab 240 181 [l0, l1, l2, l3, l4, (some (.int v)), l6, l7] st h x = mW ro mTab 240 183 [l0, l1, l2, l3, l4, (some (.int v)), l6, l7] (.int v :: st) h x := (g_step rfl rfl rfl rfl).trans rfl
theorem e240_183 {ro : Nat → Nat × (Nat → Int32)} {l0 l1 l2 l3 l4 l5 l6 l7 : Option Value} {st : List Value} {h : List mCel} {x : Nat}  : mW ro mTab 240 183 [l0, l1, l2, l3, l4, l5, l6, l7] st h x = mW ro mTab 240 184 [l0, l1, l2, l3, l4, l5, l6, l7] (.int 1 :: st) h x := (g_step rfl rfl rfl rfl).trans rfl
theorem e240_184 {ro : Nat → Nat × (Nat → Int32)} {l0 l1 l2 l3 l4 l5 l6 l7 : Option Value} {st : List Value} {h : List mCel} {x : Nat} {a b : Int32} : mW ro mTab 240 184 [l0, l1, l2, l3, l4, l5, l6, l7] (.int b :: .int a :: st) h x = mW ro mTab 240 185 [l0, l1, l2, l3, l4, l5, l6, l7] (.int (a + b) :: st) h x := (g_step rfl rfl rfl rfl).trans rfl
theorem e240_185 {ro : Nat → Nat × (Nat → Int32)} {l0 l1 l2 l3 l4 l5 l6 l7 : Option Value} {st : List Value} {h : List mCel} {x : Nat} {a : Nat} {j : Int32} : mW ro mTab 240 185 [l0, l1, l2, l3, l4, l5, l6, l7] (.int j :: .ref a :: st) h x = kIA ro h a j fun v => mW ro mTab 240 186 [l0, l1, l2, l3, l4, l5, l6, l7] (.int v :: st) h x := g_iaload rfl rfl
theorem e240_186 {ro : Nat → Nat × (Nat → Int32)} {l1 l2 l3 l4 l5 l6 l7 : Option Value} {st : List Value} {h : List mCel} {x : Nat} {v : Nat} : mW ro mTab 240 186 [(some (.ref v)), l1, l2, l3, l4, l5, l6, l7] st h x = mW ro mTab 240 187 [(some (.ref v)), l1, l2, l3, l4, l5, l6, l7] (.ref v :: st) h x := (g_step rfl rfl rfl rfl).trans rfl
theorem e240_187 {ro : Nat → Nat × (Nat → Int32)} {l0 l1 l2 l3 l4 l6 l7 : Option Value} {st : List Value} {h : List mCel} {x : Nat} {v : Int32} : mW ro mTab 240 187 [l0, l1, l2, l3, l4, (some (.int v)), l6, l7] st h x = mW ro mTab 240 189 [l0, l1, l2, l3, l4, (some (.int v)), l6, l7] (.int v :: st) h x := (g_step rfl rfl rfl rfl).trans rfl
theorem e240_189 {ro : Nat → Nat × (Nat → Int32)} {l0 l1 l2 l3 l4 l5 l6 l7 : Option Value} {st : List Value} {h : List mCel} {x : Nat}  : mW ro mTab 240 189 [l0, l1, l2, l3, l4, l5, l6, l7] st h x = mW ro mTab 240 190 [l0, l1, l2, l3, l4, l5, l6, l7] (.int 2 :: st) h x := (g_step rfl rfl rfl rfl).trans rfl
theorem e240_190 {ro : Nat → Nat × (Nat → Int32)} {l0 l1 l2 l3 l4 l5 l6 l7 : Option Value} {st : List Value} {h : List mCel} {x : Nat} {a b : Int32} : mW ro mTab 240 190 [l0, l1, l2, l3, l4, l5, l6, l7] (.int b :: .int a :: st) h x = mW ro mTab 240 191 [l0, l1, l2, l3, l4, l5, l6, l7] (.int (a + b) :: st) h x := (g_step rfl rfl rfl rfl).trans rfl
theorem e240_191 {ro : Nat → Nat × (Nat → Int32)} {l0 l1 l2 l3 l4 l5 l6 l7 : Option Value} {st : List Value} {h : List mCel} {x : Nat} {a : Nat} {j : Int32} : mW ro mTab 240 191 [l0, l1, l2, l3, l4, l5, l6, l7] (.int j :: .ref a :: st) h x = kIA ro h a j fun v => mW ro mTab 240 192 [l0, l1, l2, l3, l4, l5, l6, l7] (.int v :: st) h x := g_iaload rfl rfl
theorem e240_192 {ro : Nat → Nat × (Nat → Int32)} {l0 l1 l2 l3 l4 l5 l6 l7 : Option Value} {st : List Value} {h : List mCel} {x : Nat} {a0 : Nat} {a1 : Int32} {a2 : Int32} (hr : kR (mCell h a0) 11 = true) (hs : (st.map Value.category).sum ≤ 8) : mW ro mTab 240 192 [l0, l1, l2, l3, l4, l5, l6, l7] (.int a2 :: .int a1 :: .ref a0 :: st) h x = mAft (mW ro mTab) (mHd mM_240) 240 192 [l0, l1, l2, l3, l4, l5, l6, l7] st (mW ro mTab 81 0 [some (.ref a0), some (.int a1), some (.int a2)] [] h x) := g_call rfl rfl rfl rfl rfl rfl (g_rcv rfl hr) hs
theorem e240_195 {ro : Nat → Nat × (Nat → Int32)} {l0 l1 l2 l3 l4 l5 l6 l7 : Option Value} {st : List Value} {h : List mCel} {x : Nat} {v : Int32} : mW ro mTab 240 195 [l0, l1, l2, l3, l4, l5, l6, l7] (.int v :: st) h x = mW ro mTab 240 197 [l0, l1, l2, l3, l4, l5, l6, (some (.int v))] st h x := (g_step rfl rfl rfl rfl).trans rfl
theorem e240_197 {ro : Nat → Nat × (Nat → Int32)} {l0 l1 l3 l4 l5 l6 l7 : Option Value} {st : List Value} {h : List mCel} {x : Nat} {v : Nat} : mW ro mTab 240 197 [l0, l1, (some (.ref v)), l3, l4, l5, l6, l7] st h x = mW ro mTab 240 198 [l0, l1, (some (.ref v)), l3, l4, l5, l6, l7] (.ref v :: st) h x := (g_step rfl rfl rfl rfl).trans rfl
theorem e240_198 {ro : Nat → Nat × (Nat → Int32)} {l0 l1 l2 l3 l4 l5 l6 l7 : Option Value} {st : List Value} {h : List mCel} {x : Nat} {a0 : Nat} (hr : kR (mCell h a0) 11 = true) (hs : (st.map Value.category).sum ≤ 8) : mW ro mTab 240 198 [l0, l1, l2, l3, l4, l5, l6, l7] (.ref a0 :: st) h x = mAft (mW ro mTab) (mHd mM_240) 240 198 [l0, l1, l2, l3, l4, l5, l6, l7] st (mW ro mTab 137 0 [some (.ref a0)] [] h x) := g_call rfl rfl rfl rfl rfl rfl (g_rcv rfl hr) hs
theorem e240_201 {ro : Nat → Nat × (Nat → Int32)} {l0 l1 l2 l3 l4 l5 l7 : Option Value} {st : List Value} {h : List mCel} {x : Nat} {v : Int32} : mW ro mTab 240 201 [l0, l1, l2, l3, l4, l5, (some (.int v)), l7] st h x = mW ro mTab 240 203 [l0, l1, l2, l3, l4, l5, (some (.int v)), l7] (.int v :: st) h x := (g_step rfl rfl rfl rfl).trans rfl
theorem e240_203 {ro : Nat → Nat × (Nat → Int32)} {l0 l1 l2 l3 l4 l5 l6 l7 : Option Value} {st : List Value} {h : List mCel} {x : Nat} {a b : Int32} : mW ro mTab 240 203 [l0, l1, l2, l3, l4, l5, l6, l7] (.int b :: .int a :: st) h x = if a = b then mW ro mTab 240 208 [l0, l1, l2, l3, l4, l5, l6, l7] st h x else mW ro mTab 240 206 [l0, l1, l2, l3, l4, l5, l6, l7] st h x := g_icmp_eq rfl rfl rfl
theorem e240_206 {ro : Nat → Nat × (Nat → Int32)} {l0 l1 l2 l3 l4 l5 l6 l7 : Option Value} {st : List Value} {h : List mCel} {x : Nat}  : mW ro mTab 240 206 [l0, l1, l2, l3, l4, l5, l6, l7] st h x = mW ro mTab 240 207 [l0, l1, l2, l3, l4, l5, l6, l7] (.int 0 :: st) h x := (g_step rfl rfl rfl rfl).trans rfl
theorem e240_207 {ro : Nat → Nat × (Nat → Int32)} {l0 l1 l2 l3 l4 l5 l6 l7 : Option Value} {h : List mCel} {x : Nat} {v : Int32} (hv : v = 0 ∨ v = 1) : mW ro mTab 240 207 [l0, l1, l2, l3, l4, l5, l6, l7] [.int v] h x = some (.inl (some (.int v)), h, x) := g_zret rfl rfl rfl hv
theorem e240_208 {ro : Nat → Nat × (Nat → Int32)} {l0 l1 l2 l3 l4 l5 l7 : Option Value} {st : List Value} {h : List mCel} {x : Nat} {v : Int32} : mW ro mTab 240 208 [l0, l1, l2, l3, l4, l5, (some (.int v)), l7] st h x = mW ro mTab 240 210 [l0, l1, l2, l3, l4, l5, (some (.int v)), l7] (.int v :: st) h x := (g_step rfl rfl rfl rfl).trans rfl
theorem e240_210 {ro : Nat → Nat × (Nat → Int32)} {l0 l1 l2 l3 l4 l5 l6 l7 : Option Value} {st : List Value} {h : List mCel} {x : Nat} {a : Int32} : mW ro mTab 240 210 [l0, l1, l2, l3, l4, l5, l6, l7] (.int a :: st) h x = if ¬ a = 0 then mW ro mTab 240 225 [l0, l1, l2, l3, l4, l5, l6, l7] st h x else mW ro mTab 240 213 [l0, l1, l2, l3, l4, l5, l6, l7] st h x := g_if_ne rfl rfl rfl
theorem e240_213 {ro : Nat → Nat × (Nat → Int32)} {l0 l1 l2 l4 l5 l6 l7 : Option Value} {st : List Value} {h : List mCel} {x : Nat} {v : Nat} : mW ro mTab 240 213 [l0, l1, l2, (some (.ref v)), l4, l5, l6, l7] st h x = mW ro mTab 240 214 [l0, l1, l2, (some (.ref v)), l4, l5, l6, l7] (.ref v :: st) h x := (g_step rfl rfl rfl rfl).trans rfl
theorem e240_214 {ro : Nat → Nat × (Nat → Int32)} {l0 l1 l2 l3 l4 l5 l6 l7 : Option Value} {st : List Value} {h : List mCel} {x : Nat}  : mW ro mTab 240 214 [l0, l1, l2, l3, l4, l5, l6, l7] st h x = mW ro mTab 240 215 [l0, l1, l2, l3, l4, l5, l6, l7] (.int 0 :: st) h x := (g_step rfl rfl rfl rfl).trans rfl
theorem e240_215 {ro : Nat → Nat × (Nat → Int32)} {l0 l1 l2 l3 l4 l5 l6 l7 : Option Value} {st : List Value} {h : List mCel} {x : Nat} {a : Nat} {j : Int32} : mW ro mTab 240 215 [l0, l1, l2, l3, l4, l5, l6, l7] (.int j :: .ref a :: st) h x = kLA h a j fun v => mW ro mTab 240 216 [l0, l1, l2, l3, l4, l5, l6, l7] (.long v :: st) h x := g_laload rfl rfl
theorem e240_216 {ro : Nat → Nat × (Nat → Int32)} {l0 l1 l2 l3 l4 l5 l6 : Option Value} {st : List Value} {h : List mCel} {x : Nat} {v : Int32} : mW ro mTab 240 216 [l0, l1, l2, l3, l4, l5, l6, (some (.int v))] st h x = mW ro mTab 240 218 [l0, l1, l2, l3, l4, l5, l6, (some (.int v))] (.int v :: st) h x := (g_step rfl rfl rfl rfl).trans rfl
theorem e240_218 {ro : Nat → Nat × (Nat → Int32)} {l0 l1 l2 l3 l4 l5 l6 l7 : Option Value} {st : List Value} {h : List mCel} {x : Nat} {a : Int32} : mW ro mTab 240 218 [l0, l1, l2, l3, l4, l5, l6, l7] (.int a :: st) h x = mW ro mTab 240 219 [l0, l1, l2, l3, l4, l5, l6, l7] (.long a.toInt64 :: st) h x := (g_step rfl rfl rfl rfl).trans rfl
theorem e240_219 {ro : Nat → Nat × (Nat → Int32)} {l0 l1 l2 l3 l4 l5 l6 l7 : Option Value} {st : List Value} {h : List mCel} {x : Nat} {a b : Int64} : mW ro mTab 240 219 [l0, l1, l2, l3, l4, l5, l6, l7] (.long b :: .long a :: st) h x = mW ro mTab 240 220 [l0, l1, l2, l3, l4, l5, l6, l7] (.int (lg_cmp a b) :: st) h x := (g_step rfl rfl rfl rfl).trans rfl
theorem e240_220 {ro : Nat → Nat × (Nat → Int32)} {l0 l1 l2 l3 l4 l5 l6 l7 : Option Value} {st : List Value} {h : List mCel} {x : Nat} {a : Int32} : mW ro mTab 240 220 [l0, l1, l2, l3, l4, l5, l6, l7] (.int a :: st) h x = if a = 0 then mW ro mTab 240 225 [l0, l1, l2, l3, l4, l5, l6, l7] st h x else mW ro mTab 240 223 [l0, l1, l2, l3, l4, l5, l6, l7] st h x := g_if_eq rfl rfl rfl
theorem e240_223 {ro : Nat → Nat × (Nat → Int32)} {l0 l1 l2 l3 l4 l5 l6 l7 : Option Value} {st : List Value} {h : List mCel} {x : Nat}  : mW ro mTab 240 223 [l0, l1, l2, l3, l4, l5, l6, l7] st h x = mW ro mTab 240 224 [l0, l1, l2, l3, l4, l5, l6, l7] (.int 0 :: st) h x := (g_step rfl rfl rfl rfl).trans rfl
theorem e240_224 {ro : Nat → Nat × (Nat → Int32)} {l0 l1 l2 l3 l4 l5 l6 l7 : Option Value} {h : List mCel} {x : Nat} {v : Int32} (hv : v = 0 ∨ v = 1) : mW ro mTab 240 224 [l0, l1, l2, l3, l4, l5, l6, l7] [.int v] h x = some (.inl (some (.int v)), h, x) := g_zret rfl rfl rfl hv
theorem e240_225 {ro : Nat → Nat × (Nat → Int32)} {l0 l1 l2 l3 l4 l5 l6 l7 : Option Value} {st : List Value} {h : List mCel} {x : Nat}  : mW ro mTab 240 225 [l0, l1, l2, l3, l4, l5, l6, l7] st h x = mW ro mTab 240 1980 [l0, l1, l2, l3, l4, l5, l6, l7] st h x := (g_step rfl rfl rfl rfl).trans rfl
theorem e240_228 {ro : Nat → Nat × (Nat → Int32)} {l0 l2 l3 l4 l5 l6 l7 : Option Value} {st : List Value} {h : List mCel} {x : Nat} {v : Nat} : mW ro mTab 240 228 [l0, (some (.ref v)), l2, l3, l4, l5, l6, l7] st h x = mW ro mTab 240 229 [l0, (some (.ref v)), l2, l3, l4, l5, l6, l7] (.ref v :: st) h x := (g_step rfl rfl rfl rfl).trans rfl
theorem e240_229 {ro : Nat → Nat × (Nat → Int32)} {l0 l1 l2 l4 l5 l6 l7 : Option Value} {st : List Value} {h : List mCel} {x : Nat} {v : Nat} : mW ro mTab 240 229 [l0, l1, l2, (some (.ref v)), l4, l5, l6, l7] st h x = mW ro mTab 240 230 [l0, l1, l2, (some (.ref v)), l4, l5, l6, l7] (.ref v :: st) h x := (g_step rfl rfl rfl rfl).trans rfl
theorem e240_230 {ro : Nat → Nat × (Nat → Int32)} {l0 l1 l2 l3 l4 l5 l6 l7 : Option Value} {st : List Value} {h : List mCel} {x : Nat} {a0 : Nat} {a1 : Nat} (hs : (st.map Value.category).sum ≤ 8) : mW ro mTab 240 230 [l0, l1, l2, l3, l4, l5, l6, l7] (.ref a1 :: .ref a0 :: st) h x = mAft (mW ro mTab) (mHd mM_240) 240 230 [l0, l1, l2, l3, l4, l5, l6, l7] st (mW ro mTab 246 0 [some (.ref a0), some (.ref a1), none] [] h x) := g_call rfl rfl rfl rfl rfl rfl rfl hs
theorem e240_233 {ro : Nat → Nat × (Nat → Int32)} {l0 l1 l2 l3 l4 l5 l6 l7 : Option Value} {st : List Value} {h : List mCel} {x : Nat} {v : Int32} : mW ro mTab 240 233 [l0, l1, l2, l3, l4, l5, l6, l7] (.int v :: st) h x = mW ro mTab 240 235 [l0, l1, l2, l3, l4, l5, (some (.int v)), l7] st h x := (g_step rfl rfl rfl rfl).trans rfl
theorem e240_235 {ro : Nat → Nat × (Nat → Int32)} {l0 l1 l3 l4 l5 l6 l7 : Option Value} {st : List Value} {h : List mCel} {x : Nat} {v : Nat} : mW ro mTab 240 235 [l0, l1, (some (.ref v)), l3, l4, l5, l6, l7] st h x = mW ro mTab 240 236 [l0, l1, (some (.ref v)), l3, l4, l5, l6, l7] (.ref v :: st) h x := (g_step rfl rfl rfl rfl).trans rfl
theorem e240_236 {ro : Nat → Nat × (Nat → Int32)} {l0 l1 l2 l3 l4 l5 l6 l7 : Option Value} {st : List Value} {h : List mCel} {x : Nat} {a0 : Nat} (hr : kR (mCell h a0) 11 = true) (hs : (st.map Value.category).sum ≤ 8) : mW ro mTab 240 236 [l0, l1, l2, l3, l4, l5, l6, l7] (.ref a0 :: st) h x = mAft (mW ro mTab) (mHd mM_240) 240 236 [l0, l1, l2, l3, l4, l5, l6, l7] st (mW ro mTab 124 0 [some (.ref a0), none] [] h x) := g_call rfl rfl rfl rfl rfl rfl (g_rcv rfl hr) hs
theorem e240_239 {ro : Nat → Nat × (Nat → Int32)} {l0 l1 l2 l3 l4 l5 l6 l7 : Option Value} {st : List Value} {h : List mCel} {x : Nat} {v : Int32} : mW ro mTab 240 239 [l0, l1, l2, l3, l4, l5, l6, l7] (.int v :: st) h x = mW ro mTab 240 241 [l0, l1, l2, l3, l4, l5, l6, (some (.int v))] st h x := (g_step rfl rfl rfl rfl).trans rfl
theorem e240_241 {ro : Nat → Nat × (Nat → Int32)} {l0 l1 l3 l4 l5 l6 l7 : Option Value} {st : List Value} {h : List mCel} {x : Nat} {v : Nat} : mW ro mTab 240 241 [l0, l1, (some (.ref v)), l3, l4, l5, l6, l7] st h x = mW ro mTab 240 242 [l0, l1, (some (.ref v)), l3, l4, l5, l6, l7] (.ref v :: st) h x := (g_step rfl rfl rfl rfl).trans rfl
theorem e240_242 {ro : Nat → Nat × (Nat → Int32)} {l0 l1 l2 l3 l4 l5 l6 l7 : Option Value} {st : List Value} {h : List mCel} {x : Nat} {a0 : Nat} (hr : kR (mCell h a0) 11 = true) (hs : (st.map Value.category).sum ≤ 8) : mW ro mTab 240 242 [l0, l1, l2, l3, l4, l5, l6, l7] (.ref a0 :: st) h x = mAft (mW ro mTab) (mHd mM_240) 240 242 [l0, l1, l2, l3, l4, l5, l6, l7] st (mW ro mTab 137 0 [some (.ref a0)] [] h x) := g_call rfl rfl rfl rfl rfl rfl (g_rcv rfl hr) hs
theorem e240_245 {ro : Nat → Nat × (Nat → Int32)} {l0 l1 l2 l3 l4 l5 l7 : Option Value} {st : List Value} {h : List mCel} {x : Nat} {v : Int32} : mW ro mTab 240 245 [l0, l1, l2, l3, l4, l5, (some (.int v)), l7] st h x = mW ro mTab 240 247 [l0, l1, l2, l3, l4, l5, (some (.int v)), l7] (.int v :: st) h x := (g_step rfl rfl rfl rfl).trans rfl
theorem e240_247 {ro : Nat → Nat × (Nat → Int32)} {l0 l1 l2 l3 l4 l5 l6 l7 : Option Value} {st : List Value} {h : List mCel} {x : Nat} {a b : Int32} : mW ro mTab 240 247 [l0, l1, l2, l3, l4, l5, l6, l7] (.int b :: .int a :: st) h x = if a = b then mW ro mTab 240 252 [l0, l1, l2, l3, l4, l5, l6, l7] st h x else mW ro mTab 240 250 [l0, l1, l2, l3, l4, l5, l6, l7] st h x := g_icmp_eq rfl rfl rfl
theorem e240_250 {ro : Nat → Nat × (Nat → Int32)} {l0 l1 l2 l3 l4 l5 l6 l7 : Option Value} {st : List Value} {h : List mCel} {x : Nat}  : mW ro mTab 240 250 [l0, l1, l2, l3, l4, l5, l6, l7] st h x = mW ro mTab 240 251 [l0, l1, l2, l3, l4, l5, l6, l7] (.int 0 :: st) h x := (g_step rfl rfl rfl rfl).trans rfl
theorem e240_251 {ro : Nat → Nat × (Nat → Int32)} {l0 l1 l2 l3 l4 l5 l6 l7 : Option Value} {h : List mCel} {x : Nat} {v : Int32} (hv : v = 0 ∨ v = 1) : mW ro mTab 240 251 [l0, l1, l2, l3, l4, l5, l6, l7] [.int v] h x = some (.inl (some (.int v)), h, x) := g_zret rfl rfl rfl hv
theorem e240_252 {ro : Nat → Nat × (Nat → Int32)} {l0 l1 l2 l3 l4 l5 l7 : Option Value} {st : List Value} {h : List mCel} {x : Nat} {v : Int32} : mW ro mTab 240 252 [l0, l1, l2, l3, l4, l5, (some (.int v)), l7] st h x = mW ro mTab 240 254 [l0, l1, l2, l3, l4, l5, (some (.int v)), l7] (.int v :: st) h x := (g_step rfl rfl rfl rfl).trans rfl
theorem e240_254 {ro : Nat → Nat × (Nat → Int32)} {l0 l1 l2 l3 l4 l5 l6 l7 : Option Value} {st : List Value} {h : List mCel} {x : Nat} {a : Int32} : mW ro mTab 240 254 [l0, l1, l2, l3, l4, l5, l6, l7] (.int a :: st) h x = if ¬ a = 0 then mW ro mTab 240 269 [l0, l1, l2, l3, l4, l5, l6, l7] st h x else mW ro mTab 240 257 [l0, l1, l2, l3, l4, l5, l6, l7] st h x := g_if_ne rfl rfl rfl
theorem e240_257 {ro : Nat → Nat × (Nat → Int32)} {l0 l1 l2 l4 l5 l6 l7 : Option Value} {st : List Value} {h : List mCel} {x : Nat} {v : Nat} : mW ro mTab 240 257 [l0, l1, l2, (some (.ref v)), l4, l5, l6, l7] st h x = mW ro mTab 240 258 [l0, l1, l2, (some (.ref v)), l4, l5, l6, l7] (.ref v :: st) h x := (g_step rfl rfl rfl rfl).trans rfl
theorem e240_258 {ro : Nat → Nat × (Nat → Int32)} {l0 l1 l2 l3 l4 l5 l6 l7 : Option Value} {st : List Value} {h : List mCel} {x : Nat}  : mW ro mTab 240 258 [l0, l1, l2, l3, l4, l5, l6, l7] st h x = mW ro mTab 240 259 [l0, l1, l2, l3, l4, l5, l6, l7] (.int 0 :: st) h x := (g_step rfl rfl rfl rfl).trans rfl
theorem e240_259 {ro : Nat → Nat × (Nat → Int32)} {l0 l1 l2 l3 l4 l5 l6 l7 : Option Value} {st : List Value} {h : List mCel} {x : Nat} {a : Nat} {j : Int32} : mW ro mTab 240 259 [l0, l1, l2, l3, l4, l5, l6, l7] (.int j :: .ref a :: st) h x = kLA h a j fun v => mW ro mTab 240 260 [l0, l1, l2, l3, l4, l5, l6, l7] (.long v :: st) h x := g_laload rfl rfl
theorem e240_260 {ro : Nat → Nat × (Nat → Int32)} {l0 l1 l2 l3 l4 l5 l6 : Option Value} {st : List Value} {h : List mCel} {x : Nat} {v : Int32} : mW ro mTab 240 260 [l0, l1, l2, l3, l4, l5, l6, (some (.int v))] st h x = mW ro mTab 240 262 [l0, l1, l2, l3, l4, l5, l6, (some (.int v))] (.int v :: st) h x := (g_step rfl rfl rfl rfl).trans rfl
theorem e240_262 {ro : Nat → Nat × (Nat → Int32)} {l0 l1 l2 l3 l4 l5 l6 l7 : Option Value} {st : List Value} {h : List mCel} {x : Nat} {a : Int32} : mW ro mTab 240 262 [l0, l1, l2, l3, l4, l5, l6, l7] (.int a :: st) h x = mW ro mTab 240 263 [l0, l1, l2, l3, l4, l5, l6, l7] (.long a.toInt64 :: st) h x := (g_step rfl rfl rfl rfl).trans rfl
theorem e240_263 {ro : Nat → Nat × (Nat → Int32)} {l0 l1 l2 l3 l4 l5 l6 l7 : Option Value} {st : List Value} {h : List mCel} {x : Nat} {a b : Int64} : mW ro mTab 240 263 [l0, l1, l2, l3, l4, l5, l6, l7] (.long b :: .long a :: st) h x = mW ro mTab 240 264 [l0, l1, l2, l3, l4, l5, l6, l7] (.int (lg_cmp a b) :: st) h x := (g_step rfl rfl rfl rfl).trans rfl
theorem e240_264 {ro : Nat → Nat × (Nat → Int32)} {l0 l1 l2 l3 l4 l5 l6 l7 : Option Value} {st : List Value} {h : List mCel} {x : Nat} {a : Int32} : mW ro mTab 240 264 [l0, l1, l2, l3, l4, l5, l6, l7] (.int a :: st) h x = if a = 0 then mW ro mTab 240 269 [l0, l1, l2, l3, l4, l5, l6, l7] st h x else mW ro mTab 240 267 [l0, l1, l2, l3, l4, l5, l6, l7] st h x := g_if_eq rfl rfl rfl
theorem e240_267 {ro : Nat → Nat × (Nat → Int32)} {l0 l1 l2 l3 l4 l5 l6 l7 : Option Value} {st : List Value} {h : List mCel} {x : Nat}  : mW ro mTab 240 267 [l0, l1, l2, l3, l4, l5, l6, l7] st h x = mW ro mTab 240 268 [l0, l1, l2, l3, l4, l5, l6, l7] (.int 0 :: st) h x := (g_step rfl rfl rfl rfl).trans rfl
theorem e240_268 {ro : Nat → Nat × (Nat → Int32)} {l0 l1 l2 l3 l4 l5 l6 l7 : Option Value} {h : List mCel} {x : Nat} {v : Int32} (hv : v = 0 ∨ v = 1) : mW ro mTab 240 268 [l0, l1, l2, l3, l4, l5, l6, l7] [.int v] h x = some (.inl (some (.int v)), h, x) := g_zret rfl rfl rfl hv
theorem e240_269 {ro : Nat → Nat × (Nat → Int32)} {l0 l1 l2 l3 l4 l5 l6 l7 : Option Value} {st : List Value} {h : List mCel} {x : Nat}  : mW ro mTab 240 269 [l0, l1, l2, l3, l4, l5, l6, l7] st h x = mW ro mTab 240 1980 [l0, l1, l2, l3, l4, l5, l6, l7] st h x := (g_step rfl rfl rfl rfl).trans rfl
theorem e240_272 {ro : Nat → Nat × (Nat → Int32)} {l0 l2 l3 l4 l5 l6 l7 : Option Value} {st : List Value} {h : List mCel} {x : Nat} {v : Nat} : mW ro mTab 240 272 [l0, (some (.ref v)), l2, l3, l4, l5, l6, l7] st h x = mW ro mTab 240 273 [l0, (some (.ref v)), l2, l3, l4, l5, l6, l7] (.ref v :: st) h x := (g_step rfl rfl rfl rfl).trans rfl
theorem e240_273 {ro : Nat → Nat × (Nat → Int32)} {l0 l1 l2 l3 l4 l5 l6 l7 : Option Value} {st : List Value} {h : List mCel} {x : Nat} {a0 : Nat} (hr : kR (mCell h a0) 10 = true) (hs : (st.map Value.category).sum ≤ 8) : mW ro mTab 240 273 [l0, l1, l2, l3, l4, l5, l6, l7] (.ref a0 :: st) h x = mAft (mW ro mTab) (mHd mM_240) 240 273 [l0, l1, l2, l3, l4, l5, l6, l7] st (mW ro mTab 45 0 [some (.ref a0), none] [] h x) := g_call rfl rfl rfl rfl rfl rfl (g_rcv rfl hr) hs
theorem e240_276 {ro : Nat → Nat × (Nat → Int32)} {l0 l1 l3 l4 l5 l6 l7 : Option Value} {st : List Value} {h : List mCel} {x : Nat} {v : Nat} : mW ro mTab 240 276 [l0, l1, (some (.ref v)), l3, l4, l5, l6, l7] st h x = mW ro mTab 240 277 [l0, l1, (some (.ref v)), l3, l4, l5, l6, l7] (.ref v :: st) h x := (g_step rfl rfl rfl rfl).trans rfl
theorem e240_277 {ro : Nat → Nat × (Nat → Int32)} {l0 l1 l2 l3 l4 l5 l6 l7 : Option Value} {st : List Value} {h : List mCel} {x : Nat} {a0 : Nat} (hr : kR (mCell h a0) 11 = true) (hs : (st.map Value.category).sum ≤ 8) : mW ro mTab 240 277 [l0, l1, l2, l3, l4, l5, l6, l7] (.ref a0 :: st) h x = mAft (mW ro mTab) (mHd mM_240) 240 277 [l0, l1, l2, l3, l4, l5, l6, l7] st (mW ro mTab 93 0 [some (.ref a0), none] [] h x) := g_call rfl rfl rfl rfl rfl rfl (g_rcv rfl hr) hs
theorem e240_280 {ro : Nat → Nat × (Nat → Int32)} {l0 l1 l2 l3 l4 l5 l6 l7 : Option Value} {st : List Value} {h : List mCel} {x : Nat} {a b : Int32} : mW ro mTab 240 280 [l0, l1, l2, l3, l4, l5, l6, l7] (.int b :: .int a :: st) h x = if a = b then mW ro mTab 240 1980 [l0, l1, l2, l3, l4, l5, l6, l7] st h x else mW ro mTab 240 283 [l0, l1, l2, l3, l4, l5, l6, l7] st h x := g_icmp_eq rfl rfl rfl
theorem e240_283 {ro : Nat → Nat × (Nat → Int32)} {l0 l1 l2 l3 l4 l5 l6 l7 : Option Value} {st : List Value} {h : List mCel} {x : Nat}  : mW ro mTab 240 283 [l0, l1, l2, l3, l4, l5, l6, l7] st h x = mW ro mTab 240 284 [l0, l1, l2, l3, l4, l5, l6, l7] (.int 0 :: st) h x := (g_step rfl rfl rfl rfl).trans rfl
theorem e240_284 {ro : Nat → Nat × (Nat → Int32)} {l0 l1 l2 l3 l4 l5 l6 l7 : Option Value} {h : List mCel} {x : Nat} {v : Int32} (hv : v = 0 ∨ v = 1) : mW ro mTab 240 284 [l0, l1, l2, l3, l4, l5, l6, l7] [.int v] h x = some (.inl (some (.int v)), h, x) := g_zret rfl rfl rfl hv
theorem e240_285 {ro : Nat → Nat × (Nat → Int32)} {l0 l2 l3 l4 l5 l6 l7 : Option Value} {st : List Value} {h : List mCel} {x : Nat} {v : Nat} : mW ro mTab 240 285 [l0, (some (.ref v)), l2, l3, l4, l5, l6, l7] st h x = mW ro mTab 240 286 [l0, (some (.ref v)), l2, l3, l4, l5, l6, l7] (.ref v :: st) h x := (g_step rfl rfl rfl rfl).trans rfl
theorem e240_286 {ro : Nat → Nat × (Nat → Int32)} {l1 l2 l3 l4 l5 l6 l7 : Option Value} {st : List Value} {h : List mCel} {x : Nat} {v : Nat} : mW ro mTab 240 286 [(some (.ref v)), l1, l2, l3, l4, l5, l6, l7] st h x = mW ro mTab 240 287 [(some (.ref v)), l1, l2, l3, l4, l5, l6, l7] (.ref v :: st) h x := (g_step rfl rfl rfl rfl).trans rfl
theorem e240_287 {ro : Nat → Nat × (Nat → Int32)} {l0 l1 l2 l3 l4 l6 l7 : Option Value} {st : List Value} {h : List mCel} {x : Nat} {v : Int32} : mW ro mTab 240 287 [l0, l1, l2, l3, l4, (some (.int v)), l6, l7] st h x = mW ro mTab 240 289 [l0, l1, l2, l3, l4, (some (.int v)), l6, l7] (.int v :: st) h x := (g_step rfl rfl rfl rfl).trans rfl
theorem e240_289 {ro : Nat → Nat × (Nat → Int32)} {l0 l1 l2 l3 l4 l5 l6 l7 : Option Value} {st : List Value} {h : List mCel} {x : Nat}  : mW ro mTab 240 289 [l0, l1, l2, l3, l4, l5, l6, l7] st h x = mW ro mTab 240 290 [l0, l1, l2, l3, l4, l5, l6, l7] (.int 1 :: st) h x := (g_step rfl rfl rfl rfl).trans rfl
theorem e240_290 {ro : Nat → Nat × (Nat → Int32)} {l0 l1 l2 l3 l4 l5 l6 l7 : Option Value} {st : List Value} {h : List mCel} {x : Nat} {a b : Int32} : mW ro mTab 240 290 [l0, l1, l2, l3, l4, l5, l6, l7] (.int b :: .int a :: st) h x = mW ro mTab 240 291 [l0, l1, l2, l3, l4, l5, l6, l7] (.int (a + b) :: st) h x := (g_step rfl rfl rfl rfl).trans rfl
theorem e240_291 {ro : Nat → Nat × (Nat → Int32)} {l0 l1 l2 l3 l4 l5 l6 l7 : Option Value} {st : List Value} {h : List mCel} {x : Nat} {a : Nat} {j : Int32} : mW ro mTab 240 291 [l0, l1, l2, l3, l4, l5, l6, l7] (.int j :: .ref a :: st) h x = kIA ro h a j fun v => mW ro mTab 240 292 [l0, l1, l2, l3, l4, l5, l6, l7] (.int v :: st) h x := g_iaload rfl rfl
theorem e240_292 {ro : Nat → Nat × (Nat → Int32)} {l0 l1 l2 l4 l5 l6 l7 : Option Value} {st : List Value} {h : List mCel} {x : Nat} {v : Nat} : mW ro mTab 240 292 [l0, l1, l2, (some (.ref v)), l4, l5, l6, l7] st h x = mW ro mTab 240 293 [l0, l1, l2, (some (.ref v)), l4, l5, l6, l7] (.ref v :: st) h x := (g_step rfl rfl rfl rfl).trans rfl
theorem e240_293 {ro : Nat → Nat × (Nat → Int32)} {l0 l1 l2 l3 l4 l5 l6 l7 : Option Value} {st : List Value} {h : List mCel} {x : Nat} {a0 : Nat} {a1 : Int32} {a2 : Nat} (hs : (st.map Value.category).sum ≤ 8) : mW ro mTab 240 293 [l0, l1, l2, l3, l4, l5, l6, l7] (.ref a2 :: .int a1 :: .ref a0 :: st) h x = mAft (mW ro mTab) (mHd mM_240) 240 293 [l0, l1, l2, l3, l4, l5, l6, l7] st (mW ro mTab 252 0 [some (.ref a0), some (.int a1), some (.ref a2), none] [] h x) := g_call rfl rfl rfl rfl rfl rfl rfl hs
theorem e240_296 {ro : Nat → Nat × (Nat → Int32)} {l0 l1 l2 l3 l4 l5 l6 l7 : Option Value} {st : List Value} {h : List mCel} {x : Nat} {v : Int32} : mW ro mTab 240 296 [l0, l1, l2, l3, l4, l5, l6, l7] (.int v :: st) h x = mW ro mTab 240 298 [l0, l1, l2, l3, l4, l5, (some (.int v)), l7] st h x := (g_step rfl rfl rfl rfl).trans rfl
theorem e240_298 {ro : Nat → Nat × (Nat → Int32)} {l0 l1 l3 l4 l5 l6 l7 : Option Value} {st : List Value} {h : List mCel} {x : Nat} {v : Nat} : mW ro mTab 240 298 [l0, l1, (some (.ref v)), l3, l4, l5, l6, l7] st h x = mW ro mTab 240 299 [l0, l1, (some (.ref v)), l3, l4, l5, l6, l7] (.ref v :: st) h x := (g_step rfl rfl rfl rfl).trans rfl
theorem e240_299 {ro : Nat → Nat × (Nat → Int32)} {l1 l2 l3 l4 l5 l6 l7 : Option Value} {st : List Value} {h : List mCel} {x : Nat} {v : Nat} : mW ro mTab 240 299 [(some (.ref v)), l1, l2, l3, l4, l5, l6, l7] st h x = mW ro mTab 240 300 [(some (.ref v)), l1, l2, l3, l4, l5, l6, l7] (.ref v :: st) h x := (g_step rfl rfl rfl rfl).trans rfl
theorem e240_300 {ro : Nat → Nat × (Nat → Int32)} {l0 l1 l2 l3 l4 l6 l7 : Option Value} {st : List Value} {h : List mCel} {x : Nat} {v : Int32} : mW ro mTab 240 300 [l0, l1, l2, l3, l4, (some (.int v)), l6, l7] st h x = mW ro mTab 240 302 [l0, l1, l2, l3, l4, (some (.int v)), l6, l7] (.int v :: st) h x := (g_step rfl rfl rfl rfl).trans rfl
set_option maxRecDepth 100000 in
theorem e240_302 {ro : Nat → Nat × (Nat → Int32)} {l0 l1 l2 l3 l4 l5 l6 l7 : Option Value} {st : List Value} {h : List mCel} {x : Nat}  : mW ro mTab 240 302 [l0, l1, l2, l3, l4, l5, l6, l7] st h x = mW ro mTab 240 303 [l0, l1, l2, l3, l4, l5, l6, l7] (.int 1 :: st) h x := (g_step rfl rfl rfl rfl).trans rfl
set_option maxRecDepth 100000 in
theorem e240_303 {ro : Nat → Nat × (Nat → Int32)} {l0 l1 l2 l3 l4 l5 l6 l7 : Option Value} {st : List Value} {h : List mCel} {x : Nat} {a b : Int32} : mW ro mTab 240 303 [l0, l1, l2, l3, l4, l5, l6, l7] (.int b :: .int a :: st) h x = mW ro mTab 240 304 [l0, l1, l2, l3, l4, l5, l6, l7] (.int (a + b) :: st) h x := (g_step rfl rfl rfl rfl).trans rfl
set_option maxRecDepth 100000 in
theorem e240_304 {ro : Nat → Nat × (Nat → Int32)} {l0 l1 l2 l3 l4 l5 l6 l7 : Option Value} {st : List Value} {h : List mCel} {x : Nat} {a : Nat} {j : Int32} : mW ro mTab 240 304 [l0, l1, l2, l3, l4, l5, l6, l7] (.int j :: .ref a :: st) h x = kIA ro h a j fun v => mW ro mTab 240 305 [l0, l1, l2, l3, l4, l5, l6, l7] (.int v :: st) h x := g_iaload rfl rfl
set_option maxRecDepth 100000 in
theorem e240_305 {ro : Nat → Nat × (Nat → Int32)} {l0 l1 l2 l3 l4 l5 l6 l7 : Option Value} {st : List Value} {h : List mCel} {x : Nat} {a0 : Nat} {a1 : Int32} (hr : kR (mCell h a0) 11 = true) (hs : (st.map Value.category).sum ≤ 8) : mW ro mTab 240 305 [l0, l1, l2, l3, l4, l5, l6, l7] (.int a1 :: .ref a0 :: st) h x = mAft (mW ro mTab) (mHd mM_240) 240 305 [l0, l1, l2, l3, l4, l5, l6, l7] st (mW ro mTab 136 0 [some (.ref a0), some (.int a1), none, none] [] h x) := g_call rfl rfl rfl rfl rfl rfl (g_rcv rfl hr) hs
set_option maxRecDepth 100000 in
theorem e240_308 {ro : Nat → Nat × (Nat → Int32)} {l0 l1 l2 l3 l4 l5 l6 l7 : Option Value} {st : List Value} {h : List mCel} {x : Nat} {v : Int32} : mW ro mTab 240 308 [l0, l1, l2, l3, l4, l5, l6, l7] (.int v :: st) h x = mW ro mTab 240 310 [l0, l1, l2, l3, l4, l5, l6, (some (.int v))] st h x := (g_step rfl rfl rfl rfl).trans rfl
set_option maxRecDepth 100000 in
theorem e240_310 {ro : Nat → Nat × (Nat → Int32)} {l0 l1 l3 l4 l5 l6 l7 : Option Value} {st : List Value} {h : List mCel} {x : Nat} {v : Nat} : mW ro mTab 240 310 [l0, l1, (some (.ref v)), l3, l4, l5, l6, l7] st h x = mW ro mTab 240 311 [l0, l1, (some (.ref v)), l3, l4, l5, l6, l7] (.ref v :: st) h x := (g_step rfl rfl rfl rfl).trans rfl
set_option maxRecDepth 100000 in
theorem e240_311 {ro : Nat → Nat × (Nat → Int32)} {l0 l1 l2 l3 l4 l5 l6 l7 : Option Value} {st : List Value} {h : List mCel} {x : Nat} {a0 : Nat} (hr : kR (mCell h a0) 11 = true) (hs : (st.map Value.category).sum ≤ 8) : mW ro mTab 240 311 [l0, l1, l2, l3, l4, l5, l6, l7] (.ref a0 :: st) h x = mAft (mW ro mTab) (mHd mM_240) 240 311 [l0, l1, l2, l3, l4, l5, l6, l7] st (mW ro mTab 137 0 [some (.ref a0)] [] h x) := g_call rfl rfl rfl rfl rfl rfl (g_rcv rfl hr) hs
set_option maxRecDepth 100000 in
theorem e240_314 {ro : Nat → Nat × (Nat → Int32)} {l0 l1 l2 l3 l4 l5 l7 : Option Value} {st : List Value} {h : List mCel} {x : Nat} {v : Int32} : mW ro mTab 240 314 [l0, l1, l2, l3, l4, l5, (some (.int v)), l7] st h x = mW ro mTab 240 316 [l0, l1, l2, l3, l4, l5, (some (.int v)), l7] (.int v :: st) h x := (g_step rfl rfl rfl rfl).trans rfl
set_option maxRecDepth 100000 in
theorem e240_316 {ro : Nat → Nat × (Nat → Int32)} {l0 l1 l2 l3 l4 l5 l6 l7 : Option Value} {st : List Value} {h : List mCel} {x : Nat} {a b : Int32} : mW ro mTab 240 316 [l0, l1, l2, l3, l4, l5, l6, l7] (.int b :: .int a :: st) h x = if a = b then mW ro mTab 240 321 [l0, l1, l2, l3, l4, l5, l6, l7] st h x else mW ro mTab 240 319 [l0, l1, l2, l3, l4, l5, l6, l7] st h x := g_icmp_eq rfl rfl rfl
set_option maxRecDepth 100000 in
theorem e240_319 {ro : Nat → Nat × (Nat → Int32)} {l0 l1 l2 l3 l4 l5 l6 l7 : Option Value} {st : List Value} {h : List mCel} {x : Nat}  : mW ro mTab 240 319 [l0, l1, l2, l3, l4, l5, l6, l7] st h x = mW ro mTab 240 320 [l0, l1, l2, l3, l4, l5, l6, l7] (.int 0 :: st) h x := (g_step rfl rfl rfl rfl).trans rfl
set_option maxRecDepth 100000 in
theorem e240_320 {ro : Nat → Nat × (Nat → Int32)} {l0 l1 l2 l3 l4 l5 l6 l7 : Option Value} {h : List mCel} {x : Nat} {v : Int32} (hv : v = 0 ∨ v = 1) : mW ro mTab 240 320 [l0, l1, l2, l3, l4, l5, l6, l7] [.int v] h x = some (.inl (some (.int v)), h, x) := g_zret rfl rfl rfl hv
set_option maxRecDepth 100000 in
theorem e240_321 {ro : Nat → Nat × (Nat → Int32)} {l0 l1 l2 l3 l4 l5 l7 : Option Value} {st : List Value} {h : List mCel} {x : Nat} {v : Int32} : mW ro mTab 240 321 [l0, l1, l2, l3, l4, l5, (some (.int v)), l7] st h x = mW ro mTab 240 323 [l0, l1, l2, l3, l4, l5, (some (.int v)), l7] (.int v :: st) h x := (g_step rfl rfl rfl rfl).trans rfl
set_option maxRecDepth 100000 in
theorem e240_323 {ro : Nat → Nat × (Nat → Int32)} {l0 l1 l2 l3 l4 l5 l6 l7 : Option Value} {st : List Value} {h : List mCel} {x : Nat} {a : Int32} : mW ro mTab 240 323 [l0, l1, l2, l3, l4, l5, l6, l7] (.int a :: st) h x = if ¬ a = 0 then mW ro mTab 240 338 [l0, l1, l2, l3, l4, l5, l6, l7] st h x else mW ro mTab 240 326 [l0, l1, l2, l3, l4, l5, l6, l7] st h x := g_if_ne rfl rfl rfl
set_option maxRecDepth 100000 in
theorem e240_326 {ro : Nat → Nat × (Nat → Int32)} {l0 l1 l2 l4 l5 l6 l7 : Option Value} {st : List Value} {h : List mCel} {x : Nat} {v : Nat} : mW ro mTab 240 326 [l0, l1, l2, (some (.ref v)), l4, l5, l6, l7] st h x = mW ro mTab 240 327 [l0, l1, l2, (some (.ref v)), l4, l5, l6, l7] (.ref v :: st) h x := (g_step rfl rfl rfl rfl).trans rfl
set_option maxRecDepth 100000 in
theorem e240_327 {ro : Nat → Nat × (Nat → Int32)} {l0 l1 l2 l3 l4 l5 l6 l7 : Option Value} {st : List Value} {h : List mCel} {x : Nat}  : mW ro mTab 240 327 [l0, l1, l2, l3, l4, l5, l6, l7] st h x = mW ro mTab 240 328 [l0, l1, l2, l3, l4, l5, l6, l7] (.int 0 :: st) h x := (g_step rfl rfl rfl rfl).trans rfl
set_option maxRecDepth 100000 in
theorem e240_328 {ro : Nat → Nat × (Nat → Int32)} {l0 l1 l2 l3 l4 l5 l6 l7 : Option Value} {st : List Value} {h : List mCel} {x : Nat} {a : Nat} {j : Int32} : mW ro mTab 240 328 [l0, l1, l2, l3, l4, l5, l6, l7] (.int j :: .ref a :: st) h x = kLA h a j fun v => mW ro mTab 240 329 [l0, l1, l2, l3, l4, l5, l6, l7] (.long v :: st) h x := g_laload rfl rfl
set_option maxRecDepth 100000 in
theorem e240_329 {ro : Nat → Nat × (Nat → Int32)} {l0 l1 l2 l3 l4 l5 l6 : Option Value} {st : List Value} {h : List mCel} {x : Nat} {v : Int32} : mW ro mTab 240 329 [l0, l1, l2, l3, l4, l5, l6, (some (.int v))] st h x = mW ro mTab 240 331 [l0, l1, l2, l3, l4, l5, l6, (some (.int v))] (.int v :: st) h x := (g_step rfl rfl rfl rfl).trans rfl
set_option maxRecDepth 100000 in
theorem e240_331 {ro : Nat → Nat × (Nat → Int32)} {l0 l1 l2 l3 l4 l5 l6 l7 : Option Value} {st : List Value} {h : List mCel} {x : Nat} {a : Int32} : mW ro mTab 240 331 [l0, l1, l2, l3, l4, l5, l6, l7] (.int a :: st) h x = mW ro mTab 240 332 [l0, l1, l2, l3, l4, l5, l6, l7] (.long a.toInt64 :: st) h x := (g_step rfl rfl rfl rfl).trans rfl
set_option maxRecDepth 100000 in
theorem e240_332 {ro : Nat → Nat × (Nat → Int32)} {l0 l1 l2 l3 l4 l5 l6 l7 : Option Value} {st : List Value} {h : List mCel} {x : Nat} {a b : Int64} : mW ro mTab 240 332 [l0, l1, l2, l3, l4, l5, l6, l7] (.long b :: .long a :: st) h x = mW ro mTab 240 333 [l0, l1, l2, l3, l4, l5, l6, l7] (.int (lg_cmp a b) :: st) h x := (g_step rfl rfl rfl rfl).trans rfl
set_option maxRecDepth 100000 in
theorem e240_333 {ro : Nat → Nat × (Nat → Int32)} {l0 l1 l2 l3 l4 l5 l6 l7 : Option Value} {st : List Value} {h : List mCel} {x : Nat} {a : Int32} : mW ro mTab 240 333 [l0, l1, l2, l3, l4, l5, l6, l7] (.int a :: st) h x = if a = 0 then mW ro mTab 240 338 [l0, l1, l2, l3, l4, l5, l6, l7] st h x else mW ro mTab 240 336 [l0, l1, l2, l3, l4, l5, l6, l7] st h x := g_if_eq rfl rfl rfl
set_option maxRecDepth 100000 in
theorem e240_336 {ro : Nat → Nat × (Nat → Int32)} {l0 l1 l2 l3 l4 l5 l6 l7 : Option Value} {st : List Value} {h : List mCel} {x : Nat}  : mW ro mTab 240 336 [l0, l1, l2, l3, l4, l5, l6, l7] st h x = mW ro mTab 240 337 [l0, l1, l2, l3, l4, l5, l6, l7] (.int 0 :: st) h x := (g_step rfl rfl rfl rfl).trans rfl
set_option maxRecDepth 100000 in
theorem e240_337 {ro : Nat → Nat × (Nat → Int32)} {l0 l1 l2 l3 l4 l5 l6 l7 : Option Value} {h : List mCel} {x : Nat} {v : Int32} (hv : v = 0 ∨ v = 1) : mW ro mTab 240 337 [l0, l1, l2, l3, l4, l5, l6, l7] [.int v] h x = some (.inl (some (.int v)), h, x) := g_zret rfl rfl rfl hv
set_option maxRecDepth 100000 in
theorem e240_338 {ro : Nat → Nat × (Nat → Int32)} {l0 l1 l2 l3 l4 l5 l6 l7 : Option Value} {st : List Value} {h : List mCel} {x : Nat}  : mW ro mTab 240 338 [l0, l1, l2, l3, l4, l5, l6, l7] st h x = mW ro mTab 240 1980 [l0, l1, l2, l3, l4, l5, l6, l7] st h x := (g_step rfl rfl rfl rfl).trans rfl
set_option maxRecDepth 100000 in
theorem e240_341 {ro : Nat → Nat × (Nat → Int32)} {l0 l2 l3 l4 l5 l6 l7 : Option Value} {st : List Value} {h : List mCel} {x : Nat} {v : Nat} : mW ro mTab 240 341 [l0, (some (.ref v)), l2, l3, l4, l5, l6, l7] st h x = mW ro mTab 240 342 [l0, (some (.ref v)), l2, l3, l4, l5, l6, l7] (.ref v :: st) h x := (g_step rfl rfl rfl rfl).trans rfl
set_option maxRecDepth 100000 in
theorem e240_342 {ro : Nat → Nat × (Nat → Int32)} {l1 l2 l3 l4 l5 l6 l7 : Option Value} {st : List Value} {h : List mCel} {x : Nat} {v : Nat} : mW ro mTab 240 342 [(some (.ref v)), l1, l2, l3, l4, l5, l6, l7] st h x = mW ro mTab 240 343 [(some (.ref v)), l1, l2, l3, l4, l5, l6, l7] (.ref v :: st) h x := (g_step rfl rfl rfl rfl).trans rfl
set_option maxRecDepth 100000 in
theorem e240_343 {ro : Nat → Nat × (Nat → Int32)} {l0 l1 l2 l3 l4 l6 l7 : Option Value} {st : List Value} {h : List mCel} {x : Nat} {v : Int32} : mW ro mTab 240 343 [l0, l1, l2, l3, l4, (some (.int v)), l6, l7] st h x = mW ro mTab 240 345 [l0, l1, l2, l3, l4, (some (.int v)), l6, l7] (.int v :: st) h x := (g_step rfl rfl rfl rfl).trans rfl
set_option maxRecDepth 100000 in
theorem e240_345 {ro : Nat → Nat × (Nat → Int32)} {l0 l1 l2 l3 l4 l5 l6 l7 : Option Value} {st : List Value} {h : List mCel} {x : Nat}  : mW ro mTab 240 345 [l0, l1, l2, l3, l4, l5, l6, l7] st h x = mW ro mTab 240 346 [l0, l1, l2, l3, l4, l5, l6, l7] (.int 1 :: st) h x := (g_step rfl rfl rfl rfl).trans rfl
set_option maxRecDepth 100000 in
theorem e240_346 {ro : Nat → Nat × (Nat → Int32)} {l0 l1 l2 l3 l4 l5 l6 l7 : Option Value} {st : List Value} {h : List mCel} {x : Nat} {a b : Int32} : mW ro mTab 240 346 [l0, l1, l2, l3, l4, l5, l6, l7] (.int b :: .int a :: st) h x = mW ro mTab 240 347 [l0, l1, l2, l3, l4, l5, l6, l7] (.int (a + b) :: st) h x := (g_step rfl rfl rfl rfl).trans rfl
set_option maxRecDepth 100000 in
theorem e240_347 {ro : Nat → Nat × (Nat → Int32)} {l0 l1 l2 l3 l4 l5 l6 l7 : Option Value} {st : List Value} {h : List mCel} {x : Nat} {a : Nat} {j : Int32} : mW ro mTab 240 347 [l0, l1, l2, l3, l4, l5, l6, l7] (.int j :: .ref a :: st) h x = kIA ro h a j fun v => mW ro mTab 240 348 [l0, l1, l2, l3, l4, l5, l6, l7] (.int v :: st) h x := g_iaload rfl rfl
set_option maxRecDepth 100000 in
theorem e240_348 {ro : Nat → Nat × (Nat → Int32)} {l1 l2 l3 l4 l5 l6 l7 : Option Value} {st : List Value} {h : List mCel} {x : Nat} {v : Nat} : mW ro mTab 240 348 [(some (.ref v)), l1, l2, l3, l4, l5, l6, l7] st h x = mW ro mTab 240 349 [(some (.ref v)), l1, l2, l3, l4, l5, l6, l7] (.ref v :: st) h x := (g_step rfl rfl rfl rfl).trans rfl
set_option maxRecDepth 100000 in
theorem e240_349 {ro : Nat → Nat × (Nat → Int32)} {l0 l1 l2 l3 l4 l6 l7 : Option Value} {st : List Value} {h : List mCel} {x : Nat} {v : Int32} : mW ro mTab 240 349 [l0, l1, l2, l3, l4, (some (.int v)), l6, l7] st h x = mW ro mTab 240 351 [l0, l1, l2, l3, l4, (some (.int v)), l6, l7] (.int v :: st) h x := (g_step rfl rfl rfl rfl).trans rfl
set_option maxRecDepth 100000 in
theorem e240_351 {ro : Nat → Nat × (Nat → Int32)} {l0 l1 l2 l3 l4 l5 l6 l7 : Option Value} {st : List Value} {h : List mCel} {x : Nat}  : mW ro mTab 240 351 [l0, l1, l2, l3, l4, l5, l6, l7] st h x = mW ro mTab 240 352 [l0, l1, l2, l3, l4, l5, l6, l7] (.int 2 :: st) h x := (g_step rfl rfl rfl rfl).trans rfl
set_option maxRecDepth 100000 in
theorem e240_352 {ro : Nat → Nat × (Nat → Int32)} {l0 l1 l2 l3 l4 l5 l6 l7 : Option Value} {st : List Value} {h : List mCel} {x : Nat} {a b : Int32} : mW ro mTab 240 352 [l0, l1, l2, l3, l4, l5, l6, l7] (.int b :: .int a :: st) h x = mW ro mTab 240 353 [l0, l1, l2, l3, l4, l5, l6, l7] (.int (a + b) :: st) h x := (g_step rfl rfl rfl rfl).trans rfl
set_option maxRecDepth 100000 in
theorem e240_353 {ro : Nat → Nat × (Nat → Int32)} {l0 l1 l2 l3 l4 l5 l6 l7 : Option Value} {st : List Value} {h : List mCel} {x : Nat} {a : Nat} {j : Int32} : mW ro mTab 240 353 [l0, l1, l2, l3, l4, l5, l6, l7] (.int j :: .ref a :: st) h x = kIA ro h a j fun v => mW ro mTab 240 354 [l0, l1, l2, l3, l4, l5, l6, l7] (.int v :: st) h x := g_iaload rfl rfl
set_option maxRecDepth 100000 in
theorem e240_354 {ro : Nat → Nat × (Nat → Int32)} {l0 l1 l2 l3 l4 l5 l6 l7 : Option Value} {st : List Value} {h : List mCel} {x : Nat} {a0 : Nat} {a1 : Int32} {a2 : Int32} (hs : (st.map Value.category).sum ≤ 8) : mW ro mTab 240 354 [l0, l1, l2, l3, l4, l5, l6, l7] (.int a2 :: .int a1 :: .ref a0 :: st) h x = mAft (mW ro mTab) (mHd mM_240) 240 354 [l0, l1, l2, l3, l4, l5, l6, l7] st (mW ro mTab 253 0 [some (.ref a0), some (.int a1), some (.int a2), none] [] h x) := g_call rfl rfl rfl rfl rfl rfl rfl hs
set_option maxRecDepth 100000 in
theorem e240_357 {ro : Nat → Nat × (Nat → Int32)} {l0 l1 l2 l3 l4 l5 l6 l7 : Option Value} {st : List Value} {h : List mCel} {x : Nat} {v : Int32} : mW ro mTab 240 357 [l0, l1, l2, l3, l4, l5, l6, l7] (.int v :: st) h x = mW ro mTab 240 359 [l0, l1, l2, l3, l4, l5, (some (.int v)), l7] st h x := (g_step rfl rfl rfl rfl).trans rfl
set_option maxRecDepth 100000 in
theorem e240_359 {ro : Nat → Nat × (Nat → Int32)} {l0 l1 l3 l4 l5 l6 l7 : Option Value} {st : List Value} {h : List mCel} {x : Nat} {v : Nat} : mW ro mTab 240 359 [l0, l1, (some (.ref v)), l3, l4, l5, l6, l7] st h x = mW ro mTab 240 360 [l0, l1, (some (.ref v)), l3, l4, l5, l6, l7] (.ref v :: st) h x := (g_step rfl rfl rfl rfl).trans rfl
set_option maxRecDepth 100000 in
theorem e240_360 {ro : Nat → Nat × (Nat → Int32)} {l1 l2 l3 l4 l5 l6 l7 : Option Value} {st : List Value} {h : List mCel} {x : Nat} {v : Nat} : mW ro mTab 240 360 [(some (.ref v)), l1, l2, l3, l4, l5, l6, l7] st h x = mW ro mTab 240 361 [(some (.ref v)), l1, l2, l3, l4, l5, l6, l7] (.ref v :: st) h x := (g_step rfl rfl rfl rfl).trans rfl
set_option maxRecDepth 100000 in
theorem e240_361 {ro : Nat → Nat × (Nat → Int32)} {l0 l1 l2 l3 l4 l6 l7 : Option Value} {st : List Value} {h : List mCel} {x : Nat} {v : Int32} : mW ro mTab 240 361 [l0, l1, l2, l3, l4, (some (.int v)), l6, l7] st h x = mW ro mTab 240 363 [l0, l1, l2, l3, l4, (some (.int v)), l6, l7] (.int v :: st) h x := (g_step rfl rfl rfl rfl).trans rfl
set_option maxRecDepth 100000 in
theorem e240_363 {ro : Nat → Nat × (Nat → Int32)} {l0 l1 l2 l3 l4 l5 l6 l7 : Option Value} {st : List Value} {h : List mCel} {x : Nat}  : mW ro mTab 240 363 [l0, l1, l2, l3, l4, l5, l6, l7] st h x = mW ro mTab 240 364 [l0, l1, l2, l3, l4, l5, l6, l7] (.int 1 :: st) h x := (g_step rfl rfl rfl rfl).trans rfl
set_option maxRecDepth 100000 in
theorem e240_364 {ro : Nat → Nat × (Nat → Int32)} {l0 l1 l2 l3 l4 l5 l6 l7 : Option Value} {st : List Value} {h : List mCel} {x : Nat} {a b : Int32} : mW ro mTab 240 364 [l0, l1, l2, l3, l4, l5, l6, l7] (.int b :: .int a :: st) h x = mW ro mTab 240 365 [l0, l1, l2, l3, l4, l5, l6, l7] (.int (a + b) :: st) h x := (g_step rfl rfl rfl rfl).trans rfl
set_option maxRecDepth 100000 in
theorem e240_365 {ro : Nat → Nat × (Nat → Int32)} {l0 l1 l2 l3 l4 l5 l6 l7 : Option Value} {st : List Value} {h : List mCel} {x : Nat} {a : Nat} {j : Int32} : mW ro mTab 240 365 [l0, l1, l2, l3, l4, l5, l6, l7] (.int j :: .ref a :: st) h x = kIA ro h a j fun v => mW ro mTab 240 366 [l0, l1, l2, l3, l4, l5, l6, l7] (.int v :: st) h x := g_iaload rfl rfl
set_option maxRecDepth 100000 in
theorem e240_366 {ro : Nat → Nat × (Nat → Int32)} {l1 l2 l3 l4 l5 l6 l7 : Option Value} {st : List Value} {h : List mCel} {x : Nat} {v : Nat} : mW ro mTab 240 366 [(some (.ref v)), l1, l2, l3, l4, l5, l6, l7] st h x = mW ro mTab 240 367 [(some (.ref v)), l1, l2, l3, l4, l5, l6, l7] (.ref v :: st) h x := (g_step rfl rfl rfl rfl).trans rfl
set_option maxRecDepth 100000 in
theorem e240_367 {ro : Nat → Nat × (Nat → Int32)} {l0 l1 l2 l3 l4 l6 l7 : Option Value} {st : List Value} {h : List mCel} {x : Nat} {v : Int32} : mW ro mTab 240 367 [l0, l1, l2, l3, l4, (some (.int v)), l6, l7] st h x = mW ro mTab 240 369 [l0, l1, l2, l3, l4, (some (.int v)), l6, l7] (.int v :: st) h x := (g_step rfl rfl rfl rfl).trans rfl
set_option maxRecDepth 100000 in
theorem e240_369 {ro : Nat → Nat × (Nat → Int32)} {l0 l1 l2 l3 l4 l5 l6 l7 : Option Value} {st : List Value} {h : List mCel} {x : Nat}  : mW ro mTab 240 369 [l0, l1, l2, l3, l4, l5, l6, l7] st h x = mW ro mTab 240 370 [l0, l1, l2, l3, l4, l5, l6, l7] (.int 2 :: st) h x := (g_step rfl rfl rfl rfl).trans rfl
set_option maxRecDepth 100000 in
theorem e240_370 {ro : Nat → Nat × (Nat → Int32)} {l0 l1 l2 l3 l4 l5 l6 l7 : Option Value} {st : List Value} {h : List mCel} {x : Nat} {a b : Int32} : mW ro mTab 240 370 [l0, l1, l2, l3, l4, l5, l6, l7] (.int b :: .int a :: st) h x = mW ro mTab 240 371 [l0, l1, l2, l3, l4, l5, l6, l7] (.int (a + b) :: st) h x := (g_step rfl rfl rfl rfl).trans rfl
set_option maxRecDepth 100000 in
theorem e240_371 {ro : Nat → Nat × (Nat → Int32)} {l0 l1 l2 l3 l4 l5 l6 l7 : Option Value} {st : List Value} {h : List mCel} {x : Nat} {a : Nat} {j : Int32} : mW ro mTab 240 371 [l0, l1, l2, l3, l4, l5, l6, l7] (.int j :: .ref a :: st) h x = kIA ro h a j fun v => mW ro mTab 240 372 [l0, l1, l2, l3, l4, l5, l6, l7] (.int v :: st) h x := g_iaload rfl rfl
set_option maxRecDepth 100000 in
theorem e240_372 {ro : Nat → Nat × (Nat → Int32)} {l0 l1 l2 l3 l4 l5 l6 l7 : Option Value} {st : List Value} {h : List mCel} {x : Nat} {a0 : Nat} {a1 : Int32} {a2 : Int32} (hr : kR (mCell h a0) 11 = true) (hs : (st.map Value.category).sum ≤ 8) : mW ro mTab 240 372 [l0, l1, l2, l3, l4, l5, l6, l7] (.int a2 :: .int a1 :: .ref a0 :: st) h x = mAft (mW ro mTab) (mHd mM_240) 240 372 [l0, l1, l2, l3, l4, l5, l6, l7] st (mW ro mTab 141 0 [some (.ref a0), some (.int a1), some (.int a2), none] [] h x) := g_call rfl rfl rfl rfl rfl rfl (g_rcv rfl hr) hs
set_option maxRecDepth 100000 in
theorem e240_375 {ro : Nat → Nat × (Nat → Int32)} {l0 l1 l3 l4 l5 l6 l7 : Option Value} {st : List Value} {h : List mCel} {x : Nat} {v : Nat} : mW ro mTab 240 375 [l0, l1, (some (.ref v)), l3, l4, l5, l6, l7] st h x = mW ro mTab 240 376 [l0, l1, (some (.ref v)), l3, l4, l5, l6, l7] (.ref v :: st) h x := (g_step rfl rfl rfl rfl).trans rfl
set_option maxRecDepth 100000 in
theorem e240_376 {ro : Nat → Nat × (Nat → Int32)} {l0 l1 l2 l3 l4 l5 l6 l7 : Option Value} {st : List Value} {h : List mCel} {x : Nat} {a0 : Nat} (hr : kR (mCell h a0) 11 = true) (hs : (st.map Value.category).sum ≤ 8) : mW ro mTab 240 376 [l0, l1, l2, l3, l4, l5, l6, l7] (.ref a0 :: st) h x = mAft (mW ro mTab) (mHd mM_240) 240 376 [l0, l1, l2, l3, l4, l5, l6, l7] st (mW ro mTab 137 0 [some (.ref a0)] [] h x) := g_call rfl rfl rfl rfl rfl rfl (g_rcv rfl hr) hs
set_option maxRecDepth 100000 in
theorem e240_379 {ro : Nat → Nat × (Nat → Int32)} {l0 l1 l2 l3 l4 l5 l7 : Option Value} {st : List Value} {h : List mCel} {x : Nat} {v : Int32} : mW ro mTab 240 379 [l0, l1, l2, l3, l4, l5, (some (.int v)), l7] st h x = mW ro mTab 240 381 [l0, l1, l2, l3, l4, l5, (some (.int v)), l7] (.int v :: st) h x := (g_step rfl rfl rfl rfl).trans rfl
set_option maxRecDepth 100000 in
theorem e240_381 {ro : Nat → Nat × (Nat → Int32)} {l0 l1 l2 l3 l4 l5 l6 l7 : Option Value} {st : List Value} {h : List mCel} {x : Nat} {a b : Int32} : mW ro mTab 240 381 [l0, l1, l2, l3, l4, l5, l6, l7] (.int b :: .int a :: st) h x = if a = b then mW ro mTab 240 386 [l0, l1, l2, l3, l4, l5, l6, l7] st h x else mW ro mTab 240 384 [l0, l1, l2, l3, l4, l5, l6, l7] st h x := g_icmp_eq rfl rfl rfl
set_option maxRecDepth 100000 in
theorem e240_384 {ro : Nat → Nat × (Nat → Int32)} {l0 l1 l2 l3 l4 l5 l6 l7 : Option Value} {st : List Value} {h : List mCel} {x : Nat}  : mW ro mTab 240 384 [l0, l1, l2, l3, l4, l5, l6, l7] st h x = mW ro mTab 240 385 [l0, l1, l2, l3, l4, l5, l6, l7] (.int 0 :: st) h x := (g_step rfl rfl rfl rfl).trans rfl
set_option maxRecDepth 100000 in
theorem e240_385 {ro : Nat → Nat × (Nat → Int32)} {l0 l1 l2 l3 l4 l5 l6 l7 : Option Value} {h : List mCel} {x : Nat} {v : Int32} (hv : v = 0 ∨ v = 1) : mW ro mTab 240 385 [l0, l1, l2, l3, l4, l5, l6, l7] [.int v] h x = some (.inl (some (.int v)), h, x) := g_zret rfl rfl rfl hv
set_option maxRecDepth 100000 in
theorem e240_386 {ro : Nat → Nat × (Nat → Int32)} {l0 l1 l2 l3 l4 l5 l6 l7 : Option Value} {st : List Value} {h : List mCel} {x : Nat}  : mW ro mTab 240 386 [l0, l1, l2, l3, l4, l5, l6, l7] st h x = mW ro mTab 240 1980 [l0, l1, l2, l3, l4, l5, l6, l7] st h x := (g_step rfl rfl rfl rfl).trans rfl
set_option maxRecDepth 100000 in
theorem e240_389 {ro : Nat → Nat × (Nat → Int32)} {l0 l2 l3 l4 l5 l6 l7 : Option Value} {st : List Value} {h : List mCel} {x : Nat} {v : Nat} : mW ro mTab 240 389 [l0, (some (.ref v)), l2, l3, l4, l5, l6, l7] st h x = mW ro mTab 240 390 [l0, (some (.ref v)), l2, l3, l4, l5, l6, l7] (.ref v :: st) h x := (g_step rfl rfl rfl rfl).trans rfl
set_option maxRecDepth 100000 in
theorem e240_390 {ro : Nat → Nat × (Nat → Int32)} {l1 l2 l3 l4 l5 l6 l7 : Option Value} {st : List Value} {h : List mCel} {x : Nat} {v : Nat} : mW ro mTab 240 390 [(some (.ref v)), l1, l2, l3, l4, l5, l6, l7] st h x = mW ro mTab 240 391 [(some (.ref v)), l1, l2, l3, l4, l5, l6, l7] (.ref v :: st) h x := (g_step rfl rfl rfl rfl).trans rfl
set_option maxRecDepth 100000 in
theorem e240_391 {ro : Nat → Nat × (Nat → Int32)} {l0 l1 l2 l3 l4 l6 l7 : Option Value} {st : List Value} {h : List mCel} {x : Nat} {v : Int32} : mW ro mTab 240 391 [l0, l1, l2, l3, l4, (some (.int v)), l6, l7] st h x = mW ro mTab 240 393 [l0, l1, l2, l3, l4, (some (.int v)), l6, l7] (.int v :: st) h x := (g_step rfl rfl rfl rfl).trans rfl
set_option maxRecDepth 100000 in
theorem e240_393 {ro : Nat → Nat × (Nat → Int32)} {l0 l1 l2 l3 l4 l5 l6 l7 : Option Value} {st : List Value} {h : List mCel} {x : Nat}  : mW ro mTab 240 393 [l0, l1, l2, l3, l4, l5, l6, l7] st h x = mW ro mTab 240 394 [l0, l1, l2, l3, l4, l5, l6, l7] (.int 1 :: st) h x := (g_step rfl rfl rfl rfl).trans rfl
set_option maxRecDepth 100000 in
theorem e240_394 {ro : Nat → Nat × (Nat → Int32)} {l0 l1 l2 l3 l4 l5 l6 l7 : Option Value} {st : List Value} {h : List mCel} {x : Nat} {a b : Int32} : mW ro mTab 240 394 [l0, l1, l2, l3, l4, l5, l6, l7] (.int b :: .int a :: st) h x = mW ro mTab 240 395 [l0, l1, l2, l3, l4, l5, l6, l7] (.int (a + b) :: st) h x := (g_step rfl rfl rfl rfl).trans rfl
set_option maxRecDepth 100000 in
theorem e240_395 {ro : Nat → Nat × (Nat → Int32)} {l0 l1 l2 l3 l4 l5 l6 l7 : Option Value} {st : List Value} {h : List mCel} {x : Nat} {a : Nat} {j : Int32} : mW ro mTab 240 395 [l0, l1, l2, l3, l4, l5, l6, l7] (.int j :: .ref a :: st) h x = kIA ro h a j fun v => mW ro mTab 240 396 [l0, l1, l2, l3, l4, l5, l6, l7] (.int v :: st) h x := g_iaload rfl rfl
set_option maxRecDepth 100000 in
theorem e240_396 {ro : Nat → Nat × (Nat → Int32)} {l0 l1 l2 l4 l5 l6 l7 : Option Value} {st : List Value} {h : List mCel} {x : Nat} {v : Nat} : mW ro mTab 240 396 [l0, l1, l2, (some (.ref v)), l4, l5, l6, l7] st h x = mW ro mTab 240 397 [l0, l1, l2, (some (.ref v)), l4, l5, l6, l7] (.ref v :: st) h x := (g_step rfl rfl rfl rfl).trans rfl
set_option maxRecDepth 100000 in
theorem e240_397 {ro : Nat → Nat × (Nat → Int32)} {l0 l1 l2 l3 l4 l5 l6 l7 : Option Value} {st : List Value} {h : List mCel} {x : Nat} {a0 : Nat} {a1 : Int32} {a2 : Nat} (hs : (st.map Value.category).sum ≤ 8) : mW ro mTab 240 397 [l0, l1, l2, l3, l4, l5, l6, l7] (.ref a2 :: .int a1 :: .ref a0 :: st) h x = mAft (mW ro mTab) (mHd mM_240) 240 397 [l0, l1, l2, l3, l4, l5, l6, l7] st (mW ro mTab 235 0 [some (.ref a0), some (.int a1), some (.ref a2), none] [] h x) := g_call rfl rfl rfl rfl rfl rfl rfl hs
set_option maxRecDepth 100000 in
theorem e240_400 {ro : Nat → Nat × (Nat → Int32)} {l0 l1 l2 l3 l4 l5 l6 l7 : Option Value} {st : List Value} {h : List mCel} {x : Nat} {v : Int32} : mW ro mTab 240 400 [l0, l1, l2, l3, l4, l5, l6, l7] (.int v :: st) h x = mW ro mTab 240 402 [l0, l1, l2, l3, l4, l5, (some (.int v)), l7] st h x := (g_step rfl rfl rfl rfl).trans rfl
set_option maxRecDepth 100000 in
theorem e240_402 {ro : Nat → Nat × (Nat → Int32)} {l0 l1 l3 l4 l5 l6 l7 : Option Value} {st : List Value} {h : List mCel} {x : Nat} {v : Nat} : mW ro mTab 240 402 [l0, l1, (some (.ref v)), l3, l4, l5, l6, l7] st h x = mW ro mTab 240 403 [l0, l1, (some (.ref v)), l3, l4, l5, l6, l7] (.ref v :: st) h x := (g_step rfl rfl rfl rfl).trans rfl
set_option maxRecDepth 100000 in
theorem e240_403 {ro : Nat → Nat × (Nat → Int32)} {l1 l2 l3 l4 l5 l6 l7 : Option Value} {st : List Value} {h : List mCel} {x : Nat} {v : Nat} : mW ro mTab 240 403 [(some (.ref v)), l1, l2, l3, l4, l5, l6, l7] st h x = mW ro mTab 240 404 [(some (.ref v)), l1, l2, l3, l4, l5, l6, l7] (.ref v :: st) h x := (g_step rfl rfl rfl rfl).trans rfl
set_option maxRecDepth 100000 in
theorem e240_404 {ro : Nat → Nat × (Nat → Int32)} {l0 l1 l2 l3 l4 l6 l7 : Option Value} {st : List Value} {h : List mCel} {x : Nat} {v : Int32} : mW ro mTab 240 404 [l0, l1, l2, l3, l4, (some (.int v)), l6, l7] st h x = mW ro mTab 240 406 [l0, l1, l2, l3, l4, (some (.int v)), l6, l7] (.int v :: st) h x := (g_step rfl rfl rfl rfl).trans rfl
set_option maxRecDepth 100000 in
theorem e240_406 {ro : Nat → Nat × (Nat → Int32)} {l0 l1 l2 l3 l4 l5 l6 l7 : Option Value} {st : List Value} {h : List mCel} {x : Nat}  : mW ro mTab 240 406 [l0, l1, l2, l3, l4, l5, l6, l7] st h x = mW ro mTab 240 407 [l0, l1, l2, l3, l4, l5, l6, l7] (.int 1 :: st) h x := (g_step rfl rfl rfl rfl).trans rfl
set_option maxRecDepth 100000 in
theorem e240_407 {ro : Nat → Nat × (Nat → Int32)} {l0 l1 l2 l3 l4 l5 l6 l7 : Option Value} {st : List Value} {h : List mCel} {x : Nat} {a b : Int32} : mW ro mTab 240 407 [l0, l1, l2, l3, l4, l5, l6, l7] (.int b :: .int a :: st) h x = mW ro mTab 240 408 [l0, l1, l2, l3, l4, l5, l6, l7] (.int (a + b) :: st) h x := (g_step rfl rfl rfl rfl).trans rfl
set_option maxRecDepth 100000 in
theorem e240_408 {ro : Nat → Nat × (Nat → Int32)} {l0 l1 l2 l3 l4 l5 l6 l7 : Option Value} {st : List Value} {h : List mCel} {x : Nat} {a : Nat} {j : Int32} : mW ro mTab 240 408 [l0, l1, l2, l3, l4, l5, l6, l7] (.int j :: .ref a :: st) h x = kIA ro h a j fun v => mW ro mTab 240 409 [l0, l1, l2, l3, l4, l5, l6, l7] (.int v :: st) h x := g_iaload rfl rfl
set_option maxRecDepth 100000 in
theorem e240_409 {ro : Nat → Nat × (Nat → Int32)} {l0 l1 l2 l3 l4 l5 l6 l7 : Option Value} {st : List Value} {h : List mCel} {x : Nat} {a0 : Nat} {a1 : Int32} (hr : kR (mCell h a0) 11 = true) (hs : (st.map Value.category).sum ≤ 8) : mW ro mTab 240 409 [l0, l1, l2, l3, l4, l5, l6, l7] (.int a1 :: .ref a0 :: st) h x = mAft (mW ro mTab) (mHd mM_240) 240 409 [l0, l1, l2, l3, l4, l5, l6, l7] st (mW ro mTab 84 0 [some (.ref a0), some (.int a1), none] [] h x) := g_call rfl rfl rfl rfl rfl rfl (g_rcv rfl hr) hs
set_option maxRecDepth 100000 in
theorem e240_412 {ro : Nat → Nat × (Nat → Int32)} {l0 l1 l2 l3 l4 l5 l6 l7 : Option Value} {st : List Value} {h : List mCel} {x : Nat} {v : Int32} : mW ro mTab 240 412 [l0, l1, l2, l3, l4, l5, l6, l7] (.int v :: st) h x = mW ro mTab 240 414 [l0, l1, l2, l3, l4, l5, l6, (some (.int v))] st h x := (g_step rfl rfl rfl rfl).trans rfl
set_option maxRecDepth 100000 in
theorem e240_414 {ro : Nat → Nat × (Nat → Int32)} {l0 l1 l3 l4 l5 l6 l7 : Option Value} {st : List Value} {h : List mCel} {x : Nat} {v : Nat} : mW ro mTab 240 414 [l0, l1, (some (.ref v)), l3, l4, l5, l6, l7] st h x = mW ro mTab 240 415 [l0, l1, (some (.ref v)), l3, l4, l5, l6, l7] (.ref v :: st) h x := (g_step rfl rfl rfl rfl).trans rfl
set_option maxRecDepth 100000 in
theorem e240_415 {ro : Nat → Nat × (Nat → Int32)} {l0 l1 l2 l3 l4 l5 l6 l7 : Option Value} {st : List Value} {h : List mCel} {x : Nat} {a0 : Nat} (hr : kR (mCell h a0) 11 = true) (hs : (st.map Value.category).sum ≤ 8) : mW ro mTab 240 415 [l0, l1, l2, l3, l4, l5, l6, l7] (.ref a0 :: st) h x = mAft (mW ro mTab) (mHd mM_240) 240 415 [l0, l1, l2, l3, l4, l5, l6, l7] st (mW ro mTab 137 0 [some (.ref a0)] [] h x) := g_call rfl rfl rfl rfl rfl rfl (g_rcv rfl hr) hs
set_option maxRecDepth 100000 in
theorem e240_418 {ro : Nat → Nat × (Nat → Int32)} {l0 l1 l2 l3 l4 l5 l7 : Option Value} {st : List Value} {h : List mCel} {x : Nat} {v : Int32} : mW ro mTab 240 418 [l0, l1, l2, l3, l4, l5, (some (.int v)), l7] st h x = mW ro mTab 240 420 [l0, l1, l2, l3, l4, l5, (some (.int v)), l7] (.int v :: st) h x := (g_step rfl rfl rfl rfl).trans rfl
set_option maxRecDepth 100000 in
theorem e240_420 {ro : Nat → Nat × (Nat → Int32)} {l0 l1 l2 l3 l4 l5 l6 l7 : Option Value} {st : List Value} {h : List mCel} {x : Nat} {a b : Int32} : mW ro mTab 240 420 [l0, l1, l2, l3, l4, l5, l6, l7] (.int b :: .int a :: st) h x = if a = b then mW ro mTab 240 425 [l0, l1, l2, l3, l4, l5, l6, l7] st h x else mW ro mTab 240 423 [l0, l1, l2, l3, l4, l5, l6, l7] st h x := g_icmp_eq rfl rfl rfl
set_option maxRecDepth 100000 in
theorem e240_423 {ro : Nat → Nat × (Nat → Int32)} {l0 l1 l2 l3 l4 l5 l6 l7 : Option Value} {st : List Value} {h : List mCel} {x : Nat}  : mW ro mTab 240 423 [l0, l1, l2, l3, l4, l5, l6, l7] st h x = mW ro mTab 240 424 [l0, l1, l2, l3, l4, l5, l6, l7] (.int 0 :: st) h x := (g_step rfl rfl rfl rfl).trans rfl
set_option maxRecDepth 100000 in
theorem e240_424 {ro : Nat → Nat × (Nat → Int32)} {l0 l1 l2 l3 l4 l5 l6 l7 : Option Value} {h : List mCel} {x : Nat} {v : Int32} (hv : v = 0 ∨ v = 1) : mW ro mTab 240 424 [l0, l1, l2, l3, l4, l5, l6, l7] [.int v] h x = some (.inl (some (.int v)), h, x) := g_zret rfl rfl rfl hv
set_option maxRecDepth 100000 in
theorem e240_425 {ro : Nat → Nat × (Nat → Int32)} {l0 l1 l2 l3 l4 l5 l7 : Option Value} {st : List Value} {h : List mCel} {x : Nat} {v : Int32} : mW ro mTab 240 425 [l0, l1, l2, l3, l4, l5, (some (.int v)), l7] st h x = mW ro mTab 240 427 [l0, l1, l2, l3, l4, l5, (some (.int v)), l7] (.int v :: st) h x := (g_step rfl rfl rfl rfl).trans rfl
set_option maxRecDepth 100000 in
theorem e240_427 {ro : Nat → Nat × (Nat → Int32)} {l0 l1 l2 l3 l4 l5 l6 l7 : Option Value} {st : List Value} {h : List mCel} {x : Nat} {a : Int32} : mW ro mTab 240 427 [l0, l1, l2, l3, l4, l5, l6, l7] (.int a :: st) h x = if ¬ a = 0 then mW ro mTab 240 442 [l0, l1, l2, l3, l4, l5, l6, l7] st h x else mW ro mTab 240 430 [l0, l1, l2, l3, l4, l5, l6, l7] st h x := g_if_ne rfl rfl rfl
set_option maxRecDepth 100000 in
theorem e240_430 {ro : Nat → Nat × (Nat → Int32)} {l0 l1 l2 l4 l5 l6 l7 : Option Value} {st : List Value} {h : List mCel} {x : Nat} {v : Nat} : mW ro mTab 240 430 [l0, l1, l2, (some (.ref v)), l4, l5, l6, l7] st h x = mW ro mTab 240 431 [l0, l1, l2, (some (.ref v)), l4, l5, l6, l7] (.ref v :: st) h x := (g_step rfl rfl rfl rfl).trans rfl
set_option maxRecDepth 100000 in
theorem e240_431 {ro : Nat → Nat × (Nat → Int32)} {l0 l1 l2 l3 l4 l5 l6 l7 : Option Value} {st : List Value} {h : List mCel} {x : Nat}  : mW ro mTab 240 431 [l0, l1, l2, l3, l4, l5, l6, l7] st h x = mW ro mTab 240 432 [l0, l1, l2, l3, l4, l5, l6, l7] (.int 0 :: st) h x := (g_step rfl rfl rfl rfl).trans rfl
set_option maxRecDepth 100000 in
theorem e240_432 {ro : Nat → Nat × (Nat → Int32)} {l0 l1 l2 l3 l4 l5 l6 l7 : Option Value} {st : List Value} {h : List mCel} {x : Nat} {a : Nat} {j : Int32} : mW ro mTab 240 432 [l0, l1, l2, l3, l4, l5, l6, l7] (.int j :: .ref a :: st) h x = kLA h a j fun v => mW ro mTab 240 433 [l0, l1, l2, l3, l4, l5, l6, l7] (.long v :: st) h x := g_laload rfl rfl
set_option maxRecDepth 100000 in
theorem e240_433 {ro : Nat → Nat × (Nat → Int32)} {l0 l1 l2 l3 l4 l5 l6 : Option Value} {st : List Value} {h : List mCel} {x : Nat} {v : Int32} : mW ro mTab 240 433 [l0, l1, l2, l3, l4, l5, l6, (some (.int v))] st h x = mW ro mTab 240 435 [l0, l1, l2, l3, l4, l5, l6, (some (.int v))] (.int v :: st) h x := (g_step rfl rfl rfl rfl).trans rfl
set_option maxRecDepth 100000 in
theorem e240_435 {ro : Nat → Nat × (Nat → Int32)} {l0 l1 l2 l3 l4 l5 l6 l7 : Option Value} {st : List Value} {h : List mCel} {x : Nat} {a : Int32} : mW ro mTab 240 435 [l0, l1, l2, l3, l4, l5, l6, l7] (.int a :: st) h x = mW ro mTab 240 436 [l0, l1, l2, l3, l4, l5, l6, l7] (.long a.toInt64 :: st) h x := (g_step rfl rfl rfl rfl).trans rfl
set_option maxRecDepth 100000 in
theorem e240_436 {ro : Nat → Nat × (Nat → Int32)} {l0 l1 l2 l3 l4 l5 l6 l7 : Option Value} {st : List Value} {h : List mCel} {x : Nat} {a b : Int64} : mW ro mTab 240 436 [l0, l1, l2, l3, l4, l5, l6, l7] (.long b :: .long a :: st) h x = mW ro mTab 240 437 [l0, l1, l2, l3, l4, l5, l6, l7] (.int (lg_cmp a b) :: st) h x := (g_step rfl rfl rfl rfl).trans rfl
set_option maxRecDepth 100000 in
theorem e240_437 {ro : Nat → Nat × (Nat → Int32)} {l0 l1 l2 l3 l4 l5 l6 l7 : Option Value} {st : List Value} {h : List mCel} {x : Nat} {a : Int32} : mW ro mTab 240 437 [l0, l1, l2, l3, l4, l5, l6, l7] (.int a :: st) h x = if a = 0 then mW ro mTab 240 442 [l0, l1, l2, l3, l4, l5, l6, l7] st h x else mW ro mTab 240 440 [l0, l1, l2, l3, l4, l5, l6, l7] st h x := g_if_eq rfl rfl rfl
set_option maxRecDepth 100000 in
theorem e240_440 {ro : Nat → Nat × (Nat → Int32)} {l0 l1 l2 l3 l4 l5 l6 l7 : Option Value} {st : List Value} {h : List mCel} {x : Nat}  : mW ro mTab 240 440 [l0, l1, l2, l3, l4, l5, l6, l7] st h x = mW ro mTab 240 441 [l0, l1, l2, l3, l4, l5, l6, l7] (.int 0 :: st) h x := (g_step rfl rfl rfl rfl).trans rfl
set_option maxRecDepth 100000 in
theorem e240_441 {ro : Nat → Nat × (Nat → Int32)} {l0 l1 l2 l3 l4 l5 l6 l7 : Option Value} {h : List mCel} {x : Nat} {v : Int32} (hv : v = 0 ∨ v = 1) : mW ro mTab 240 441 [l0, l1, l2, l3, l4, l5, l6, l7] [.int v] h x = some (.inl (some (.int v)), h, x) := g_zret rfl rfl rfl hv
set_option maxRecDepth 100000 in
theorem e240_442 {ro : Nat → Nat × (Nat → Int32)} {l0 l1 l2 l3 l4 l5 l6 l7 : Option Value} {st : List Value} {h : List mCel} {x : Nat}  : mW ro mTab 240 442 [l0, l1, l2, l3, l4, l5, l6, l7] st h x = mW ro mTab 240 1980 [l0, l1, l2, l3, l4, l5, l6, l7] st h x := (g_step rfl rfl rfl rfl).trans rfl
set_option maxRecDepth 100000 in
theorem e240_445 {ro : Nat → Nat × (Nat → Int32)} {l0 l2 l3 l4 l5 l6 l7 : Option Value} {st : List Value} {h : List mCel} {x : Nat} {v : Nat} : mW ro mTab 240 445 [l0, (some (.ref v)), l2, l3, l4, l5, l6, l7] st h x = mW ro mTab 240 446 [l0, (some (.ref v)), l2, l3, l4, l5, l6, l7] (.ref v :: st) h x := (g_step rfl rfl rfl rfl).trans rfl
set_option maxRecDepth 100000 in
theorem e240_446 {ro : Nat → Nat × (Nat → Int32)} {l1 l2 l3 l4 l5 l6 l7 : Option Value} {st : List Value} {h : List mCel} {x : Nat} {v : Nat} : mW ro mTab 240 446 [(some (.ref v)), l1, l2, l3, l4, l5, l6, l7] st h x = mW ro mTab 240 447 [(some (.ref v)), l1, l2, l3, l4, l5, l6, l7] (.ref v :: st) h x := (g_step rfl rfl rfl rfl).trans rfl
set_option maxRecDepth 100000 in
theorem e240_447 {ro : Nat → Nat × (Nat → Int32)} {l0 l1 l2 l3 l4 l6 l7 : Option Value} {st : List Value} {h : List mCel} {x : Nat} {v : Int32} : mW ro mTab 240 447 [l0, l1, l2, l3, l4, (some (.int v)), l6, l7] st h x = mW ro mTab 240 449 [l0, l1, l2, l3, l4, (some (.int v)), l6, l7] (.int v :: st) h x := (g_step rfl rfl rfl rfl).trans rfl
set_option maxRecDepth 100000 in
theorem e240_449 {ro : Nat → Nat × (Nat → Int32)} {l0 l1 l2 l3 l4 l5 l6 l7 : Option Value} {st : List Value} {h : List mCel} {x : Nat}  : mW ro mTab 240 449 [l0, l1, l2, l3, l4, l5, l6, l7] st h x = mW ro mTab 240 450 [l0, l1, l2, l3, l4, l5, l6, l7] (.int 1 :: st) h x := (g_step rfl rfl rfl rfl).trans rfl
set_option maxRecDepth 100000 in
theorem e240_450 {ro : Nat → Nat × (Nat → Int32)} {l0 l1 l2 l3 l4 l5 l6 l7 : Option Value} {st : List Value} {h : List mCel} {x : Nat} {a b : Int32} : mW ro mTab 240 450 [l0, l1, l2, l3, l4, l5, l6, l7] (.int b :: .int a :: st) h x = mW ro mTab 240 451 [l0, l1, l2, l3, l4, l5, l6, l7] (.int (a + b) :: st) h x := (g_step rfl rfl rfl rfl).trans rfl
set_option maxRecDepth 100000 in
theorem e240_451 {ro : Nat → Nat × (Nat → Int32)} {l0 l1 l2 l3 l4 l5 l6 l7 : Option Value} {st : List Value} {h : List mCel} {x : Nat} {a : Nat} {j : Int32} : mW ro mTab 240 451 [l0, l1, l2, l3, l4, l5, l6, l7] (.int j :: .ref a :: st) h x = kIA ro h a j fun v => mW ro mTab 240 452 [l0, l1, l2, l3, l4, l5, l6, l7] (.int v :: st) h x := g_iaload rfl rfl
set_option maxRecDepth 100000 in
theorem e240_452 {ro : Nat → Nat × (Nat → Int32)} {l0 l1 l2 l4 l5 l6 l7 : Option Value} {st : List Value} {h : List mCel} {x : Nat} {v : Nat} : mW ro mTab 240 452 [l0, l1, l2, (some (.ref v)), l4, l5, l6, l7] st h x = mW ro mTab 240 453 [l0, l1, l2, (some (.ref v)), l4, l5, l6, l7] (.ref v :: st) h x := (g_step rfl rfl rfl rfl).trans rfl
set_option maxRecDepth 100000 in
theorem e240_453 {ro : Nat → Nat × (Nat → Int32)} {l0 l1 l2 l3 l4 l5 l6 l7 : Option Value} {st : List Value} {h : List mCel} {x : Nat} {a0 : Nat} {a1 : Int32} {a2 : Nat} (hs : (st.map Value.category).sum ≤ 8) : mW ro mTab 240 453 [l0, l1, l2, l3, l4, l5, l6, l7] (.ref a2 :: .int a1 :: .ref a0 :: st) h x = mAft (mW ro mTab) (mHd mM_240) 240 453 [l0, l1, l2, l3, l4, l5, l6, l7] st (mW ro mTab 241 0 [some (.ref a0), some (.int a1), some (.ref a2), none] [] h x) := g_call rfl rfl rfl rfl rfl rfl rfl hs
set_option maxRecDepth 100000 in
theorem e240_456 {ro : Nat → Nat × (Nat → Int32)} {l0 l1 l2 l3 l4 l5 l6 l7 : Option Value} {st : List Value} {h : List mCel} {x : Nat} {v : Int32} : mW ro mTab 240 456 [l0, l1, l2, l3, l4, l5, l6, l7] (.int v :: st) h x = mW ro mTab 240 458 [l0, l1, l2, l3, l4, l5, (some (.int v)), l7] st h x := (g_step rfl rfl rfl rfl).trans rfl
set_option maxRecDepth 100000 in
theorem e240_458 {ro : Nat → Nat × (Nat → Int32)} {l0 l1 l3 l4 l5 l6 l7 : Option Value} {st : List Value} {h : List mCel} {x : Nat} {v : Nat} : mW ro mTab 240 458 [l0, l1, (some (.ref v)), l3, l4, l5, l6, l7] st h x = mW ro mTab 240 459 [l0, l1, (some (.ref v)), l3, l4, l5, l6, l7] (.ref v :: st) h x := (g_step rfl rfl rfl rfl).trans rfl
set_option maxRecDepth 100000 in
theorem e240_459 {ro : Nat → Nat × (Nat → Int32)} {l1 l2 l3 l4 l5 l6 l7 : Option Value} {st : List Value} {h : List mCel} {x : Nat} {v : Nat} : mW ro mTab 240 459 [(some (.ref v)), l1, l2, l3, l4, l5, l6, l7] st h x = mW ro mTab 240 460 [(some (.ref v)), l1, l2, l3, l4, l5, l6, l7] (.ref v :: st) h x := (g_step rfl rfl rfl rfl).trans rfl
set_option maxRecDepth 100000 in
theorem e240_460 {ro : Nat → Nat × (Nat → Int32)} {l0 l1 l2 l3 l4 l6 l7 : Option Value} {st : List Value} {h : List mCel} {x : Nat} {v : Int32} : mW ro mTab 240 460 [l0, l1, l2, l3, l4, (some (.int v)), l6, l7] st h x = mW ro mTab 240 462 [l0, l1, l2, l3, l4, (some (.int v)), l6, l7] (.int v :: st) h x := (g_step rfl rfl rfl rfl).trans rfl
set_option maxRecDepth 100000 in
theorem e240_462 {ro : Nat → Nat × (Nat → Int32)} {l0 l1 l2 l3 l4 l5 l6 l7 : Option Value} {st : List Value} {h : List mCel} {x : Nat}  : mW ro mTab 240 462 [l0, l1, l2, l3, l4, l5, l6, l7] st h x = mW ro mTab 240 463 [l0, l1, l2, l3, l4, l5, l6, l7] (.int 1 :: st) h x := (g_step rfl rfl rfl rfl).trans rfl
set_option maxRecDepth 100000 in
theorem e240_463 {ro : Nat → Nat × (Nat → Int32)} {l0 l1 l2 l3 l4 l5 l6 l7 : Option Value} {st : List Value} {h : List mCel} {x : Nat} {a b : Int32} : mW ro mTab 240 463 [l0, l1, l2, l3, l4, l5, l6, l7] (.int b :: .int a :: st) h x = mW ro mTab 240 464 [l0, l1, l2, l3, l4, l5, l6, l7] (.int (a + b) :: st) h x := (g_step rfl rfl rfl rfl).trans rfl
set_option maxRecDepth 100000 in
theorem e240_464 {ro : Nat → Nat × (Nat → Int32)} {l0 l1 l2 l3 l4 l5 l6 l7 : Option Value} {st : List Value} {h : List mCel} {x : Nat} {a : Nat} {j : Int32} : mW ro mTab 240 464 [l0, l1, l2, l3, l4, l5, l6, l7] (.int j :: .ref a :: st) h x = kIA ro h a j fun v => mW ro mTab 240 465 [l0, l1, l2, l3, l4, l5, l6, l7] (.int v :: st) h x := g_iaload rfl rfl
set_option maxRecDepth 100000 in
theorem e240_465 {ro : Nat → Nat × (Nat → Int32)} {l0 l1 l2 l3 l4 l5 l6 l7 : Option Value} {st : List Value} {h : List mCel} {x : Nat} {a0 : Nat} {a1 : Int32} (hr : kR (mCell h a0) 11 = true) (hs : (st.map Value.category).sum ≤ 8) : mW ro mTab 240 465 [l0, l1, l2, l3, l4, l5, l6, l7] (.int a1 :: .ref a0 :: st) h x = mAft (mW ro mTab) (mHd mM_240) 240 465 [l0, l1, l2, l3, l4, l5, l6, l7] st (mW ro mTab 117 0 [some (.ref a0), some (.int a1), none] [] h x) := g_call rfl rfl rfl rfl rfl rfl (g_rcv rfl hr) hs
set_option maxRecDepth 100000 in
theorem e240_468 {ro : Nat → Nat × (Nat → Int32)} {l0 l1 l2 l3 l4 l5 l6 l7 : Option Value} {st : List Value} {h : List mCel} {x : Nat} {v : Int32} : mW ro mTab 240 468 [l0, l1, l2, l3, l4, l5, l6, l7] (.int v :: st) h x = mW ro mTab 240 470 [l0, l1, l2, l3, l4, l5, l6, (some (.int v))] st h x := (g_step rfl rfl rfl rfl).trans rfl
set_option maxRecDepth 100000 in
theorem e240_470 {ro : Nat → Nat × (Nat → Int32)} {l0 l1 l3 l4 l5 l6 l7 : Option Value} {st : List Value} {h : List mCel} {x : Nat} {v : Nat} : mW ro mTab 240 470 [l0, l1, (some (.ref v)), l3, l4, l5, l6, l7] st h x = mW ro mTab 240 471 [l0, l1, (some (.ref v)), l3, l4, l5, l6, l7] (.ref v :: st) h x := (g_step rfl rfl rfl rfl).trans rfl
set_option maxRecDepth 100000 in
theorem e240_471 {ro : Nat → Nat × (Nat → Int32)} {l0 l1 l2 l3 l4 l5 l6 l7 : Option Value} {st : List Value} {h : List mCel} {x : Nat} {a0 : Nat} (hr : kR (mCell h a0) 11 = true) (hs : (st.map Value.category).sum ≤ 8) : mW ro mTab 240 471 [l0, l1, l2, l3, l4, l5, l6, l7] (.ref a0 :: st) h x = mAft (mW ro mTab) (mHd mM_240) 240 471 [l0, l1, l2, l3, l4, l5, l6, l7] st (mW ro mTab 137 0 [some (.ref a0)] [] h x) := g_call rfl rfl rfl rfl rfl rfl (g_rcv rfl hr) hs
set_option maxRecDepth 100000 in
theorem e240_474 {ro : Nat → Nat × (Nat → Int32)} {l0 l1 l2 l3 l4 l5 l7 : Option Value} {st : List Value} {h : List mCel} {x : Nat} {v : Int32} : mW ro mTab 240 474 [l0, l1, l2, l3, l4, l5, (some (.int v)), l7] st h x = mW ro mTab 240 476 [l0, l1, l2, l3, l4, l5, (some (.int v)), l7] (.int v :: st) h x := (g_step rfl rfl rfl rfl).trans rfl
set_option maxRecDepth 100000 in
theorem e240_476 {ro : Nat → Nat × (Nat → Int32)} {l0 l1 l2 l3 l4 l5 l6 l7 : Option Value} {st : List Value} {h : List mCel} {x : Nat} {a b : Int32} : mW ro mTab 240 476 [l0, l1, l2, l3, l4, l5, l6, l7] (.int b :: .int a :: st) h x = if a = b then mW ro mTab 240 481 [l0, l1, l2, l3, l4, l5, l6, l7] st h x else mW ro mTab 240 479 [l0, l1, l2, l3, l4, l5, l6, l7] st h x := g_icmp_eq rfl rfl rfl
set_option maxRecDepth 100000 in
theorem e240_479 {ro : Nat → Nat × (Nat → Int32)} {l0 l1 l2 l3 l4 l5 l6 l7 : Option Value} {st : List Value} {h : List mCel} {x : Nat}  : mW ro mTab 240 479 [l0, l1, l2, l3, l4, l5, l6, l7] st h x = mW ro mTab 240 480 [l0, l1, l2, l3, l4, l5, l6, l7] (.int 0 :: st) h x := (g_step rfl rfl rfl rfl).trans rfl
set_option maxRecDepth 100000 in
theorem e240_480 {ro : Nat → Nat × (Nat → Int32)} {l0 l1 l2 l3 l4 l5 l6 l7 : Option Value} {h : List mCel} {x : Nat} {v : Int32} (hv : v = 0 ∨ v = 1) : mW ro mTab 240 480 [l0, l1, l2, l3, l4, l5, l6, l7] [.int v] h x = some (.inl (some (.int v)), h, x) := g_zret rfl rfl rfl hv
set_option maxRecDepth 100000 in
theorem e240_481 {ro : Nat → Nat × (Nat → Int32)} {l0 l1 l2 l3 l4 l5 l7 : Option Value} {st : List Value} {h : List mCel} {x : Nat} {v : Int32} : mW ro mTab 240 481 [l0, l1, l2, l3, l4, l5, (some (.int v)), l7] st h x = mW ro mTab 240 483 [l0, l1, l2, l3, l4, l5, (some (.int v)), l7] (.int v :: st) h x := (g_step rfl rfl rfl rfl).trans rfl
set_option maxRecDepth 100000 in
theorem e240_483 {ro : Nat → Nat × (Nat → Int32)} {l0 l1 l2 l3 l4 l5 l6 l7 : Option Value} {st : List Value} {h : List mCel} {x : Nat} {a : Int32} : mW ro mTab 240 483 [l0, l1, l2, l3, l4, l5, l6, l7] (.int a :: st) h x = if ¬ a = 0 then mW ro mTab 240 498 [l0, l1, l2, l3, l4, l5, l6, l7] st h x else mW ro mTab 240 486 [l0, l1, l2, l3, l4, l5, l6, l7] st h x := g_if_ne rfl rfl rfl
set_option maxRecDepth 100000 in
theorem e240_486 {ro : Nat → Nat × (Nat → Int32)} {l0 l1 l2 l4 l5 l6 l7 : Option Value} {st : List Value} {h : List mCel} {x : Nat} {v : Nat} : mW ro mTab 240 486 [l0, l1, l2, (some (.ref v)), l4, l5, l6, l7] st h x = mW ro mTab 240 487 [l0, l1, l2, (some (.ref v)), l4, l5, l6, l7] (.ref v :: st) h x := (g_step rfl rfl rfl rfl).trans rfl
set_option maxRecDepth 100000 in
theorem e240_487 {ro : Nat → Nat × (Nat → Int32)} {l0 l1 l2 l3 l4 l5 l6 l7 : Option Value} {st : List Value} {h : List mCel} {x : Nat}  : mW ro mTab 240 487 [l0, l1, l2, l3, l4, l5, l6, l7] st h x = mW ro mTab 240 488 [l0, l1, l2, l3, l4, l5, l6, l7] (.int 0 :: st) h x := (g_step rfl rfl rfl rfl).trans rfl
set_option maxRecDepth 100000 in
theorem e240_488 {ro : Nat → Nat × (Nat → Int32)} {l0 l1 l2 l3 l4 l5 l6 l7 : Option Value} {st : List Value} {h : List mCel} {x : Nat} {a : Nat} {j : Int32} : mW ro mTab 240 488 [l0, l1, l2, l3, l4, l5, l6, l7] (.int j :: .ref a :: st) h x = kLA h a j fun v => mW ro mTab 240 489 [l0, l1, l2, l3, l4, l5, l6, l7] (.long v :: st) h x := g_laload rfl rfl
set_option maxRecDepth 100000 in
theorem e240_489 {ro : Nat → Nat × (Nat → Int32)} {l0 l1 l2 l3 l4 l5 l6 : Option Value} {st : List Value} {h : List mCel} {x : Nat} {v : Int32} : mW ro mTab 240 489 [l0, l1, l2, l3, l4, l5, l6, (some (.int v))] st h x = mW ro mTab 240 491 [l0, l1, l2, l3, l4, l5, l6, (some (.int v))] (.int v :: st) h x := (g_step rfl rfl rfl rfl).trans rfl
set_option maxRecDepth 100000 in
theorem e240_491 {ro : Nat → Nat × (Nat → Int32)} {l0 l1 l2 l3 l4 l5 l6 l7 : Option Value} {st : List Value} {h : List mCel} {x : Nat} {a : Int32} : mW ro mTab 240 491 [l0, l1, l2, l3, l4, l5, l6, l7] (.int a :: st) h x = mW ro mTab 240 492 [l0, l1, l2, l3, l4, l5, l6, l7] (.long a.toInt64 :: st) h x := (g_step rfl rfl rfl rfl).trans rfl
set_option maxRecDepth 100000 in
theorem e240_492 {ro : Nat → Nat × (Nat → Int32)} {l0 l1 l2 l3 l4 l5 l6 l7 : Option Value} {st : List Value} {h : List mCel} {x : Nat} {a b : Int64} : mW ro mTab 240 492 [l0, l1, l2, l3, l4, l5, l6, l7] (.long b :: .long a :: st) h x = mW ro mTab 240 493 [l0, l1, l2, l3, l4, l5, l6, l7] (.int (lg_cmp a b) :: st) h x := (g_step rfl rfl rfl rfl).trans rfl
set_option maxRecDepth 100000 in
theorem e240_493 {ro : Nat → Nat × (Nat → Int32)} {l0 l1 l2 l3 l4 l5 l6 l7 : Option Value} {st : List Value} {h : List mCel} {x : Nat} {a : Int32} : mW ro mTab 240 493 [l0, l1, l2, l3, l4, l5, l6, l7] (.int a :: st) h x = if a = 0 then mW ro mTab 240 498 [l0, l1, l2, l3, l4, l5, l6, l7] st h x else mW ro mTab 240 496 [l0, l1, l2, l3, l4, l5, l6, l7] st h x := g_if_eq rfl rfl rfl
set_option maxRecDepth 100000 in
theorem e240_496 {ro : Nat → Nat × (Nat → Int32)} {l0 l1 l2 l3 l4 l5 l6 l7 : Option Value} {st : List Value} {h : List mCel} {x : Nat}  : mW ro mTab 240 496 [l0, l1, l2, l3, l4, l5, l6, l7] st h x = mW ro mTab 240 497 [l0, l1, l2, l3, l4, l5, l6, l7] (.int 0 :: st) h x := (g_step rfl rfl rfl rfl).trans rfl
set_option maxRecDepth 100000 in
theorem e240_497 {ro : Nat → Nat × (Nat → Int32)} {l0 l1 l2 l3 l4 l5 l6 l7 : Option Value} {h : List mCel} {x : Nat} {v : Int32} (hv : v = 0 ∨ v = 1) : mW ro mTab 240 497 [l0, l1, l2, l3, l4, l5, l6, l7] [.int v] h x = some (.inl (some (.int v)), h, x) := g_zret rfl rfl rfl hv
set_option maxRecDepth 100000 in
theorem e240_498 {ro : Nat → Nat × (Nat → Int32)} {l0 l1 l2 l3 l4 l5 l6 l7 : Option Value} {st : List Value} {h : List mCel} {x : Nat}  : mW ro mTab 240 498 [l0, l1, l2, l3, l4, l5, l6, l7] st h x = mW ro mTab 240 1980 [l0, l1, l2, l3, l4, l5, l6, l7] st h x := (g_step rfl rfl rfl rfl).trans rfl
set_option maxRecDepth 100000 in
theorem e240_501 {ro : Nat → Nat × (Nat → Int32)} {l0 l2 l3 l4 l5 l6 l7 : Option Value} {st : List Value} {h : List mCel} {x : Nat} {v : Nat} : mW ro mTab 240 501 [l0, (some (.ref v)), l2, l3, l4, l5, l6, l7] st h x = mW ro mTab 240 502 [l0, (some (.ref v)), l2, l3, l4, l5, l6, l7] (.ref v :: st) h x := (g_step rfl rfl rfl rfl).trans rfl
set_option maxRecDepth 100000 in
theorem e240_502 {ro : Nat → Nat × (Nat → Int32)} {l1 l2 l3 l4 l5 l6 l7 : Option Value} {st : List Value} {h : List mCel} {x : Nat} {v : Nat} : mW ro mTab 240 502 [(some (.ref v)), l1, l2, l3, l4, l5, l6, l7] st h x = mW ro mTab 240 503 [(some (.ref v)), l1, l2, l3, l4, l5, l6, l7] (.ref v :: st) h x := (g_step rfl rfl rfl rfl).trans rfl
set_option maxRecDepth 100000 in
theorem e240_503 {ro : Nat → Nat × (Nat → Int32)} {l0 l1 l2 l3 l4 l6 l7 : Option Value} {st : List Value} {h : List mCel} {x : Nat} {v : Int32} : mW ro mTab 240 503 [l0, l1, l2, l3, l4, (some (.int v)), l6, l7] st h x = mW ro mTab 240 505 [l0, l1, l2, l3, l4, (some (.int v)), l6, l7] (.int v :: st) h x := (g_step rfl rfl rfl rfl).trans rfl
set_option maxRecDepth 100000 in
theorem e240_505 {ro : Nat → Nat × (Nat → Int32)} {l0 l1 l2 l3 l4 l5 l6 l7 : Option Value} {st : List Value} {h : List mCel} {x : Nat}  : mW ro mTab 240 505 [l0, l1, l2, l3, l4, l5, l6, l7] st h x = mW ro mTab 240 506 [l0, l1, l2, l3, l4, l5, l6, l7] (.int 1 :: st) h x := (g_step rfl rfl rfl rfl).trans rfl
set_option maxRecDepth 100000 in
theorem e240_506 {ro : Nat → Nat × (Nat → Int32)} {l0 l1 l2 l3 l4 l5 l6 l7 : Option Value} {st : List Value} {h : List mCel} {x : Nat} {a b : Int32} : mW ro mTab 240 506 [l0, l1, l2, l3, l4, l5, l6, l7] (.int b :: .int a :: st) h x = mW ro mTab 240 507 [l0, l1, l2, l3, l4, l5, l6, l7] (.int (a + b) :: st) h x := (g_step rfl rfl rfl rfl).trans rfl
set_option maxRecDepth 100000 in
theorem e240_507 {ro : Nat → Nat × (Nat → Int32)} {l0 l1 l2 l3 l4 l5 l6 l7 : Option Value} {st : List Value} {h : List mCel} {x : Nat} {a : Nat} {j : Int32} : mW ro mTab 240 507 [l0, l1, l2, l3, l4, l5, l6, l7] (.int j :: .ref a :: st) h x = kIA ro h a j fun v => mW ro mTab 240 508 [l0, l1, l2, l3, l4, l5, l6, l7] (.int v :: st) h x := g_iaload rfl rfl
set_option maxRecDepth 100000 in
theorem e240_508 {ro : Nat → Nat × (Nat → Int32)} {l1 l2 l3 l4 l5 l6 l7 : Option Value} {st : List Value} {h : List mCel} {x : Nat} {v : Nat} : mW ro mTab 240 508 [(some (.ref v)), l1, l2, l3, l4, l5, l6, l7] st h x = mW ro mTab 240 509 [(some (.ref v)), l1, l2, l3, l4, l5, l6, l7] (.ref v :: st) h x := (g_step rfl rfl rfl rfl).trans rfl
set_option maxRecDepth 100000 in
theorem e240_509 {ro : Nat → Nat × (Nat → Int32)} {l0 l1 l2 l3 l4 l6 l7 : Option Value} {st : List Value} {h : List mCel} {x : Nat} {v : Int32} : mW ro mTab 240 509 [l0, l1, l2, l3, l4, (some (.int v)), l6, l7] st h x = mW ro mTab 240 511 [l0, l1, l2, l3, l4, (some (.int v)), l6, l7] (.int v :: st) h x := (g_step rfl rfl rfl rfl).trans rfl
set_option maxRecDepth 100000 in
theorem e240_511 {ro : Nat → Nat × (Nat → Int32)} {l0 l1 l2 l3 l4 l5 l6 l7 : Option Value} {st : List Value} {h : List mCel} {x : Nat}  : mW ro mTab 240 511 [l0, l1, l2, l3, l4, l5, l6, l7] st h x = mW ro mTab 240 512 [l0, l1, l2, l3, l4, l5, l6, l7] (.int 2 :: st) h x := (g_step rfl rfl rfl rfl).trans rfl
set_option maxRecDepth 100000 in
theorem e240_512 {ro : Nat → Nat × (Nat → Int32)} {l0 l1 l2 l3 l4 l5 l6 l7 : Option Value} {st : List Value} {h : List mCel} {x : Nat} {a b : Int32} : mW ro mTab 240 512 [l0, l1, l2, l3, l4, l5, l6, l7] (.int b :: .int a :: st) h x = mW ro mTab 240 513 [l0, l1, l2, l3, l4, l5, l6, l7] (.int (a + b) :: st) h x := (g_step rfl rfl rfl rfl).trans rfl
set_option maxRecDepth 100000 in
theorem e240_513 {ro : Nat → Nat × (Nat → Int32)} {l0 l1 l2 l3 l4 l5 l6 l7 : Option Value} {st : List Value} {h : List mCel} {x : Nat} {a : Nat} {j : Int32} : mW ro mTab 240 513 [l0, l1, l2, l3, l4, l5, l6, l7] (.int j :: .ref a :: st) h x = kIA ro h a j fun v => mW ro mTab 240 514 [l0, l1, l2, l3, l4, l5, l6, l7] (.int v :: st) h x := g_iaload rfl rfl
set_option maxRecDepth 100000 in
theorem e240_514 {ro : Nat → Nat × (Nat → Int32)} {l0 l1 l2 l4 l5 l6 l7 : Option Value} {st : List Value} {h : List mCel} {x : Nat} {v : Nat} : mW ro mTab 240 514 [l0, l1, l2, (some (.ref v)), l4, l5, l6, l7] st h x = mW ro mTab 240 515 [l0, l1, l2, (some (.ref v)), l4, l5, l6, l7] (.ref v :: st) h x := (g_step rfl rfl rfl rfl).trans rfl
set_option maxRecDepth 100000 in
theorem e240_515 {ro : Nat → Nat × (Nat → Int32)} {l0 l1 l2 l3 l4 l5 l6 l7 : Option Value} {st : List Value} {h : List mCel} {x : Nat} {a0 : Nat} {a1 : Int32} {a2 : Int32} {a3 : Nat} (hs : (st.map Value.category).sum ≤ 8) : mW ro mTab 240 515 [l0, l1, l2, l3, l4, l5, l6, l7] (.ref a3 :: .int a2 :: .int a1 :: .ref a0 :: st) h x = mAft (mW ro mTab) (mHd mM_240) 240 515 [l0, l1, l2, l3, l4, l5, l6, l7] st (mW ro mTab 233 0 [some (.ref a0), some (.int a1), some (.int a2), some (.ref a3), none] [] h x) := g_call rfl rfl rfl rfl rfl rfl rfl hs
set_option maxRecDepth 100000 in
theorem e240_518 {ro : Nat → Nat × (Nat → Int32)} {l0 l1 l2 l3 l4 l5 l6 l7 : Option Value} {st : List Value} {h : List mCel} {x : Nat} {v : Int32} : mW ro mTab 240 518 [l0, l1, l2, l3, l4, l5, l6, l7] (.int v :: st) h x = mW ro mTab 240 520 [l0, l1, l2, l3, l4, l5, (some (.int v)), l7] st h x := (g_step rfl rfl rfl rfl).trans rfl
set_option maxRecDepth 100000 in
theorem e240_520 {ro : Nat → Nat × (Nat → Int32)} {l0 l1 l3 l4 l5 l6 l7 : Option Value} {st : List Value} {h : List mCel} {x : Nat} {v : Nat} : mW ro mTab 240 520 [l0, l1, (some (.ref v)), l3, l4, l5, l6, l7] st h x = mW ro mTab 240 521 [l0, l1, (some (.ref v)), l3, l4, l5, l6, l7] (.ref v :: st) h x := (g_step rfl rfl rfl rfl).trans rfl
set_option maxRecDepth 100000 in
theorem e240_521 {ro : Nat → Nat × (Nat → Int32)} {l1 l2 l3 l4 l5 l6 l7 : Option Value} {st : List Value} {h : List mCel} {x : Nat} {v : Nat} : mW ro mTab 240 521 [(some (.ref v)), l1, l2, l3, l4, l5, l6, l7] st h x = mW ro mTab 240 522 [(some (.ref v)), l1, l2, l3, l4, l5, l6, l7] (.ref v :: st) h x := (g_step rfl rfl rfl rfl).trans rfl
set_option maxRecDepth 100000 in
theorem e240_522 {ro : Nat → Nat × (Nat → Int32)} {l0 l1 l2 l3 l4 l6 l7 : Option Value} {st : List Value} {h : List mCel} {x : Nat} {v : Int32} : mW ro mTab 240 522 [l0, l1, l2, l3, l4, (some (.int v)), l6, l7] st h x = mW ro mTab 240 524 [l0, l1, l2, l3, l4, (some (.int v)), l6, l7] (.int v :: st) h x := (g_step rfl rfl rfl rfl).trans rfl
set_option maxRecDepth 100000 in
theorem e240_524 {ro : Nat → Nat × (Nat → Int32)} {l0 l1 l2 l3 l4 l5 l6 l7 : Option Value} {st : List Value} {h : List mCel} {x : Nat}  : mW ro mTab 240 524 [l0, l1, l2, l3, l4, l5, l6, l7] st h x = mW ro mTab 240 525 [l0, l1, l2, l3, l4, l5, l6, l7] (.int 1 :: st) h x := (g_step rfl rfl rfl rfl).trans rfl
set_option maxRecDepth 100000 in
theorem e240_525 {ro : Nat → Nat × (Nat → Int32)} {l0 l1 l2 l3 l4 l5 l6 l7 : Option Value} {st : List Value} {h : List mCel} {x : Nat} {a b : Int32} : mW ro mTab 240 525 [l0, l1, l2, l3, l4, l5, l6, l7] (.int b :: .int a :: st) h x = mW ro mTab 240 526 [l0, l1, l2, l3, l4, l5, l6, l7] (.int (a + b) :: st) h x := (g_step rfl rfl rfl rfl).trans rfl
set_option maxRecDepth 100000 in
theorem e240_526 {ro : Nat → Nat × (Nat → Int32)} {l0 l1 l2 l3 l4 l5 l6 l7 : Option Value} {st : List Value} {h : List mCel} {x : Nat} {a : Nat} {j : Int32} : mW ro mTab 240 526 [l0, l1, l2, l3, l4, l5, l6, l7] (.int j :: .ref a :: st) h x = kIA ro h a j fun v => mW ro mTab 240 527 [l0, l1, l2, l3, l4, l5, l6, l7] (.int v :: st) h x := g_iaload rfl rfl
set_option maxRecDepth 100000 in
theorem e240_527 {ro : Nat → Nat × (Nat → Int32)} {l1 l2 l3 l4 l5 l6 l7 : Option Value} {st : List Value} {h : List mCel} {x : Nat} {v : Nat} : mW ro mTab 240 527 [(some (.ref v)), l1, l2, l3, l4, l5, l6, l7] st h x = mW ro mTab 240 528 [(some (.ref v)), l1, l2, l3, l4, l5, l6, l7] (.ref v :: st) h x := (g_step rfl rfl rfl rfl).trans rfl
set_option maxRecDepth 100000 in
theorem e240_528 {ro : Nat → Nat × (Nat → Int32)} {l0 l1 l2 l3 l4 l6 l7 : Option Value} {st : List Value} {h : List mCel} {x : Nat} {v : Int32} : mW ro mTab 240 528 [l0, l1, l2, l3, l4, (some (.int v)), l6, l7] st h x = mW ro mTab 240 530 [l0, l1, l2, l3, l4, (some (.int v)), l6, l7] (.int v :: st) h x := (g_step rfl rfl rfl rfl).trans rfl
set_option maxRecDepth 100000 in
theorem e240_530 {ro : Nat → Nat × (Nat → Int32)} {l0 l1 l2 l3 l4 l5 l6 l7 : Option Value} {st : List Value} {h : List mCel} {x : Nat}  : mW ro mTab 240 530 [l0, l1, l2, l3, l4, l5, l6, l7] st h x = mW ro mTab 240 531 [l0, l1, l2, l3, l4, l5, l6, l7] (.int 2 :: st) h x := (g_step rfl rfl rfl rfl).trans rfl
set_option maxRecDepth 100000 in
theorem e240_531 {ro : Nat → Nat × (Nat → Int32)} {l0 l1 l2 l3 l4 l5 l6 l7 : Option Value} {st : List Value} {h : List mCel} {x : Nat} {a b : Int32} : mW ro mTab 240 531 [l0, l1, l2, l3, l4, l5, l6, l7] (.int b :: .int a :: st) h x = mW ro mTab 240 532 [l0, l1, l2, l3, l4, l5, l6, l7] (.int (a + b) :: st) h x := (g_step rfl rfl rfl rfl).trans rfl
set_option maxRecDepth 100000 in
theorem e240_532 {ro : Nat → Nat × (Nat → Int32)} {l0 l1 l2 l3 l4 l5 l6 l7 : Option Value} {st : List Value} {h : List mCel} {x : Nat} {a : Nat} {j : Int32} : mW ro mTab 240 532 [l0, l1, l2, l3, l4, l5, l6, l7] (.int j :: .ref a :: st) h x = kIA ro h a j fun v => mW ro mTab 240 533 [l0, l1, l2, l3, l4, l5, l6, l7] (.int v :: st) h x := g_iaload rfl rfl
set_option maxRecDepth 100000 in
theorem e240_533 {ro : Nat → Nat × (Nat → Int32)} {l0 l1 l2 l3 l4 l5 l6 l7 : Option Value} {st : List Value} {h : List mCel} {x : Nat} {a0 : Nat} {a1 : Int32} {a2 : Int32} (hr : kR (mCell h a0) 11 = true) (hs : (st.map Value.category).sum ≤ 8) : mW ro mTab 240 533 [l0, l1, l2, l3, l4, l5, l6, l7] (.int a2 :: .int a1 :: .ref a0 :: st) h x = mAft (mW ro mTab) (mHd mM_240) 240 533 [l0, l1, l2, l3, l4, l5, l6, l7] st (mW ro mTab 80 0 [some (.ref a0), some (.int a1), some (.int a2)] [] h x) := g_call rfl rfl rfl rfl rfl rfl (g_rcv rfl hr) hs
set_option maxRecDepth 100000 in
theorem e240_536 {ro : Nat → Nat × (Nat → Int32)} {l0 l1 l2 l3 l4 l5 l6 l7 : Option Value} {st : List Value} {h : List mCel} {x : Nat} {v : Int32} : mW ro mTab 240 536 [l0, l1, l2, l3, l4, l5, l6, l7] (.int v :: st) h x = mW ro mTab 240 538 [l0, l1, l2, l3, l4, l5, l6, (some (.int v))] st h x := (g_step rfl rfl rfl rfl).trans rfl
set_option maxRecDepth 100000 in
theorem e240_538 {ro : Nat → Nat × (Nat → Int32)} {l0 l1 l3 l4 l5 l6 l7 : Option Value} {st : List Value} {h : List mCel} {x : Nat} {v : Nat} : mW ro mTab 240 538 [l0, l1, (some (.ref v)), l3, l4, l5, l6, l7] st h x = mW ro mTab 240 539 [l0, l1, (some (.ref v)), l3, l4, l5, l6, l7] (.ref v :: st) h x := (g_step rfl rfl rfl rfl).trans rfl
set_option maxRecDepth 100000 in
theorem e240_539 {ro : Nat → Nat × (Nat → Int32)} {l0 l1 l2 l3 l4 l5 l6 l7 : Option Value} {st : List Value} {h : List mCel} {x : Nat} {a0 : Nat} (hr : kR (mCell h a0) 11 = true) (hs : (st.map Value.category).sum ≤ 8) : mW ro mTab 240 539 [l0, l1, l2, l3, l4, l5, l6, l7] (.ref a0 :: st) h x = mAft (mW ro mTab) (mHd mM_240) 240 539 [l0, l1, l2, l3, l4, l5, l6, l7] st (mW ro mTab 137 0 [some (.ref a0)] [] h x) := g_call rfl rfl rfl rfl rfl rfl (g_rcv rfl hr) hs
set_option maxRecDepth 100000 in
theorem e240_542 {ro : Nat → Nat × (Nat → Int32)} {l0 l1 l2 l3 l4 l5 l7 : Option Value} {st : List Value} {h : List mCel} {x : Nat} {v : Int32} : mW ro mTab 240 542 [l0, l1, l2, l3, l4, l5, (some (.int v)), l7] st h x = mW ro mTab 240 544 [l0, l1, l2, l3, l4, l5, (some (.int v)), l7] (.int v :: st) h x := (g_step rfl rfl rfl rfl).trans rfl
set_option maxRecDepth 100000 in
theorem e240_544 {ro : Nat → Nat × (Nat → Int32)} {l0 l1 l2 l3 l4 l5 l6 l7 : Option Value} {st : List Value} {h : List mCel} {x : Nat} {a b : Int32} : mW ro mTab 240 544 [l0, l1, l2, l3, l4, l5, l6, l7] (.int b :: .int a :: st) h x = if a = b then mW ro mTab 240 549 [l0, l1, l2, l3, l4, l5, l6, l7] st h x else mW ro mTab 240 547 [l0, l1, l2, l3, l4, l5, l6, l7] st h x := g_icmp_eq rfl rfl rfl
set_option maxRecDepth 100000 in
theorem e240_547 {ro : Nat → Nat × (Nat → Int32)} {l0 l1 l2 l3 l4 l5 l6 l7 : Option Value} {st : List Value} {h : List mCel} {x : Nat}  : mW ro mTab 240 547 [l0, l1, l2, l3, l4, l5, l6, l7] st h x = mW ro mTab 240 548 [l0, l1, l2, l3, l4, l5, l6, l7] (.int 0 :: st) h x := (g_step rfl rfl rfl rfl).trans rfl
set_option maxRecDepth 100000 in
theorem e240_548 {ro : Nat → Nat × (Nat → Int32)} {l0 l1 l2 l3 l4 l5 l6 l7 : Option Value} {h : List mCel} {x : Nat} {v : Int32} (hv : v = 0 ∨ v = 1) : mW ro mTab 240 548 [l0, l1, l2, l3, l4, l5, l6, l7] [.int v] h x = some (.inl (some (.int v)), h, x) := g_zret rfl rfl rfl hv
set_option maxRecDepth 100000 in
theorem e240_549 {ro : Nat → Nat × (Nat → Int32)} {l0 l1 l2 l3 l4 l5 l7 : Option Value} {st : List Value} {h : List mCel} {x : Nat} {v : Int32} : mW ro mTab 240 549 [l0, l1, l2, l3, l4, l5, (some (.int v)), l7] st h x = mW ro mTab 240 551 [l0, l1, l2, l3, l4, l5, (some (.int v)), l7] (.int v :: st) h x := (g_step rfl rfl rfl rfl).trans rfl
set_option maxRecDepth 100000 in
theorem e240_551 {ro : Nat → Nat × (Nat → Int32)} {l0 l1 l2 l3 l4 l5 l6 l7 : Option Value} {st : List Value} {h : List mCel} {x : Nat} {a : Int32} : mW ro mTab 240 551 [l0, l1, l2, l3, l4, l5, l6, l7] (.int a :: st) h x = if ¬ a = 0 then mW ro mTab 240 566 [l0, l1, l2, l3, l4, l5, l6, l7] st h x else mW ro mTab 240 554 [l0, l1, l2, l3, l4, l5, l6, l7] st h x := g_if_ne rfl rfl rfl
set_option maxRecDepth 100000 in
theorem e240_554 {ro : Nat → Nat × (Nat → Int32)} {l0 l1 l2 l4 l5 l6 l7 : Option Value} {st : List Value} {h : List mCel} {x : Nat} {v : Nat} : mW ro mTab 240 554 [l0, l1, l2, (some (.ref v)), l4, l5, l6, l7] st h x = mW ro mTab 240 555 [l0, l1, l2, (some (.ref v)), l4, l5, l6, l7] (.ref v :: st) h x := (g_step rfl rfl rfl rfl).trans rfl
set_option maxRecDepth 100000 in
theorem e240_555 {ro : Nat → Nat × (Nat → Int32)} {l0 l1 l2 l3 l4 l5 l6 l7 : Option Value} {st : List Value} {h : List mCel} {x : Nat}  : mW ro mTab 240 555 [l0, l1, l2, l3, l4, l5, l6, l7] st h x = mW ro mTab 240 556 [l0, l1, l2, l3, l4, l5, l6, l7] (.int 0 :: st) h x := (g_step rfl rfl rfl rfl).trans rfl
set_option maxRecDepth 100000 in
theorem e240_556 {ro : Nat → Nat × (Nat → Int32)} {l0 l1 l2 l3 l4 l5 l6 l7 : Option Value} {st : List Value} {h : List mCel} {x : Nat} {a : Nat} {j : Int32} : mW ro mTab 240 556 [l0, l1, l2, l3, l4, l5, l6, l7] (.int j :: .ref a :: st) h x = kLA h a j fun v => mW ro mTab 240 557 [l0, l1, l2, l3, l4, l5, l6, l7] (.long v :: st) h x := g_laload rfl rfl
set_option maxRecDepth 100000 in
theorem e240_557 {ro : Nat → Nat × (Nat → Int32)} {l0 l1 l2 l3 l4 l5 l6 : Option Value} {st : List Value} {h : List mCel} {x : Nat} {v : Int32} : mW ro mTab 240 557 [l0, l1, l2, l3, l4, l5, l6, (some (.int v))] st h x = mW ro mTab 240 559 [l0, l1, l2, l3, l4, l5, l6, (some (.int v))] (.int v :: st) h x := (g_step rfl rfl rfl rfl).trans rfl
set_option maxRecDepth 100000 in
theorem e240_559 {ro : Nat → Nat × (Nat → Int32)} {l0 l1 l2 l3 l4 l5 l6 l7 : Option Value} {st : List Value} {h : List mCel} {x : Nat} {a : Int32} : mW ro mTab 240 559 [l0, l1, l2, l3, l4, l5, l6, l7] (.int a :: st) h x = mW ro mTab 240 560 [l0, l1, l2, l3, l4, l5, l6, l7] (.long a.toInt64 :: st) h x := (g_step rfl rfl rfl rfl).trans rfl
set_option maxRecDepth 100000 in
theorem e240_560 {ro : Nat → Nat × (Nat → Int32)} {l0 l1 l2 l3 l4 l5 l6 l7 : Option Value} {st : List Value} {h : List mCel} {x : Nat} {a b : Int64} : mW ro mTab 240 560 [l0, l1, l2, l3, l4, l5, l6, l7] (.long b :: .long a :: st) h x = mW ro mTab 240 561 [l0, l1, l2, l3, l4, l5, l6, l7] (.int (lg_cmp a b) :: st) h x := (g_step rfl rfl rfl rfl).trans rfl
set_option maxRecDepth 100000 in
theorem e240_561 {ro : Nat → Nat × (Nat → Int32)} {l0 l1 l2 l3 l4 l5 l6 l7 : Option Value} {st : List Value} {h : List mCel} {x : Nat} {a : Int32} : mW ro mTab 240 561 [l0, l1, l2, l3, l4, l5, l6, l7] (.int a :: st) h x = if a = 0 then mW ro mTab 240 566 [l0, l1, l2, l3, l4, l5, l6, l7] st h x else mW ro mTab 240 564 [l0, l1, l2, l3, l4, l5, l6, l7] st h x := g_if_eq rfl rfl rfl
set_option maxRecDepth 100000 in
theorem e240_564 {ro : Nat → Nat × (Nat → Int32)} {l0 l1 l2 l3 l4 l5 l6 l7 : Option Value} {st : List Value} {h : List mCel} {x : Nat}  : mW ro mTab 240 564 [l0, l1, l2, l3, l4, l5, l6, l7] st h x = mW ro mTab 240 565 [l0, l1, l2, l3, l4, l5, l6, l7] (.int 0 :: st) h x := (g_step rfl rfl rfl rfl).trans rfl
set_option maxRecDepth 100000 in
theorem e240_565 {ro : Nat → Nat × (Nat → Int32)} {l0 l1 l2 l3 l4 l5 l6 l7 : Option Value} {h : List mCel} {x : Nat} {v : Int32} (hv : v = 0 ∨ v = 1) : mW ro mTab 240 565 [l0, l1, l2, l3, l4, l5, l6, l7] [.int v] h x = some (.inl (some (.int v)), h, x) := g_zret rfl rfl rfl hv
set_option maxRecDepth 100000 in
theorem e240_566 {ro : Nat → Nat × (Nat → Int32)} {l0 l1 l2 l3 l4 l5 l6 l7 : Option Value} {st : List Value} {h : List mCel} {x : Nat}  : mW ro mTab 240 566 [l0, l1, l2, l3, l4, l5, l6, l7] st h x = mW ro mTab 240 1980 [l0, l1, l2, l3, l4, l5, l6, l7] st h x := (g_step rfl rfl rfl rfl).trans rfl
set_option maxRecDepth 100000 in
theorem e240_569 {ro : Nat → Nat × (Nat → Int32)} {l0 l2 l3 l4 l5 l6 l7 : Option Value} {st : List Value} {h : List mCel} {x : Nat} {v : Nat} : mW ro mTab 240 569 [l0, (some (.ref v)), l2, l3, l4, l5, l6, l7] st h x = mW ro mTab 240 570 [l0, (some (.ref v)), l2, l3, l4, l5, l6, l7] (.ref v :: st) h x := (g_step rfl rfl rfl rfl).trans rfl
set_option maxRecDepth 100000 in
theorem e240_570 {ro : Nat → Nat × (Nat → Int32)} {l1 l2 l3 l4 l5 l6 l7 : Option Value} {st : List Value} {h : List mCel} {x : Nat} {v : Nat} : mW ro mTab 240 570 [(some (.ref v)), l1, l2, l3, l4, l5, l6, l7] st h x = mW ro mTab 240 571 [(some (.ref v)), l1, l2, l3, l4, l5, l6, l7] (.ref v :: st) h x := (g_step rfl rfl rfl rfl).trans rfl
set_option maxRecDepth 100000 in
theorem e240_571 {ro : Nat → Nat × (Nat → Int32)} {l0 l1 l2 l3 l4 l6 l7 : Option Value} {st : List Value} {h : List mCel} {x : Nat} {v : Int32} : mW ro mTab 240 571 [l0, l1, l2, l3, l4, (some (.int v)), l6, l7] st h x = mW ro mTab 240 573 [l0, l1, l2, l3, l4, (some (.int v)), l6, l7] (.int v :: st) h x := (g_step rfl rfl rfl rfl).trans rfl
set_option maxRecDepth 100000 in
theorem e240_573 {ro : Nat → Nat × (Nat → Int32)} {l0 l1 l2 l3 l4 l5 l6 l7 : Option Value} {st : List Value} {h : List mCel} {x : Nat}  : mW ro mTab 240 573 [l0, l1, l2, l3, l4, l5, l6, l7] st h x = mW ro mTab 240 574 [l0, l1, l2, l3, l4, l5, l6, l7] (.int 1 :: st) h x := (g_step rfl rfl rfl rfl).trans rfl
set_option maxRecDepth 100000 in
theorem e240_574 {ro : Nat → Nat × (Nat → Int32)} {l0 l1 l2 l3 l4 l5 l6 l7 : Option Value} {st : List Value} {h : List mCel} {x : Nat} {a b : Int32} : mW ro mTab 240 574 [l0, l1, l2, l3, l4, l5, l6, l7] (.int b :: .int a :: st) h x = mW ro mTab 240 575 [l0, l1, l2, l3, l4, l5, l6, l7] (.int (a + b) :: st) h x := (g_step rfl rfl rfl rfl).trans rfl
set_option maxRecDepth 100000 in
theorem e240_575 {ro : Nat → Nat × (Nat → Int32)} {l0 l1 l2 l3 l4 l5 l6 l7 : Option Value} {st : List Value} {h : List mCel} {x : Nat} {a : Nat} {j : Int32} : mW ro mTab 240 575 [l0, l1, l2, l3, l4, l5, l6, l7] (.int j :: .ref a :: st) h x = kIA ro h a j fun v => mW ro mTab 240 576 [l0, l1, l2, l3, l4, l5, l6, l7] (.int v :: st) h x := g_iaload rfl rfl
set_option maxRecDepth 100000 in
theorem e240_576 {ro : Nat → Nat × (Nat → Int32)} {l1 l2 l3 l4 l5 l6 l7 : Option Value} {st : List Value} {h : List mCel} {x : Nat} {v : Nat} : mW ro mTab 240 576 [(some (.ref v)), l1, l2, l3, l4, l5, l6, l7] st h x = mW ro mTab 240 577 [(some (.ref v)), l1, l2, l3, l4, l5, l6, l7] (.ref v :: st) h x := (g_step rfl rfl rfl rfl).trans rfl
set_option maxRecDepth 100000 in
theorem e240_577 {ro : Nat → Nat × (Nat → Int32)} {l0 l1 l2 l3 l4 l6 l7 : Option Value} {st : List Value} {h : List mCel} {x : Nat} {v : Int32} : mW ro mTab 240 577 [l0, l1, l2, l3, l4, (some (.int v)), l6, l7] st h x = mW ro mTab 240 579 [l0, l1, l2, l3, l4, (some (.int v)), l6, l7] (.int v :: st) h x := (g_step rfl rfl rfl rfl).trans rfl
set_option maxRecDepth 100000 in
theorem e240_579 {ro : Nat → Nat × (Nat → Int32)} {l0 l1 l2 l3 l4 l5 l6 l7 : Option Value} {st : List Value} {h : List mCel} {x : Nat}  : mW ro mTab 240 579 [l0, l1, l2, l3, l4, l5, l6, l7] st h x = mW ro mTab 240 580 [l0, l1, l2, l3, l4, l5, l6, l7] (.int 2 :: st) h x := (g_step rfl rfl rfl rfl).trans rfl
set_option maxRecDepth 100000 in
theorem e240_580 {ro : Nat → Nat × (Nat → Int32)} {l0 l1 l2 l3 l4 l5 l6 l7 : Option Value} {st : List Value} {h : List mCel} {x : Nat} {a b : Int32} : mW ro mTab 240 580 [l0, l1, l2, l3, l4, l5, l6, l7] (.int b :: .int a :: st) h x = mW ro mTab 240 581 [l0, l1, l2, l3, l4, l5, l6, l7] (.int (a + b) :: st) h x := (g_step rfl rfl rfl rfl).trans rfl
set_option maxRecDepth 100000 in
theorem e240_581 {ro : Nat → Nat × (Nat → Int32)} {l0 l1 l2 l3 l4 l5 l6 l7 : Option Value} {st : List Value} {h : List mCel} {x : Nat} {a : Nat} {j : Int32} : mW ro mTab 240 581 [l0, l1, l2, l3, l4, l5, l6, l7] (.int j :: .ref a :: st) h x = kIA ro h a j fun v => mW ro mTab 240 582 [l0, l1, l2, l3, l4, l5, l6, l7] (.int v :: st) h x := g_iaload rfl rfl
set_option maxRecDepth 100000 in
theorem e240_582 {ro : Nat → Nat × (Nat → Int32)} {l1 l2 l3 l4 l5 l6 l7 : Option Value} {st : List Value} {h : List mCel} {x : Nat} {v : Nat} : mW ro mTab 240 582 [(some (.ref v)), l1, l2, l3, l4, l5, l6, l7] st h x = mW ro mTab 240 583 [(some (.ref v)), l1, l2, l3, l4, l5, l6, l7] (.ref v :: st) h x := (g_step rfl rfl rfl rfl).trans rfl
set_option maxRecDepth 100000 in
theorem e240_583 {ro : Nat → Nat × (Nat → Int32)} {l0 l1 l2 l3 l4 l6 l7 : Option Value} {st : List Value} {h : List mCel} {x : Nat} {v : Int32} : mW ro mTab 240 583 [l0, l1, l2, l3, l4, (some (.int v)), l6, l7] st h x = mW ro mTab 240 585 [l0, l1, l2, l3, l4, (some (.int v)), l6, l7] (.int v :: st) h x := (g_step rfl rfl rfl rfl).trans rfl
set_option maxRecDepth 100000 in
theorem e240_585 {ro : Nat → Nat × (Nat → Int32)} {l0 l1 l2 l3 l4 l5 l6 l7 : Option Value} {st : List Value} {h : List mCel} {x : Nat}  : mW ro mTab 240 585 [l0, l1, l2, l3, l4, l5, l6, l7] st h x = mW ro mTab 240 586 [l0, l1, l2, l3, l4, l5, l6, l7] (.int 3 :: st) h x := (g_step rfl rfl rfl rfl).trans rfl
set_option maxRecDepth 100000 in
theorem e240_586 {ro : Nat → Nat × (Nat → Int32)} {l0 l1 l2 l3 l4 l5 l6 l7 : Option Value} {st : List Value} {h : List mCel} {x : Nat} {a b : Int32} : mW ro mTab 240 586 [l0, l1, l2, l3, l4, l5, l6, l7] (.int b :: .int a :: st) h x = mW ro mTab 240 587 [l0, l1, l2, l3, l4, l5, l6, l7] (.int (a + b) :: st) h x := (g_step rfl rfl rfl rfl).trans rfl
set_option maxRecDepth 100000 in
theorem e240_587 {ro : Nat → Nat × (Nat → Int32)} {l0 l1 l2 l3 l4 l5 l6 l7 : Option Value} {st : List Value} {h : List mCel} {x : Nat} {a : Nat} {j : Int32} : mW ro mTab 240 587 [l0, l1, l2, l3, l4, l5, l6, l7] (.int j :: .ref a :: st) h x = kIA ro h a j fun v => mW ro mTab 240 588 [l0, l1, l2, l3, l4, l5, l6, l7] (.int v :: st) h x := g_iaload rfl rfl
set_option maxRecDepth 100000 in
theorem e240_588 {ro : Nat → Nat × (Nat → Int32)} {l0 l1 l2 l4 l5 l6 l7 : Option Value} {st : List Value} {h : List mCel} {x : Nat} {v : Nat} : mW ro mTab 240 588 [l0, l1, l2, (some (.ref v)), l4, l5, l6, l7] st h x = mW ro mTab 240 589 [l0, l1, l2, (some (.ref v)), l4, l5, l6, l7] (.ref v :: st) h x := (g_step rfl rfl rfl rfl).trans rfl
set_option maxRecDepth 100000 in
theorem e240_589 {ro : Nat → Nat × (Nat → Int32)} {l0 l1 l2 l3 l4 l5 l6 l7 : Option Value} {st : List Value} {h : List mCel} {x : Nat} {a0 : Nat} {a1 : Int32} {a2 : Int32} {a3 : Int32} {a4 : Nat} (hs : (st.map Value.category).sum ≤ 8) : mW ro mTab 240 589 [l0, l1, l2, l3, l4, l5, l6, l7] (.ref a4 :: .int a3 :: .int a2 :: .int a1 :: .ref a0 :: st) h x = mAft (mW ro mTab) (mHd mM_240) 240 589 [l0, l1, l2, l3, l4, l5, l6, l7] st (mW ro mTab 238 0 [some (.ref a0), some (.int a1), some (.int a2), some (.int a3), some (.ref a4), none] [] h x) := g_call rfl rfl rfl rfl rfl rfl rfl hs
set_option maxRecDepth 100000 in
theorem e240_592 {ro : Nat → Nat × (Nat → Int32)} {l0 l1 l2 l3 l4 l5 l6 l7 : Option Value} {st : List Value} {h : List mCel} {x : Nat} {v : Int32} : mW ro mTab 240 592 [l0, l1, l2, l3, l4, l5, l6, l7] (.int v :: st) h x = mW ro mTab 240 594 [l0, l1, l2, l3, l4, l5, (some (.int v)), l7] st h x := (g_step rfl rfl rfl rfl).trans rfl
set_option maxRecDepth 100000 in
theorem e240_594 {ro : Nat → Nat × (Nat → Int32)} {l0 l1 l3 l4 l5 l6 l7 : Option Value} {st : List Value} {h : List mCel} {x : Nat} {v : Nat} : mW ro mTab 240 594 [l0, l1, (some (.ref v)), l3, l4, l5, l6, l7] st h x = mW ro mTab 240 595 [l0, l1, (some (.ref v)), l3, l4, l5, l6, l7] (.ref v :: st) h x := (g_step rfl rfl rfl rfl).trans rfl
set_option maxRecDepth 100000 in
theorem e240_595 {ro : Nat → Nat × (Nat → Int32)} {l1 l2 l3 l4 l5 l6 l7 : Option Value} {st : List Value} {h : List mCel} {x : Nat} {v : Nat} : mW ro mTab 240 595 [(some (.ref v)), l1, l2, l3, l4, l5, l6, l7] st h x = mW ro mTab 240 596 [(some (.ref v)), l1, l2, l3, l4, l5, l6, l7] (.ref v :: st) h x := (g_step rfl rfl rfl rfl).trans rfl
set_option maxRecDepth 100000 in
theorem e240_596 {ro : Nat → Nat × (Nat → Int32)} {l0 l1 l2 l3 l4 l6 l7 : Option Value} {st : List Value} {h : List mCel} {x : Nat} {v : Int32} : mW ro mTab 240 596 [l0, l1, l2, l3, l4, (some (.int v)), l6, l7] st h x = mW ro mTab 240 598 [l0, l1, l2, l3, l4, (some (.int v)), l6, l7] (.int v :: st) h x := (g_step rfl rfl rfl rfl).trans rfl
set_option maxRecDepth 100000 in
theorem e240_598 {ro : Nat → Nat × (Nat → Int32)} {l0 l1 l2 l3 l4 l5 l6 l7 : Option Value} {st : List Value} {h : List mCel} {x : Nat}  : mW ro mTab 240 598 [l0, l1, l2, l3, l4, l5, l6, l7] st h x = mW ro mTab 240 599 [l0, l1, l2, l3, l4, l5, l6, l7] (.int 1 :: st) h x := (g_step rfl rfl rfl rfl).trans rfl
set_option maxRecDepth 100000 in
theorem e240_599 {ro : Nat → Nat × (Nat → Int32)} {l0 l1 l2 l3 l4 l5 l6 l7 : Option Value} {st : List Value} {h : List mCel} {x : Nat} {a b : Int32} : mW ro mTab 240 599 [l0, l1, l2, l3, l4, l5, l6, l7] (.int b :: .int a :: st) h x = mW ro mTab 240 600 [l0, l1, l2, l3, l4, l5, l6, l7] (.int (a + b) :: st) h x := (g_step rfl rfl rfl rfl).trans rfl
set_option maxRecDepth 100000 in
theorem e240_600 {ro : Nat → Nat × (Nat → Int32)} {l0 l1 l2 l3 l4 l5 l6 l7 : Option Value} {st : List Value} {h : List mCel} {x : Nat} {a : Nat} {j : Int32} : mW ro mTab 240 600 [l0, l1, l2, l3, l4, l5, l6, l7] (.int j :: .ref a :: st) h x = kIA ro h a j fun v => mW ro mTab 240 601 [l0, l1, l2, l3, l4, l5, l6, l7] (.int v :: st) h x := g_iaload rfl rfl
set_option maxRecDepth 100000 in
theorem e240_601 {ro : Nat → Nat × (Nat → Int32)} {l1 l2 l3 l4 l5 l6 l7 : Option Value} {st : List Value} {h : List mCel} {x : Nat} {v : Nat} : mW ro mTab 240 601 [(some (.ref v)), l1, l2, l3, l4, l5, l6, l7] st h x = mW ro mTab 240 602 [(some (.ref v)), l1, l2, l3, l4, l5, l6, l7] (.ref v :: st) h x := (g_step rfl rfl rfl rfl).trans rfl
set_option maxRecDepth 100000 in
theorem e240_602 {ro : Nat → Nat × (Nat → Int32)} {l0 l1 l2 l3 l4 l6 l7 : Option Value} {st : List Value} {h : List mCel} {x : Nat} {v : Int32} : mW ro mTab 240 602 [l0, l1, l2, l3, l4, (some (.int v)), l6, l7] st h x = mW ro mTab 240 604 [l0, l1, l2, l3, l4, (some (.int v)), l6, l7] (.int v :: st) h x := (g_step rfl rfl rfl rfl).trans rfl
set_option maxRecDepth 100000 in
theorem e240_604 {ro : Nat → Nat × (Nat → Int32)} {l0 l1 l2 l3 l4 l5 l6 l7 : Option Value} {st : List Value} {h : List mCel} {x : Nat}  : mW ro mTab 240 604 [l0, l1, l2, l3, l4, l5, l6, l7] st h x = mW ro mTab 240 605 [l0, l1, l2, l3, l4, l5, l6, l7] (.int 2 :: st) h x := (g_step rfl rfl rfl rfl).trans rfl
set_option maxRecDepth 100000 in
theorem e240_605 {ro : Nat → Nat × (Nat → Int32)} {l0 l1 l2 l3 l4 l5 l6 l7 : Option Value} {st : List Value} {h : List mCel} {x : Nat} {a b : Int32} : mW ro mTab 240 605 [l0, l1, l2, l3, l4, l5, l6, l7] (.int b :: .int a :: st) h x = mW ro mTab 240 606 [l0, l1, l2, l3, l4, l5, l6, l7] (.int (a + b) :: st) h x := (g_step rfl rfl rfl rfl).trans rfl
set_option maxRecDepth 100000 in
theorem e240_606 {ro : Nat → Nat × (Nat → Int32)} {l0 l1 l2 l3 l4 l5 l6 l7 : Option Value} {st : List Value} {h : List mCel} {x : Nat} {a : Nat} {j : Int32} : mW ro mTab 240 606 [l0, l1, l2, l3, l4, l5, l6, l7] (.int j :: .ref a :: st) h x = kIA ro h a j fun v => mW ro mTab 240 607 [l0, l1, l2, l3, l4, l5, l6, l7] (.int v :: st) h x := g_iaload rfl rfl
set_option maxRecDepth 100000 in
theorem e240_607 {ro : Nat → Nat × (Nat → Int32)} {l1 l2 l3 l4 l5 l6 l7 : Option Value} {st : List Value} {h : List mCel} {x : Nat} {v : Nat} : mW ro mTab 240 607 [(some (.ref v)), l1, l2, l3, l4, l5, l6, l7] st h x = mW ro mTab 240 608 [(some (.ref v)), l1, l2, l3, l4, l5, l6, l7] (.ref v :: st) h x := (g_step rfl rfl rfl rfl).trans rfl
set_option maxRecDepth 100000 in
theorem e240_608 {ro : Nat → Nat × (Nat → Int32)} {l0 l1 l2 l3 l4 l6 l7 : Option Value} {st : List Value} {h : List mCel} {x : Nat} {v : Int32} : mW ro mTab 240 608 [l0, l1, l2, l3, l4, (some (.int v)), l6, l7] st h x = mW ro mTab 240 610 [l0, l1, l2, l3, l4, (some (.int v)), l6, l7] (.int v :: st) h x := (g_step rfl rfl rfl rfl).trans rfl
set_option maxRecDepth 100000 in
theorem e240_610 {ro : Nat → Nat × (Nat → Int32)} {l0 l1 l2 l3 l4 l5 l6 l7 : Option Value} {st : List Value} {h : List mCel} {x : Nat}  : mW ro mTab 240 610 [l0, l1, l2, l3, l4, l5, l6, l7] st h x = mW ro mTab 240 611 [l0, l1, l2, l3, l4, l5, l6, l7] (.int 3 :: st) h x := (g_step rfl rfl rfl rfl).trans rfl
set_option maxRecDepth 100000 in
theorem e240_611 {ro : Nat → Nat × (Nat → Int32)} {l0 l1 l2 l3 l4 l5 l6 l7 : Option Value} {st : List Value} {h : List mCel} {x : Nat} {a b : Int32} : mW ro mTab 240 611 [l0, l1, l2, l3, l4, l5, l6, l7] (.int b :: .int a :: st) h x = mW ro mTab 240 612 [l0, l1, l2, l3, l4, l5, l6, l7] (.int (a + b) :: st) h x := (g_step rfl rfl rfl rfl).trans rfl
set_option maxRecDepth 100000 in
theorem e240_612 {ro : Nat → Nat × (Nat → Int32)} {l0 l1 l2 l3 l4 l5 l6 l7 : Option Value} {st : List Value} {h : List mCel} {x : Nat} {a : Nat} {j : Int32} : mW ro mTab 240 612 [l0, l1, l2, l3, l4, l5, l6, l7] (.int j :: .ref a :: st) h x = kIA ro h a j fun v => mW ro mTab 240 613 [l0, l1, l2, l3, l4, l5, l6, l7] (.int v :: st) h x := g_iaload rfl rfl
set_option maxRecDepth 100000 in
theorem e240_613 {ro : Nat → Nat × (Nat → Int32)} {l0 l1 l2 l3 l4 l5 l6 l7 : Option Value} {st : List Value} {h : List mCel} {x : Nat} {a0 : Nat} {a1 : Int32} {a2 : Int32} {a3 : Int32} (hr : kR (mCell h a0) 11 = true) (hs : (st.map Value.category).sum ≤ 8) : mW ro mTab 240 613 [l0, l1, l2, l3, l4, l5, l6, l7] (.int a3 :: .int a2 :: .int a1 :: .ref a0 :: st) h x = mAft (mW ro mTab) (mHd mM_240) 240 613 [l0, l1, l2, l3, l4, l5, l6, l7] st (mW ro mTab 106 0 [some (.ref a0), some (.int a1), some (.int a2), some (.int a3)] [] h x) := g_call rfl rfl rfl rfl rfl rfl (g_rcv rfl hr) hs
set_option maxRecDepth 100000 in
theorem e240_616 {ro : Nat → Nat × (Nat → Int32)} {l0 l1 l2 l3 l4 l5 l6 l7 : Option Value} {st : List Value} {h : List mCel} {x : Nat} {v : Int32} : mW ro mTab 240 616 [l0, l1, l2, l3, l4, l5, l6, l7] (.int v :: st) h x = mW ro mTab 240 618 [l0, l1, l2, l3, l4, l5, l6, (some (.int v))] st h x := (g_step rfl rfl rfl rfl).trans rfl
set_option maxRecDepth 100000 in
theorem e240_618 {ro : Nat → Nat × (Nat → Int32)} {l0 l1 l3 l4 l5 l6 l7 : Option Value} {st : List Value} {h : List mCel} {x : Nat} {v : Nat} : mW ro mTab 240 618 [l0, l1, (some (.ref v)), l3, l4, l5, l6, l7] st h x = mW ro mTab 240 619 [l0, l1, (some (.ref v)), l3, l4, l5, l6, l7] (.ref v :: st) h x := (g_step rfl rfl rfl rfl).trans rfl
set_option maxRecDepth 100000 in
theorem e240_619 {ro : Nat → Nat × (Nat → Int32)} {l0 l1 l2 l3 l4 l5 l6 l7 : Option Value} {st : List Value} {h : List mCel} {x : Nat} {a0 : Nat} (hr : kR (mCell h a0) 11 = true) (hs : (st.map Value.category).sum ≤ 8) : mW ro mTab 240 619 [l0, l1, l2, l3, l4, l5, l6, l7] (.ref a0 :: st) h x = mAft (mW ro mTab) (mHd mM_240) 240 619 [l0, l1, l2, l3, l4, l5, l6, l7] st (mW ro mTab 137 0 [some (.ref a0)] [] h x) := g_call rfl rfl rfl rfl rfl rfl (g_rcv rfl hr) hs
set_option maxRecDepth 100000 in
theorem e240_622 {ro : Nat → Nat × (Nat → Int32)} {l0 l1 l2 l3 l4 l5 l7 : Option Value} {st : List Value} {h : List mCel} {x : Nat} {v : Int32} : mW ro mTab 240 622 [l0, l1, l2, l3, l4, l5, (some (.int v)), l7] st h x = mW ro mTab 240 624 [l0, l1, l2, l3, l4, l5, (some (.int v)), l7] (.int v :: st) h x := (g_step rfl rfl rfl rfl).trans rfl
set_option maxRecDepth 100000 in
theorem e240_624 {ro : Nat → Nat × (Nat → Int32)} {l0 l1 l2 l3 l4 l5 l6 l7 : Option Value} {st : List Value} {h : List mCel} {x : Nat} {a b : Int32} : mW ro mTab 240 624 [l0, l1, l2, l3, l4, l5, l6, l7] (.int b :: .int a :: st) h x = if a = b then mW ro mTab 240 629 [l0, l1, l2, l3, l4, l5, l6, l7] st h x else mW ro mTab 240 627 [l0, l1, l2, l3, l4, l5, l6, l7] st h x := g_icmp_eq rfl rfl rfl
set_option maxRecDepth 100000 in
theorem e240_627 {ro : Nat → Nat × (Nat → Int32)} {l0 l1 l2 l3 l4 l5 l6 l7 : Option Value} {st : List Value} {h : List mCel} {x : Nat}  : mW ro mTab 240 627 [l0, l1, l2, l3, l4, l5, l6, l7] st h x = mW ro mTab 240 628 [l0, l1, l2, l3, l4, l5, l6, l7] (.int 0 :: st) h x := (g_step rfl rfl rfl rfl).trans rfl
set_option maxRecDepth 100000 in
theorem e240_628 {ro : Nat → Nat × (Nat → Int32)} {l0 l1 l2 l3 l4 l5 l6 l7 : Option Value} {h : List mCel} {x : Nat} {v : Int32} (hv : v = 0 ∨ v = 1) : mW ro mTab 240 628 [l0, l1, l2, l3, l4, l5, l6, l7] [.int v] h x = some (.inl (some (.int v)), h, x) := g_zret rfl rfl rfl hv
set_option maxRecDepth 100000 in
theorem e240_629 {ro : Nat → Nat × (Nat → Int32)} {l0 l1 l2 l3 l4 l5 l7 : Option Value} {st : List Value} {h : List mCel} {x : Nat} {v : Int32} : mW ro mTab 240 629 [l0, l1, l2, l3, l4, l5, (some (.int v)), l7] st h x = mW ro mTab 240 631 [l0, l1, l2, l3, l4, l5, (some (.int v)), l7] (.int v :: st) h x := (g_step rfl rfl rfl rfl).trans rfl
set_option maxRecDepth 100000 in
theorem e240_631 {ro : Nat → Nat × (Nat → Int32)} {l0 l1 l2 l3 l4 l5 l6 l7 : Option Value} {st : List Value} {h : List mCel} {x : Nat} {a : Int32} : mW ro mTab 240 631 [l0, l1, l2, l3, l4, l5, l6, l7] (.int a :: st) h x = if ¬ a = 0 then mW ro mTab 240 653 [l0, l1, l2, l3, l4, l5, l6, l7] st h x else mW ro mTab 240 634 [l0, l1, l2, l3, l4, l5, l6, l7] st h x := g_if_ne rfl rfl rfl
set_option maxRecDepth 100000 in
theorem e240_634 {ro : Nat → Nat × (Nat → Int32)} {l0 l1 l2 l4 l5 l6 l7 : Option Value} {st : List Value} {h : List mCel} {x : Nat} {v : Nat} : mW ro mTab 240 634 [l0, l1, l2, (some (.ref v)), l4, l5, l6, l7] st h x = mW ro mTab 240 635 [l0, l1, l2, (some (.ref v)), l4, l5, l6, l7] (.ref v :: st) h x := (g_step rfl rfl rfl rfl).trans rfl
set_option maxRecDepth 100000 in
theorem e240_635 {ro : Nat → Nat × (Nat → Int32)} {l0 l1 l2 l3 l4 l5 l6 l7 : Option Value} {st : List Value} {h : List mCel} {x : Nat}  : mW ro mTab 240 635 [l0, l1, l2, l3, l4, l5, l6, l7] st h x = mW ro mTab 240 636 [l0, l1, l2, l3, l4, l5, l6, l7] (.int 0 :: st) h x := (g_step rfl rfl rfl rfl).trans rfl
set_option maxRecDepth 100000 in
theorem e240_636 {ro : Nat → Nat × (Nat → Int32)} {l0 l1 l2 l3 l4 l5 l6 l7 : Option Value} {st : List Value} {h : List mCel} {x : Nat} {a : Nat} {j : Int32} : mW ro mTab 240 636 [l0, l1, l2, l3, l4, l5, l6, l7] (.int j :: .ref a :: st) h x = kLA h a j fun v => mW ro mTab 240 637 [l0, l1, l2, l3, l4, l5, l6, l7] (.long v :: st) h x := g_laload rfl rfl
set_option maxRecDepth 100000 in
theorem e240_637 {ro : Nat → Nat × (Nat → Int32)} {l0 l1 l2 l3 l4 l5 l6 : Option Value} {st : List Value} {h : List mCel} {x : Nat} {v : Int32} : mW ro mTab 240 637 [l0, l1, l2, l3, l4, l5, l6, (some (.int v))] st h x = mW ro mTab 240 639 [l0, l1, l2, l3, l4, l5, l6, (some (.int v))] (.int v :: st) h x := (g_step rfl rfl rfl rfl).trans rfl
set_option maxRecDepth 100000 in
theorem e240_639 {ro : Nat → Nat × (Nat → Int32)} {l0 l1 l2 l3 l4 l5 l6 l7 : Option Value} {st : List Value} {h : List mCel} {x : Nat} {a : Int32} : mW ro mTab 240 639 [l0, l1, l2, l3, l4, l5, l6, l7] (.int a :: st) h x = if a = 0 then mW ro mTab 240 646 [l0, l1, l2, l3, l4, l5, l6, l7] st h x else mW ro mTab 240 642 [l0, l1, l2, l3, l4, l5, l6, l7] st h x := g_if_eq rfl rfl rfl
set_option maxRecDepth 100000 in
theorem e240_642 {ro : Nat → Nat × (Nat → Int32)} {l0 l1 l2 l3 l4 l5 l6 l7 : Option Value} {st : List Value} {h : List mCel} {x : Nat}  : mW ro mTab 240 642 [l0, l1, l2, l3, l4, l5, l6, l7] st h x = mW ro mTab 240 643 [l0, l1, l2, l3, l4, l5, l6, l7] (.long 1 :: st) h x := (g_step rfl rfl rfl rfl).trans rfl
set_option maxRecDepth 100000 in
theorem e240_643 {ro : Nat → Nat × (Nat → Int32)} {l0 l1 l2 l3 l4 l5 l6 l7 : Option Value} {st : List Value} {h : List mCel} {x : Nat}  : mW ro mTab 240 643 [l0, l1, l2, l3, l4, l5, l6, l7] st h x = mW ro mTab 240 647 [l0, l1, l2, l3, l4, l5, l6, l7] st h x := (g_step rfl rfl rfl rfl).trans rfl
set_option maxRecDepth 100000 in
theorem e240_646 {ro : Nat → Nat × (Nat → Int32)} {l0 l1 l2 l3 l4 l5 l6 l7 : Option Value} {st : List Value} {h : List mCel} {x : Nat}  : mW ro mTab 240 646 [l0, l1, l2, l3, l4, l5, l6, l7] st h x = mW ro mTab 240 647 [l0, l1, l2, l3, l4, l5, l6, l7] (.long 0 :: st) h x := (g_step rfl rfl rfl rfl).trans rfl
set_option maxRecDepth 100000 in
theorem e240_647 {ro : Nat → Nat × (Nat → Int32)} {l0 l1 l2 l3 l4 l5 l6 l7 : Option Value} {st : List Value} {h : List mCel} {x : Nat} {a b : Int64} : mW ro mTab 240 647 [l0, l1, l2, l3, l4, l5, l6, l7] (.long b :: .long a :: st) h x = mW ro mTab 240 648 [l0, l1, l2, l3, l4, l5, l6, l7] (.int (lg_cmp a b) :: st) h x := (g_step rfl rfl rfl rfl).trans rfl
set_option maxRecDepth 100000 in
theorem e240_648 {ro : Nat → Nat × (Nat → Int32)} {l0 l1 l2 l3 l4 l5 l6 l7 : Option Value} {st : List Value} {h : List mCel} {x : Nat} {a : Int32} : mW ro mTab 240 648 [l0, l1, l2, l3, l4, l5, l6, l7] (.int a :: st) h x = if a = 0 then mW ro mTab 240 653 [l0, l1, l2, l3, l4, l5, l6, l7] st h x else mW ro mTab 240 651 [l0, l1, l2, l3, l4, l5, l6, l7] st h x := g_if_eq rfl rfl rfl
set_option maxRecDepth 100000 in
theorem e240_651 {ro : Nat → Nat × (Nat → Int32)} {l0 l1 l2 l3 l4 l5 l6 l7 : Option Value} {st : List Value} {h : List mCel} {x : Nat}  : mW ro mTab 240 651 [l0, l1, l2, l3, l4, l5, l6, l7] st h x = mW ro mTab 240 652 [l0, l1, l2, l3, l4, l5, l6, l7] (.int 0 :: st) h x := (g_step rfl rfl rfl rfl).trans rfl
set_option maxRecDepth 100000 in
theorem e240_652 {ro : Nat → Nat × (Nat → Int32)} {l0 l1 l2 l3 l4 l5 l6 l7 : Option Value} {h : List mCel} {x : Nat} {v : Int32} (hv : v = 0 ∨ v = 1) : mW ro mTab 240 652 [l0, l1, l2, l3, l4, l5, l6, l7] [.int v] h x = some (.inl (some (.int v)), h, x) := g_zret rfl rfl rfl hv
set_option maxRecDepth 100000 in
theorem e240_653 {ro : Nat → Nat × (Nat → Int32)} {l0 l1 l2 l3 l4 l5 l6 l7 : Option Value} {st : List Value} {h : List mCel} {x : Nat}  : mW ro mTab 240 653 [l0, l1, l2, l3, l4, l5, l6, l7] st h x = mW ro mTab 240 1980 [l0, l1, l2, l3, l4, l5, l6, l7] st h x := (g_step rfl rfl rfl rfl).trans rfl
set_option maxRecDepth 100000 in
theorem e240_656 {ro : Nat → Nat × (Nat → Int32)} {l0 l2 l3 l4 l5 l6 l7 : Option Value} {st : List Value} {h : List mCel} {x : Nat} {v : Nat} : mW ro mTab 240 656 [l0, (some (.ref v)), l2, l3, l4, l5, l6, l7] st h x = mW ro mTab 240 657 [l0, (some (.ref v)), l2, l3, l4, l5, l6, l7] (.ref v :: st) h x := (g_step rfl rfl rfl rfl).trans rfl
set_option maxRecDepth 100000 in
theorem e240_657 {ro : Nat → Nat × (Nat → Int32)} {l1 l2 l3 l4 l5 l6 l7 : Option Value} {st : List Value} {h : List mCel} {x : Nat} {v : Nat} : mW ro mTab 240 657 [(some (.ref v)), l1, l2, l3, l4, l5, l6, l7] st h x = mW ro mTab 240 658 [(some (.ref v)), l1, l2, l3, l4, l5, l6, l7] (.ref v :: st) h x := (g_step rfl rfl rfl rfl).trans rfl
set_option maxRecDepth 100000 in
theorem e240_658 {ro : Nat → Nat × (Nat → Int32)} {l0 l1 l2 l3 l4 l6 l7 : Option Value} {st : List Value} {h : List mCel} {x : Nat} {v : Int32} : mW ro mTab 240 658 [l0, l1, l2, l3, l4, (some (.int v)), l6, l7] st h x = mW ro mTab 240 660 [l0, l1, l2, l3, l4, (some (.int v)), l6, l7] (.int v :: st) h x := (g_step rfl rfl rfl rfl).trans rfl
set_option maxRecDepth 100000 in
theorem e240_660 {ro : Nat → Nat × (Nat → Int32)} {l0 l1 l2 l3 l4 l5 l6 l7 : Option Value} {st : List Value} {h : List mCel} {x : Nat}  : mW ro mTab 240 660 [l0, l1, l2, l3, l4, l5, l6, l7] st h x = mW ro mTab 240 661 [l0, l1, l2, l3, l4, l5, l6, l7] (.int 1 :: st) h x := (g_step rfl rfl rfl rfl).trans rfl
set_option maxRecDepth 100000 in
theorem e240_661 {ro : Nat → Nat × (Nat → Int32)} {l0 l1 l2 l3 l4 l5 l6 l7 : Option Value} {st : List Value} {h : List mCel} {x : Nat} {a b : Int32} : mW ro mTab 240 661 [l0, l1, l2, l3, l4, l5, l6, l7] (.int b :: .int a :: st) h x = mW ro mTab 240 662 [l0, l1, l2, l3, l4, l5, l6, l7] (.int (a + b) :: st) h x := (g_step rfl rfl rfl rfl).trans rfl
set_option maxRecDepth 100000 in
theorem e240_662 {ro : Nat → Nat × (Nat → Int32)} {l0 l1 l2 l3 l4 l5 l6 l7 : Option Value} {st : List Value} {h : List mCel} {x : Nat} {a : Nat} {j : Int32} : mW ro mTab 240 662 [l0, l1, l2, l3, l4, l5, l6, l7] (.int j :: .ref a :: st) h x = kIA ro h a j fun v => mW ro mTab 240 663 [l0, l1, l2, l3, l4, l5, l6, l7] (.int v :: st) h x := g_iaload rfl rfl
set_option maxRecDepth 100000 in
theorem e240_663 {ro : Nat → Nat × (Nat → Int32)} {l1 l2 l3 l4 l5 l6 l7 : Option Value} {st : List Value} {h : List mCel} {x : Nat} {v : Nat} : mW ro mTab 240 663 [(some (.ref v)), l1, l2, l3, l4, l5, l6, l7] st h x = mW ro mTab 240 664 [(some (.ref v)), l1, l2, l3, l4, l5, l6, l7] (.ref v :: st) h x := (g_step rfl rfl rfl rfl).trans rfl
set_option maxRecDepth 100000 in
theorem e240_664 {ro : Nat → Nat × (Nat → Int32)} {l0 l1 l2 l3 l4 l6 l7 : Option Value} {st : List Value} {h : List mCel} {x : Nat} {v : Int32} : mW ro mTab 240 664 [l0, l1, l2, l3, l4, (some (.int v)), l6, l7] st h x = mW ro mTab 240 666 [l0, l1, l2, l3, l4, (some (.int v)), l6, l7] (.int v :: st) h x := (g_step rfl rfl rfl rfl).trans rfl
set_option maxRecDepth 100000 in
theorem e240_666 {ro : Nat → Nat × (Nat → Int32)} {l0 l1 l2 l3 l4 l5 l6 l7 : Option Value} {st : List Value} {h : List mCel} {x : Nat}  : mW ro mTab 240 666 [l0, l1, l2, l3, l4, l5, l6, l7] st h x = mW ro mTab 240 667 [l0, l1, l2, l3, l4, l5, l6, l7] (.int 2 :: st) h x := (g_step rfl rfl rfl rfl).trans rfl
set_option maxRecDepth 100000 in
theorem e240_667 {ro : Nat → Nat × (Nat → Int32)} {l0 l1 l2 l3 l4 l5 l6 l7 : Option Value} {st : List Value} {h : List mCel} {x : Nat} {a b : Int32} : mW ro mTab 240 667 [l0, l1, l2, l3, l4, l5, l6, l7] (.int b :: .int a :: st) h x = mW ro mTab 240 668 [l0, l1, l2, l3, l4, l5, l6, l7] (.int (a + b) :: st) h x := (g_step rfl rfl rfl rfl).trans rfl
set_option maxRecDepth 100000 in
theorem e240_668 {ro : Nat → Nat × (Nat → Int32)} {l0 l1 l2 l3 l4 l5 l6 l7 : Option Value} {st : List Value} {h : List mCel} {x : Nat} {a : Nat} {j : Int32} : mW ro mTab 240 668 [l0, l1, l2, l3, l4, l5, l6, l7] (.int j :: .ref a :: st) h x = kIA ro h a j fun v => mW ro mTab 240 669 [l0, l1, l2, l3, l4, l5, l6, l7] (.int v :: st) h x := g_iaload rfl rfl
set_option maxRecDepth 100000 in
theorem e240_669 {ro : Nat → Nat × (Nat → Int32)} {l1 l2 l3 l4 l5 l6 l7 : Option Value} {st : List Value} {h : List mCel} {x : Nat} {v : Nat} : mW ro mTab 240 669 [(some (.ref v)), l1, l2, l3, l4, l5, l6, l7] st h x = mW ro mTab 240 670 [(some (.ref v)), l1, l2, l3, l4, l5, l6, l7] (.ref v :: st) h x := (g_step rfl rfl rfl rfl).trans rfl
set_option maxRecDepth 100000 in
theorem e240_670 {ro : Nat → Nat × (Nat → Int32)} {l0 l1 l2 l3 l4 l6 l7 : Option Value} {st : List Value} {h : List mCel} {x : Nat} {v : Int32} : mW ro mTab 240 670 [l0, l1, l2, l3, l4, (some (.int v)), l6, l7] st h x = mW ro mTab 240 672 [l0, l1, l2, l3, l4, (some (.int v)), l6, l7] (.int v :: st) h x := (g_step rfl rfl rfl rfl).trans rfl
set_option maxRecDepth 100000 in
theorem e240_672 {ro : Nat → Nat × (Nat → Int32)} {l0 l1 l2 l3 l4 l5 l6 l7 : Option Value} {st : List Value} {h : List mCel} {x : Nat}  : mW ro mTab 240 672 [l0, l1, l2, l3, l4, l5, l6, l7] st h x = mW ro mTab 240 673 [l0, l1, l2, l3, l4, l5, l6, l7] (.int 3 :: st) h x := (g_step rfl rfl rfl rfl).trans rfl
set_option maxRecDepth 100000 in
theorem e240_673 {ro : Nat → Nat × (Nat → Int32)} {l0 l1 l2 l3 l4 l5 l6 l7 : Option Value} {st : List Value} {h : List mCel} {x : Nat} {a b : Int32} : mW ro mTab 240 673 [l0, l1, l2, l3, l4, l5, l6, l7] (.int b :: .int a :: st) h x = mW ro mTab 240 674 [l0, l1, l2, l3, l4, l5, l6, l7] (.int (a + b) :: st) h x := (g_step rfl rfl rfl rfl).trans rfl
set_option maxRecDepth 100000 in
theorem e240_674 {ro : Nat → Nat × (Nat → Int32)} {l0 l1 l2 l3 l4 l5 l6 l7 : Option Value} {st : List Value} {h : List mCel} {x : Nat} {a : Nat} {j : Int32} : mW ro mTab 240 674 [l0, l1, l2, l3, l4, l5, l6, l7] (.int j :: .ref a :: st) h x = kIA ro h a j fun v => mW ro mTab 240 675 [l0, l1, l2, l3, l4, l5, l6, l7] (.int v :: st) h x := g_iaload rfl rfl
set_option maxRecDepth 100000 in
theorem e240_675 {ro : Nat → Nat × (Nat → Int32)} {l1 l2 l3 l4 l5 l6 l7 : Option Value} {st : List Value} {h : List mCel} {x : Nat} {v : Nat} : mW ro mTab 240 675 [(some (.ref v)), l1, l2, l3, l4, l5, l6, l7] st h x = mW ro mTab 240 676 [(some (.ref v)), l1, l2, l3, l4, l5, l6, l7] (.ref v :: st) h x := (g_step rfl rfl rfl rfl).trans rfl
set_option maxRecDepth 100000 in
theorem e240_676 {ro : Nat → Nat × (Nat → Int32)} {l0 l1 l2 l3 l4 l6 l7 : Option Value} {st : List Value} {h : List mCel} {x : Nat} {v : Int32} : mW ro mTab 240 676 [l0, l1, l2, l3, l4, (some (.int v)), l6, l7] st h x = mW ro mTab 240 678 [l0, l1, l2, l3, l4, (some (.int v)), l6, l7] (.int v :: st) h x := (g_step rfl rfl rfl rfl).trans rfl
set_option maxRecDepth 100000 in
theorem e240_678 {ro : Nat → Nat × (Nat → Int32)} {l0 l1 l2 l3 l4 l5 l6 l7 : Option Value} {st : List Value} {h : List mCel} {x : Nat}  : mW ro mTab 240 678 [l0, l1, l2, l3, l4, l5, l6, l7] st h x = mW ro mTab 240 679 [l0, l1, l2, l3, l4, l5, l6, l7] (.int 4 :: st) h x := (g_step rfl rfl rfl rfl).trans rfl
set_option maxRecDepth 100000 in
theorem e240_679 {ro : Nat → Nat × (Nat → Int32)} {l0 l1 l2 l3 l4 l5 l6 l7 : Option Value} {st : List Value} {h : List mCel} {x : Nat} {a b : Int32} : mW ro mTab 240 679 [l0, l1, l2, l3, l4, l5, l6, l7] (.int b :: .int a :: st) h x = mW ro mTab 240 680 [l0, l1, l2, l3, l4, l5, l6, l7] (.int (a + b) :: st) h x := (g_step rfl rfl rfl rfl).trans rfl
set_option maxRecDepth 100000 in
theorem e240_680 {ro : Nat → Nat × (Nat → Int32)} {l0 l1 l2 l3 l4 l5 l6 l7 : Option Value} {st : List Value} {h : List mCel} {x : Nat} {a : Nat} {j : Int32} : mW ro mTab 240 680 [l0, l1, l2, l3, l4, l5, l6, l7] (.int j :: .ref a :: st) h x = kIA ro h a j fun v => mW ro mTab 240 681 [l0, l1, l2, l3, l4, l5, l6, l7] (.int v :: st) h x := g_iaload rfl rfl
set_option maxRecDepth 100000 in
theorem e240_681 {ro : Nat → Nat × (Nat → Int32)} {l1 l2 l3 l4 l5 l6 l7 : Option Value} {st : List Value} {h : List mCel} {x : Nat} {v : Nat} : mW ro mTab 240 681 [(some (.ref v)), l1, l2, l3, l4, l5, l6, l7] st h x = mW ro mTab 240 682 [(some (.ref v)), l1, l2, l3, l4, l5, l6, l7] (.ref v :: st) h x := (g_step rfl rfl rfl rfl).trans rfl
set_option maxRecDepth 100000 in
theorem e240_682 {ro : Nat → Nat × (Nat → Int32)} {l0 l1 l2 l3 l4 l6 l7 : Option Value} {st : List Value} {h : List mCel} {x : Nat} {v : Int32} : mW ro mTab 240 682 [l0, l1, l2, l3, l4, (some (.int v)), l6, l7] st h x = mW ro mTab 240 684 [l0, l1, l2, l3, l4, (some (.int v)), l6, l7] (.int v :: st) h x := (g_step rfl rfl rfl rfl).trans rfl
set_option maxRecDepth 100000 in
theorem e240_684 {ro : Nat → Nat × (Nat → Int32)} {l0 l1 l2 l3 l4 l5 l6 l7 : Option Value} {st : List Value} {h : List mCel} {x : Nat}  : mW ro mTab 240 684 [l0, l1, l2, l3, l4, l5, l6, l7] st h x = mW ro mTab 240 685 [l0, l1, l2, l3, l4, l5, l6, l7] (.int 5 :: st) h x := (g_step rfl rfl rfl rfl).trans rfl
set_option maxRecDepth 100000 in
theorem e240_685 {ro : Nat → Nat × (Nat → Int32)} {l0 l1 l2 l3 l4 l5 l6 l7 : Option Value} {st : List Value} {h : List mCel} {x : Nat} {a b : Int32} : mW ro mTab 240 685 [l0, l1, l2, l3, l4, l5, l6, l7] (.int b :: .int a :: st) h x = mW ro mTab 240 686 [l0, l1, l2, l3, l4, l5, l6, l7] (.int (a + b) :: st) h x := (g_step rfl rfl rfl rfl).trans rfl
set_option maxRecDepth 100000 in
theorem e240_686 {ro : Nat → Nat × (Nat → Int32)} {l0 l1 l2 l3 l4 l5 l6 l7 : Option Value} {st : List Value} {h : List mCel} {x : Nat} {a : Nat} {j : Int32} : mW ro mTab 240 686 [l0, l1, l2, l3, l4, l5, l6, l7] (.int j :: .ref a :: st) h x = kIA ro h a j fun v => mW ro mTab 240 687 [l0, l1, l2, l3, l4, l5, l6, l7] (.int v :: st) h x := g_iaload rfl rfl
set_option maxRecDepth 100000 in
theorem e240_687 {ro : Nat → Nat × (Nat → Int32)} {l1 l2 l3 l4 l5 l6 l7 : Option Value} {st : List Value} {h : List mCel} {x : Nat} {v : Nat} : mW ro mTab 240 687 [(some (.ref v)), l1, l2, l3, l4, l5, l6, l7] st h x = mW ro mTab 240 688 [(some (.ref v)), l1, l2, l3, l4, l5, l6, l7] (.ref v :: st) h x := (g_step rfl rfl rfl rfl).trans rfl
set_option maxRecDepth 100000 in
theorem e240_688 {ro : Nat → Nat × (Nat → Int32)} {l0 l1 l2 l3 l4 l6 l7 : Option Value} {st : List Value} {h : List mCel} {x : Nat} {v : Int32} : mW ro mTab 240 688 [l0, l1, l2, l3, l4, (some (.int v)), l6, l7] st h x = mW ro mTab 240 690 [l0, l1, l2, l3, l4, (some (.int v)), l6, l7] (.int v :: st) h x := (g_step rfl rfl rfl rfl).trans rfl
set_option maxRecDepth 100000 in
theorem e240_690 {ro : Nat → Nat × (Nat → Int32)} {l0 l1 l2 l3 l4 l5 l6 l7 : Option Value} {st : List Value} {h : List mCel} {x : Nat}  : mW ro mTab 240 690 [l0, l1, l2, l3, l4, l5, l6, l7] st h x = mW ro mTab 240 692 [l0, l1, l2, l3, l4, l5, l6, l7] (.int 6 :: st) h x := (g_step rfl rfl rfl rfl).trans rfl
set_option maxRecDepth 100000 in
theorem e240_692 {ro : Nat → Nat × (Nat → Int32)} {l0 l1 l2 l3 l4 l5 l6 l7 : Option Value} {st : List Value} {h : List mCel} {x : Nat} {a b : Int32} : mW ro mTab 240 692 [l0, l1, l2, l3, l4, l5, l6, l7] (.int b :: .int a :: st) h x = mW ro mTab 240 693 [l0, l1, l2, l3, l4, l5, l6, l7] (.int (a + b) :: st) h x := (g_step rfl rfl rfl rfl).trans rfl
set_option maxRecDepth 100000 in
theorem e240_693 {ro : Nat → Nat × (Nat → Int32)} {l0 l1 l2 l3 l4 l5 l6 l7 : Option Value} {st : List Value} {h : List mCel} {x : Nat} {a : Nat} {j : Int32} : mW ro mTab 240 693 [l0, l1, l2, l3, l4, l5, l6, l7] (.int j :: .ref a :: st) h x = kIA ro h a j fun v => mW ro mTab 240 694 [l0, l1, l2, l3, l4, l5, l6, l7] (.int v :: st) h x := g_iaload rfl rfl
set_option maxRecDepth 100000 in
theorem e240_694 {ro : Nat → Nat × (Nat → Int32)} {l0 l1 l2 l4 l5 l6 l7 : Option Value} {st : List Value} {h : List mCel} {x : Nat} {v : Nat} : mW ro mTab 240 694 [l0, l1, l2, (some (.ref v)), l4, l5, l6, l7] st h x = mW ro mTab 240 695 [l0, l1, l2, (some (.ref v)), l4, l5, l6, l7] (.ref v :: st) h x := (g_step rfl rfl rfl rfl).trans rfl
set_option maxRecDepth 100000 in
theorem e240_695 {ro : Nat → Nat × (Nat → Int32)} {l0 l1 l2 l3 l4 l5 l6 l7 : Option Value} {st : List Value} {h : List mCel} {x : Nat} {a0 : Nat} {a1 : Int32} {a2 : Int32} {a3 : Int32} {a4 : Int32} {a5 : Int32} {a6 : Int32} {a7 : Nat} (hs : (st.map Value.category).sum ≤ 8) : mW ro mTab 240 695 [l0, l1, l2, l3, l4, l5, l6, l7] (.ref a7 :: .int a6 :: .int a5 :: .int a4 :: .int a3 :: .int a2 :: .int a1 :: .ref a0 :: st) h x = mAft (mW ro mTab) (mHd mM_240) 240 695 [l0, l1, l2, l3, l4, l5, l6, l7] st (mW ro mTab 254 0 [some (.ref a0), some (.int a1), some (.int a2), some (.int a3), some (.int a4), some (.int a5), some (.int a6), some (.ref a7), none] [] h x) := g_call rfl rfl rfl rfl rfl rfl rfl hs
set_option maxRecDepth 100000 in
theorem e240_698 {ro : Nat → Nat × (Nat → Int32)} {l0 l1 l2 l3 l4 l5 l6 l7 : Option Value} {st : List Value} {h : List mCel} {x : Nat} {v : Int32} : mW ro mTab 240 698 [l0, l1, l2, l3, l4, l5, l6, l7] (.int v :: st) h x = mW ro mTab 240 700 [l0, l1, l2, l3, l4, l5, (some (.int v)), l7] st h x := (g_step rfl rfl rfl rfl).trans rfl
set_option maxRecDepth 100000 in
theorem e240_700 {ro : Nat → Nat × (Nat → Int32)} {l0 l1 l3 l4 l5 l6 l7 : Option Value} {st : List Value} {h : List mCel} {x : Nat} {v : Nat} : mW ro mTab 240 700 [l0, l1, (some (.ref v)), l3, l4, l5, l6, l7] st h x = mW ro mTab 240 701 [l0, l1, (some (.ref v)), l3, l4, l5, l6, l7] (.ref v :: st) h x := (g_step rfl rfl rfl rfl).trans rfl
set_option maxRecDepth 100000 in
theorem e240_701 {ro : Nat → Nat × (Nat → Int32)} {l1 l2 l3 l4 l5 l6 l7 : Option Value} {st : List Value} {h : List mCel} {x : Nat} {v : Nat} : mW ro mTab 240 701 [(some (.ref v)), l1, l2, l3, l4, l5, l6, l7] st h x = mW ro mTab 240 702 [(some (.ref v)), l1, l2, l3, l4, l5, l6, l7] (.ref v :: st) h x := (g_step rfl rfl rfl rfl).trans rfl
set_option maxRecDepth 100000 in
theorem e240_702 {ro : Nat → Nat × (Nat → Int32)} {l0 l1 l2 l3 l4 l6 l7 : Option Value} {st : List Value} {h : List mCel} {x : Nat} {v : Int32} : mW ro mTab 240 702 [l0, l1, l2, l3, l4, (some (.int v)), l6, l7] st h x = mW ro mTab 240 704 [l0, l1, l2, l3, l4, (some (.int v)), l6, l7] (.int v :: st) h x := (g_step rfl rfl rfl rfl).trans rfl
set_option maxRecDepth 100000 in
theorem e240_704 {ro : Nat → Nat × (Nat → Int32)} {l0 l1 l2 l3 l4 l5 l6 l7 : Option Value} {st : List Value} {h : List mCel} {x : Nat}  : mW ro mTab 240 704 [l0, l1, l2, l3, l4, l5, l6, l7] st h x = mW ro mTab 240 705 [l0, l1, l2, l3, l4, l5, l6, l7] (.int 1 :: st) h x := (g_step rfl rfl rfl rfl).trans rfl
set_option maxRecDepth 100000 in
theorem e240_705 {ro : Nat → Nat × (Nat → Int32)} {l0 l1 l2 l3 l4 l5 l6 l7 : Option Value} {st : List Value} {h : List mCel} {x : Nat} {a b : Int32} : mW ro mTab 240 705 [l0, l1, l2, l3, l4, l5, l6, l7] (.int b :: .int a :: st) h x = mW ro mTab 240 706 [l0, l1, l2, l3, l4, l5, l6, l7] (.int (a + b) :: st) h x := (g_step rfl rfl rfl rfl).trans rfl
set_option maxRecDepth 100000 in
theorem e240_706 {ro : Nat → Nat × (Nat → Int32)} {l0 l1 l2 l3 l4 l5 l6 l7 : Option Value} {st : List Value} {h : List mCel} {x : Nat} {a : Nat} {j : Int32} : mW ro mTab 240 706 [l0, l1, l2, l3, l4, l5, l6, l7] (.int j :: .ref a :: st) h x = kIA ro h a j fun v => mW ro mTab 240 707 [l0, l1, l2, l3, l4, l5, l6, l7] (.int v :: st) h x := g_iaload rfl rfl
set_option maxRecDepth 100000 in
theorem e240_707 {ro : Nat → Nat × (Nat → Int32)} {l1 l2 l3 l4 l5 l6 l7 : Option Value} {st : List Value} {h : List mCel} {x : Nat} {v : Nat} : mW ro mTab 240 707 [(some (.ref v)), l1, l2, l3, l4, l5, l6, l7] st h x = mW ro mTab 240 708 [(some (.ref v)), l1, l2, l3, l4, l5, l6, l7] (.ref v :: st) h x := (g_step rfl rfl rfl rfl).trans rfl
set_option maxRecDepth 100000 in
theorem e240_708 {ro : Nat → Nat × (Nat → Int32)} {l0 l1 l2 l3 l4 l6 l7 : Option Value} {st : List Value} {h : List mCel} {x : Nat} {v : Int32} : mW ro mTab 240 708 [l0, l1, l2, l3, l4, (some (.int v)), l6, l7] st h x = mW ro mTab 240 710 [l0, l1, l2, l3, l4, (some (.int v)), l6, l7] (.int v :: st) h x := (g_step rfl rfl rfl rfl).trans rfl
set_option maxRecDepth 100000 in
theorem e240_710 {ro : Nat → Nat × (Nat → Int32)} {l0 l1 l2 l3 l4 l5 l6 l7 : Option Value} {st : List Value} {h : List mCel} {x : Nat}  : mW ro mTab 240 710 [l0, l1, l2, l3, l4, l5, l6, l7] st h x = mW ro mTab 240 711 [l0, l1, l2, l3, l4, l5, l6, l7] (.int 2 :: st) h x := (g_step rfl rfl rfl rfl).trans rfl
set_option maxRecDepth 100000 in
theorem e240_711 {ro : Nat → Nat × (Nat → Int32)} {l0 l1 l2 l3 l4 l5 l6 l7 : Option Value} {st : List Value} {h : List mCel} {x : Nat} {a b : Int32} : mW ro mTab 240 711 [l0, l1, l2, l3, l4, l5, l6, l7] (.int b :: .int a :: st) h x = mW ro mTab 240 712 [l0, l1, l2, l3, l4, l5, l6, l7] (.int (a + b) :: st) h x := (g_step rfl rfl rfl rfl).trans rfl
set_option maxRecDepth 100000 in
theorem e240_712 {ro : Nat → Nat × (Nat → Int32)} {l0 l1 l2 l3 l4 l5 l6 l7 : Option Value} {st : List Value} {h : List mCel} {x : Nat} {a : Nat} {j : Int32} : mW ro mTab 240 712 [l0, l1, l2, l3, l4, l5, l6, l7] (.int j :: .ref a :: st) h x = kIA ro h a j fun v => mW ro mTab 240 713 [l0, l1, l2, l3, l4, l5, l6, l7] (.int v :: st) h x := g_iaload rfl rfl
set_option maxRecDepth 100000 in
theorem e240_713 {ro : Nat → Nat × (Nat → Int32)} {l1 l2 l3 l4 l5 l6 l7 : Option Value} {st : List Value} {h : List mCel} {x : Nat} {v : Nat} : mW ro mTab 240 713 [(some (.ref v)), l1, l2, l3, l4, l5, l6, l7] st h x = mW ro mTab 240 714 [(some (.ref v)), l1, l2, l3, l4, l5, l6, l7] (.ref v :: st) h x := (g_step rfl rfl rfl rfl).trans rfl
set_option maxRecDepth 100000 in
theorem e240_714 {ro : Nat → Nat × (Nat → Int32)} {l0 l1 l2 l3 l4 l6 l7 : Option Value} {st : List Value} {h : List mCel} {x : Nat} {v : Int32} : mW ro mTab 240 714 [l0, l1, l2, l3, l4, (some (.int v)), l6, l7] st h x = mW ro mTab 240 716 [l0, l1, l2, l3, l4, (some (.int v)), l6, l7] (.int v :: st) h x := (g_step rfl rfl rfl rfl).trans rfl
set_option maxRecDepth 100000 in
theorem e240_716 {ro : Nat → Nat × (Nat → Int32)} {l0 l1 l2 l3 l4 l5 l6 l7 : Option Value} {st : List Value} {h : List mCel} {x : Nat}  : mW ro mTab 240 716 [l0, l1, l2, l3, l4, l5, l6, l7] st h x = mW ro mTab 240 717 [l0, l1, l2, l3, l4, l5, l6, l7] (.int 3 :: st) h x := (g_step rfl rfl rfl rfl).trans rfl
set_option maxRecDepth 100000 in
theorem e240_717 {ro : Nat → Nat × (Nat → Int32)} {l0 l1 l2 l3 l4 l5 l6 l7 : Option Value} {st : List Value} {h : List mCel} {x : Nat} {a b : Int32} : mW ro mTab 240 717 [l0, l1, l2, l3, l4, l5, l6, l7] (.int b :: .int a :: st) h x = mW ro mTab 240 718 [l0, l1, l2, l3, l4, l5, l6, l7] (.int (a + b) :: st) h x := (g_step rfl rfl rfl rfl).trans rfl
set_option maxRecDepth 100000 in
theorem e240_718 {ro : Nat → Nat × (Nat → Int32)} {l0 l1 l2 l3 l4 l5 l6 l7 : Option Value} {st : List Value} {h : List mCel} {x : Nat} {a : Nat} {j : Int32} : mW ro mTab 240 718 [l0, l1, l2, l3, l4, l5, l6, l7] (.int j :: .ref a :: st) h x = kIA ro h a j fun v => mW ro mTab 240 719 [l0, l1, l2, l3, l4, l5, l6, l7] (.int v :: st) h x := g_iaload rfl rfl
set_option maxRecDepth 100000 in
theorem e240_719 {ro : Nat → Nat × (Nat → Int32)} {l1 l2 l3 l4 l5 l6 l7 : Option Value} {st : List Value} {h : List mCel} {x : Nat} {v : Nat} : mW ro mTab 240 719 [(some (.ref v)), l1, l2, l3, l4, l5, l6, l7] st h x = mW ro mTab 240 720 [(some (.ref v)), l1, l2, l3, l4, l5, l6, l7] (.ref v :: st) h x := (g_step rfl rfl rfl rfl).trans rfl
set_option maxRecDepth 100000 in
theorem e240_720 {ro : Nat → Nat × (Nat → Int32)} {l0 l1 l2 l3 l4 l6 l7 : Option Value} {st : List Value} {h : List mCel} {x : Nat} {v : Int32} : mW ro mTab 240 720 [l0, l1, l2, l3, l4, (some (.int v)), l6, l7] st h x = mW ro mTab 240 722 [l0, l1, l2, l3, l4, (some (.int v)), l6, l7] (.int v :: st) h x := (g_step rfl rfl rfl rfl).trans rfl
set_option maxRecDepth 100000 in
theorem e240_722 {ro : Nat → Nat × (Nat → Int32)} {l0 l1 l2 l3 l4 l5 l6 l7 : Option Value} {st : List Value} {h : List mCel} {x : Nat}  : mW ro mTab 240 722 [l0, l1, l2, l3, l4, l5, l6, l7] st h x = mW ro mTab 240 723 [l0, l1, l2, l3, l4, l5, l6, l7] (.int 4 :: st) h x := (g_step rfl rfl rfl rfl).trans rfl
set_option maxRecDepth 100000 in
theorem e240_723 {ro : Nat → Nat × (Nat → Int32)} {l0 l1 l2 l3 l4 l5 l6 l7 : Option Value} {st : List Value} {h : List mCel} {x : Nat} {a b : Int32} : mW ro mTab 240 723 [l0, l1, l2, l3, l4, l5, l6, l7] (.int b :: .int a :: st) h x = mW ro mTab 240 724 [l0, l1, l2, l3, l4, l5, l6, l7] (.int (a + b) :: st) h x := (g_step rfl rfl rfl rfl).trans rfl
set_option maxRecDepth 100000 in
theorem e240_724 {ro : Nat → Nat × (Nat → Int32)} {l0 l1 l2 l3 l4 l5 l6 l7 : Option Value} {st : List Value} {h : List mCel} {x : Nat} {a : Nat} {j : Int32} : mW ro mTab 240 724 [l0, l1, l2, l3, l4, l5, l6, l7] (.int j :: .ref a :: st) h x = kIA ro h a j fun v => mW ro mTab 240 725 [l0, l1, l2, l3, l4, l5, l6, l7] (.int v :: st) h x := g_iaload rfl rfl
set_option maxRecDepth 100000 in
theorem e240_725 {ro : Nat → Nat × (Nat → Int32)} {l1 l2 l3 l4 l5 l6 l7 : Option Value} {st : List Value} {h : List mCel} {x : Nat} {v : Nat} : mW ro mTab 240 725 [(some (.ref v)), l1, l2, l3, l4, l5, l6, l7] st h x = mW ro mTab 240 726 [(some (.ref v)), l1, l2, l3, l4, l5, l6, l7] (.ref v :: st) h x := (g_step rfl rfl rfl rfl).trans rfl
set_option maxRecDepth 100000 in
theorem e240_726 {ro : Nat → Nat × (Nat → Int32)} {l0 l1 l2 l3 l4 l6 l7 : Option Value} {st : List Value} {h : List mCel} {x : Nat} {v : Int32} : mW ro mTab 240 726 [l0, l1, l2, l3, l4, (some (.int v)), l6, l7] st h x = mW ro mTab 240 728 [l0, l1, l2, l3, l4, (some (.int v)), l6, l7] (.int v :: st) h x := (g_step rfl rfl rfl rfl).trans rfl
set_option maxRecDepth 100000 in
theorem e240_728 {ro : Nat → Nat × (Nat → Int32)} {l0 l1 l2 l3 l4 l5 l6 l7 : Option Value} {st : List Value} {h : List mCel} {x : Nat}  : mW ro mTab 240 728 [l0, l1, l2, l3, l4, l5, l6, l7] st h x = mW ro mTab 240 729 [l0, l1, l2, l3, l4, l5, l6, l7] (.int 5 :: st) h x := (g_step rfl rfl rfl rfl).trans rfl
set_option maxRecDepth 100000 in
theorem e240_729 {ro : Nat → Nat × (Nat → Int32)} {l0 l1 l2 l3 l4 l5 l6 l7 : Option Value} {st : List Value} {h : List mCel} {x : Nat} {a b : Int32} : mW ro mTab 240 729 [l0, l1, l2, l3, l4, l5, l6, l7] (.int b :: .int a :: st) h x = mW ro mTab 240 730 [l0, l1, l2, l3, l4, l5, l6, l7] (.int (a + b) :: st) h x := (g_step rfl rfl rfl rfl).trans rfl
set_option maxRecDepth 100000 in
theorem e240_730 {ro : Nat → Nat × (Nat → Int32)} {l0 l1 l2 l3 l4 l5 l6 l7 : Option Value} {st : List Value} {h : List mCel} {x : Nat} {a : Nat} {j : Int32} : mW ro mTab 240 730 [l0, l1, l2, l3, l4, l5, l6, l7] (.int j :: .ref a :: st) h x = kIA ro h a j fun v => mW ro mTab 240 731 [l0, l1, l2, l3, l4, l5, l6, l7] (.int v :: st) h x := g_iaload rfl rfl
set_option maxRecDepth 100000 in
theorem e240_731 {ro : Nat → Nat × (Nat → Int32)} {l1 l2 l3 l4 l5 l6 l7 : Option Value} {st : List Value} {h : List mCel} {x : Nat} {v : Nat} : mW ro mTab 240 731 [(some (.ref v)), l1, l2, l3, l4, l5, l6, l7] st h x = mW ro mTab 240 732 [(some (.ref v)), l1, l2, l3, l4, l5, l6, l7] (.ref v :: st) h x := (g_step rfl rfl rfl rfl).trans rfl
set_option maxRecDepth 100000 in
theorem e240_732 {ro : Nat → Nat × (Nat → Int32)} {l0 l1 l2 l3 l4 l6 l7 : Option Value} {st : List Value} {h : List mCel} {x : Nat} {v : Int32} : mW ro mTab 240 732 [l0, l1, l2, l3, l4, (some (.int v)), l6, l7] st h x = mW ro mTab 240 734 [l0, l1, l2, l3, l4, (some (.int v)), l6, l7] (.int v :: st) h x := (g_step rfl rfl rfl rfl).trans rfl
set_option maxRecDepth 100000 in
theorem e240_734 {ro : Nat → Nat × (Nat → Int32)} {l0 l1 l2 l3 l4 l5 l6 l7 : Option Value} {st : List Value} {h : List mCel} {x : Nat}  : mW ro mTab 240 734 [l0, l1, l2, l3, l4, l5, l6, l7] st h x = mW ro mTab 240 736 [l0, l1, l2, l3, l4, l5, l6, l7] (.int 6 :: st) h x := (g_step rfl rfl rfl rfl).trans rfl
set_option maxRecDepth 100000 in
theorem e240_736 {ro : Nat → Nat × (Nat → Int32)} {l0 l1 l2 l3 l4 l5 l6 l7 : Option Value} {st : List Value} {h : List mCel} {x : Nat} {a b : Int32} : mW ro mTab 240 736 [l0, l1, l2, l3, l4, l5, l6, l7] (.int b :: .int a :: st) h x = mW ro mTab 240 737 [l0, l1, l2, l3, l4, l5, l6, l7] (.int (a + b) :: st) h x := (g_step rfl rfl rfl rfl).trans rfl
set_option maxRecDepth 100000 in
theorem e240_737 {ro : Nat → Nat × (Nat → Int32)} {l0 l1 l2 l3 l4 l5 l6 l7 : Option Value} {st : List Value} {h : List mCel} {x : Nat} {a : Nat} {j : Int32} : mW ro mTab 240 737 [l0, l1, l2, l3, l4, l5, l6, l7] (.int j :: .ref a :: st) h x = kIA ro h a j fun v => mW ro mTab 240 738 [l0, l1, l2, l3, l4, l5, l6, l7] (.int v :: st) h x := g_iaload rfl rfl
set_option maxRecDepth 100000 in
theorem e240_738 {ro : Nat → Nat × (Nat → Int32)} {l0 l1 l2 l3 l4 l5 l6 l7 : Option Value} {st : List Value} {h : List mCel} {x : Nat} {a0 : Nat} {a1 : Int32} {a2 : Int32} {a3 : Int32} {a4 : Int32} {a5 : Int32} {a6 : Int32} (hr : kR (mCell h a0) 11 = true) (hs : (st.map Value.category).sum ≤ 8) : mW ro mTab 240 738 [l0, l1, l2, l3, l4, l5, l6, l7] (.int a6 :: .int a5 :: .int a4 :: .int a3 :: .int a2 :: .int a1 :: .ref a0 :: st) h x = mAft (mW ro mTab) (mHd mM_240) 240 738 [l0, l1, l2, l3, l4, l5, l6, l7] st (mW ro mTab 143 0 [some (.ref a0), some (.int a1), some (.int a2), some (.int a3), some (.int a4), some (.int a5), some (.int a6), none] [] h x) := g_call rfl rfl rfl rfl rfl rfl (g_rcv rfl hr) hs
set_option maxRecDepth 100000 in
theorem e240_741 {ro : Nat → Nat × (Nat → Int32)} {l0 l1 l2 l3 l4 l5 l6 l7 : Option Value} {st : List Value} {h : List mCel} {x : Nat} {v : Int32} : mW ro mTab 240 741 [l0, l1, l2, l3, l4, l5, l6, l7] (.int v :: st) h x = mW ro mTab 240 743 [l0, l1, l2, l3, l4, l5, l6, (some (.int v))] st h x := (g_step rfl rfl rfl rfl).trans rfl
set_option maxRecDepth 100000 in
theorem e240_743 {ro : Nat → Nat × (Nat → Int32)} {l0 l1 l3 l4 l5 l6 l7 : Option Value} {st : List Value} {h : List mCel} {x : Nat} {v : Nat} : mW ro mTab 240 743 [l0, l1, (some (.ref v)), l3, l4, l5, l6, l7] st h x = mW ro mTab 240 744 [l0, l1, (some (.ref v)), l3, l4, l5, l6, l7] (.ref v :: st) h x := (g_step rfl rfl rfl rfl).trans rfl
set_option maxRecDepth 100000 in
theorem e240_744 {ro : Nat → Nat × (Nat → Int32)} {l0 l1 l2 l3 l4 l5 l6 l7 : Option Value} {st : List Value} {h : List mCel} {x : Nat} {a0 : Nat} (hr : kR (mCell h a0) 11 = true) (hs : (st.map Value.category).sum ≤ 8) : mW ro mTab 240 744 [l0, l1, l2, l3, l4, l5, l6, l7] (.ref a0 :: st) h x = mAft (mW ro mTab) (mHd mM_240) 240 744 [l0, l1, l2, l3, l4, l5, l6, l7] st (mW ro mTab 137 0 [some (.ref a0)] [] h x) := g_call rfl rfl rfl rfl rfl rfl (g_rcv rfl hr) hs
set_option maxRecDepth 100000 in
theorem e240_747 {ro : Nat → Nat × (Nat → Int32)} {l0 l1 l2 l3 l4 l5 l7 : Option Value} {st : List Value} {h : List mCel} {x : Nat} {v : Int32} : mW ro mTab 240 747 [l0, l1, l2, l3, l4, l5, (some (.int v)), l7] st h x = mW ro mTab 240 749 [l0, l1, l2, l3, l4, l5, (some (.int v)), l7] (.int v :: st) h x := (g_step rfl rfl rfl rfl).trans rfl
set_option maxRecDepth 100000 in
theorem e240_749 {ro : Nat → Nat × (Nat → Int32)} {l0 l1 l2 l3 l4 l5 l6 l7 : Option Value} {st : List Value} {h : List mCel} {x : Nat} {a b : Int32} : mW ro mTab 240 749 [l0, l1, l2, l3, l4, l5, l6, l7] (.int b :: .int a :: st) h x = if a = b then mW ro mTab 240 754 [l0, l1, l2, l3, l4, l5, l6, l7] st h x else mW ro mTab 240 752 [l0, l1, l2, l3, l4, l5, l6, l7] st h x := g_icmp_eq rfl rfl rfl
set_option maxRecDepth 100000 in
theorem e240_752 {ro : Nat → Nat × (Nat → Int32)} {l0 l1 l2 l3 l4 l5 l6 l7 : Option Value} {st : List Value} {h : List mCel} {x : Nat}  : mW ro mTab 240 752 [l0, l1, l2, l3, l4, l5, l6, l7] st h x = mW ro mTab 240 753 [l0, l1, l2, l3, l4, l5, l6, l7] (.int 0 :: st) h x := (g_step rfl rfl rfl rfl).trans rfl
set_option maxRecDepth 100000 in
theorem e240_753 {ro : Nat → Nat × (Nat → Int32)} {l0 l1 l2 l3 l4 l5 l6 l7 : Option Value} {h : List mCel} {x : Nat} {v : Int32} (hv : v = 0 ∨ v = 1) : mW ro mTab 240 753 [l0, l1, l2, l3, l4, l5, l6, l7] [.int v] h x = some (.inl (some (.int v)), h, x) := g_zret rfl rfl rfl hv
set_option maxRecDepth 100000 in
theorem e240_754 {ro : Nat → Nat × (Nat → Int32)} {l0 l1 l2 l3 l4 l5 l7 : Option Value} {st : List Value} {h : List mCel} {x : Nat} {v : Int32} : mW ro mTab 240 754 [l0, l1, l2, l3, l4, l5, (some (.int v)), l7] st h x = mW ro mTab 240 756 [l0, l1, l2, l3, l4, l5, (some (.int v)), l7] (.int v :: st) h x := (g_step rfl rfl rfl rfl).trans rfl
set_option maxRecDepth 100000 in
theorem e240_756 {ro : Nat → Nat × (Nat → Int32)} {l0 l1 l2 l3 l4 l5 l6 l7 : Option Value} {st : List Value} {h : List mCel} {x : Nat} {a : Int32} : mW ro mTab 240 756 [l0, l1, l2, l3, l4, l5, l6, l7] (.int a :: st) h x = if ¬ a = 0 then mW ro mTab 240 771 [l0, l1, l2, l3, l4, l5, l6, l7] st h x else mW ro mTab 240 759 [l0, l1, l2, l3, l4, l5, l6, l7] st h x := g_if_ne rfl rfl rfl
set_option maxRecDepth 100000 in
theorem e240_759 {ro : Nat → Nat × (Nat → Int32)} {l0 l1 l2 l4 l5 l6 l7 : Option Value} {st : List Value} {h : List mCel} {x : Nat} {v : Nat} : mW ro mTab 240 759 [l0, l1, l2, (some (.ref v)), l4, l5, l6, l7] st h x = mW ro mTab 240 760 [l0, l1, l2, (some (.ref v)), l4, l5, l6, l7] (.ref v :: st) h x := (g_step rfl rfl rfl rfl).trans rfl
set_option maxRecDepth 100000 in
theorem e240_760 {ro : Nat → Nat × (Nat → Int32)} {l0 l1 l2 l3 l4 l5 l6 l7 : Option Value} {st : List Value} {h : List mCel} {x : Nat}  : mW ro mTab 240 760 [l0, l1, l2, l3, l4, l5, l6, l7] st h x = mW ro mTab 240 761 [l0, l1, l2, l3, l4, l5, l6, l7] (.int 0 :: st) h x := (g_step rfl rfl rfl rfl).trans rfl
set_option maxRecDepth 100000 in
theorem e240_761 {ro : Nat → Nat × (Nat → Int32)} {l0 l1 l2 l3 l4 l5 l6 l7 : Option Value} {st : List Value} {h : List mCel} {x : Nat} {a : Nat} {j : Int32} : mW ro mTab 240 761 [l0, l1, l2, l3, l4, l5, l6, l7] (.int j :: .ref a :: st) h x = kLA h a j fun v => mW ro mTab 240 762 [l0, l1, l2, l3, l4, l5, l6, l7] (.long v :: st) h x := g_laload rfl rfl
set_option maxRecDepth 100000 in
theorem e240_762 {ro : Nat → Nat × (Nat → Int32)} {l0 l1 l2 l3 l4 l5 l6 : Option Value} {st : List Value} {h : List mCel} {x : Nat} {v : Int32} : mW ro mTab 240 762 [l0, l1, l2, l3, l4, l5, l6, (some (.int v))] st h x = mW ro mTab 240 764 [l0, l1, l2, l3, l4, l5, l6, (some (.int v))] (.int v :: st) h x := (g_step rfl rfl rfl rfl).trans rfl
set_option maxRecDepth 100000 in
theorem e240_764 {ro : Nat → Nat × (Nat → Int32)} {l0 l1 l2 l3 l4 l5 l6 l7 : Option Value} {st : List Value} {h : List mCel} {x : Nat} {a : Int32} : mW ro mTab 240 764 [l0, l1, l2, l3, l4, l5, l6, l7] (.int a :: st) h x = mW ro mTab 240 765 [l0, l1, l2, l3, l4, l5, l6, l7] (.long a.toInt64 :: st) h x := (g_step rfl rfl rfl rfl).trans rfl
set_option maxRecDepth 100000 in
theorem e240_765 {ro : Nat → Nat × (Nat → Int32)} {l0 l1 l2 l3 l4 l5 l6 l7 : Option Value} {st : List Value} {h : List mCel} {x : Nat} {a b : Int64} : mW ro mTab 240 765 [l0, l1, l2, l3, l4, l5, l6, l7] (.long b :: .long a :: st) h x = mW ro mTab 240 766 [l0, l1, l2, l3, l4, l5, l6, l7] (.int (lg_cmp a b) :: st) h x := (g_step rfl rfl rfl rfl).trans rfl
set_option maxRecDepth 100000 in
theorem e240_766 {ro : Nat → Nat × (Nat → Int32)} {l0 l1 l2 l3 l4 l5 l6 l7 : Option Value} {st : List Value} {h : List mCel} {x : Nat} {a : Int32} : mW ro mTab 240 766 [l0, l1, l2, l3, l4, l5, l6, l7] (.int a :: st) h x = if a = 0 then mW ro mTab 240 771 [l0, l1, l2, l3, l4, l5, l6, l7] st h x else mW ro mTab 240 769 [l0, l1, l2, l3, l4, l5, l6, l7] st h x := g_if_eq rfl rfl rfl
set_option maxRecDepth 100000 in
theorem e240_769 {ro : Nat → Nat × (Nat → Int32)} {l0 l1 l2 l3 l4 l5 l6 l7 : Option Value} {st : List Value} {h : List mCel} {x : Nat}  : mW ro mTab 240 769 [l0, l1, l2, l3, l4, l5, l6, l7] st h x = mW ro mTab 240 770 [l0, l1, l2, l3, l4, l5, l6, l7] (.int 0 :: st) h x := (g_step rfl rfl rfl rfl).trans rfl
set_option maxRecDepth 100000 in
theorem e240_770 {ro : Nat → Nat × (Nat → Int32)} {l0 l1 l2 l3 l4 l5 l6 l7 : Option Value} {h : List mCel} {x : Nat} {v : Int32} (hv : v = 0 ∨ v = 1) : mW ro mTab 240 770 [l0, l1, l2, l3, l4, l5, l6, l7] [.int v] h x = some (.inl (some (.int v)), h, x) := g_zret rfl rfl rfl hv
set_option maxRecDepth 100000 in
theorem e240_771 {ro : Nat → Nat × (Nat → Int32)} {l0 l1 l2 l3 l4 l5 l6 l7 : Option Value} {st : List Value} {h : List mCel} {x : Nat}  : mW ro mTab 240 771 [l0, l1, l2, l3, l4, l5, l6, l7] st h x = mW ro mTab 240 1980 [l0, l1, l2, l3, l4, l5, l6, l7] st h x := (g_step rfl rfl rfl rfl).trans rfl
set_option maxRecDepth 100000 in
theorem e240_774 {ro : Nat → Nat × (Nat → Int32)} {l0 l2 l3 l4 l5 l6 l7 : Option Value} {st : List Value} {h : List mCel} {x : Nat} {v : Nat} : mW ro mTab 240 774 [l0, (some (.ref v)), l2, l3, l4, l5, l6, l7] st h x = mW ro mTab 240 775 [l0, (some (.ref v)), l2, l3, l4, l5, l6, l7] (.ref v :: st) h x := (g_step rfl rfl rfl rfl).trans rfl
set_option maxRecDepth 100000 in
theorem e240_775 {ro : Nat → Nat × (Nat → Int32)} {l1 l2 l3 l4 l5 l6 l7 : Option Value} {st : List Value} {h : List mCel} {x : Nat} {v : Nat} : mW ro mTab 240 775 [(some (.ref v)), l1, l2, l3, l4, l5, l6, l7] st h x = mW ro mTab 240 776 [(some (.ref v)), l1, l2, l3, l4, l5, l6, l7] (.ref v :: st) h x := (g_step rfl rfl rfl rfl).trans rfl
set_option maxRecDepth 100000 in
theorem e240_776 {ro : Nat → Nat × (Nat → Int32)} {l0 l1 l2 l3 l4 l6 l7 : Option Value} {st : List Value} {h : List mCel} {x : Nat} {v : Int32} : mW ro mTab 240 776 [l0, l1, l2, l3, l4, (some (.int v)), l6, l7] st h x = mW ro mTab 240 778 [l0, l1, l2, l3, l4, (some (.int v)), l6, l7] (.int v :: st) h x := (g_step rfl rfl rfl rfl).trans rfl
set_option maxRecDepth 100000 in
theorem e240_778 {ro : Nat → Nat × (Nat → Int32)} {l0 l1 l2 l3 l4 l5 l6 l7 : Option Value} {st : List Value} {h : List mCel} {x : Nat}  : mW ro mTab 240 778 [l0, l1, l2, l3, l4, l5, l6, l7] st h x = mW ro mTab 240 779 [l0, l1, l2, l3, l4, l5, l6, l7] (.int 1 :: st) h x := (g_step rfl rfl rfl rfl).trans rfl
set_option maxRecDepth 100000 in
theorem e240_779 {ro : Nat → Nat × (Nat → Int32)} {l0 l1 l2 l3 l4 l5 l6 l7 : Option Value} {st : List Value} {h : List mCel} {x : Nat} {a b : Int32} : mW ro mTab 240 779 [l0, l1, l2, l3, l4, l5, l6, l7] (.int b :: .int a :: st) h x = mW ro mTab 240 780 [l0, l1, l2, l3, l4, l5, l6, l7] (.int (a + b) :: st) h x := (g_step rfl rfl rfl rfl).trans rfl
set_option maxRecDepth 100000 in
theorem e240_780 {ro : Nat → Nat × (Nat → Int32)} {l0 l1 l2 l3 l4 l5 l6 l7 : Option Value} {st : List Value} {h : List mCel} {x : Nat} {a : Nat} {j : Int32} : mW ro mTab 240 780 [l0, l1, l2, l3, l4, l5, l6, l7] (.int j :: .ref a :: st) h x = kIA ro h a j fun v => mW ro mTab 240 781 [l0, l1, l2, l3, l4, l5, l6, l7] (.int v :: st) h x := g_iaload rfl rfl
set_option maxRecDepth 100000 in
theorem e240_781 {ro : Nat → Nat × (Nat → Int32)} {l0 l1 l2 l4 l5 l6 l7 : Option Value} {st : List Value} {h : List mCel} {x : Nat} {v : Nat} : mW ro mTab 240 781 [l0, l1, l2, (some (.ref v)), l4, l5, l6, l7] st h x = mW ro mTab 240 782 [l0, l1, l2, (some (.ref v)), l4, l5, l6, l7] (.ref v :: st) h x := (g_step rfl rfl rfl rfl).trans rfl
set_option maxRecDepth 100000 in
theorem e240_782 {ro : Nat → Nat × (Nat → Int32)} {l0 l1 l2 l3 l4 l5 l6 l7 : Option Value} {st : List Value} {h : List mCel} {x : Nat} {a0 : Nat} {a1 : Int32} {a2 : Nat} (hs : (st.map Value.category).sum ≤ 8) : mW ro mTab 240 782 [l0, l1, l2, l3, l4, l5, l6, l7] (.ref a2 :: .int a1 :: .ref a0 :: st) h x = mAft (mW ro mTab) (mHd mM_240) 240 782 [l0, l1, l2, l3, l4, l5, l6, l7] st (mW ro mTab 237 0 [some (.ref a0), some (.int a1), some (.ref a2), none] [] h x) := g_call rfl rfl rfl rfl rfl rfl rfl hs
set_option maxRecDepth 100000 in
theorem e240_785 {ro : Nat → Nat × (Nat → Int32)} {l0 l1 l2 l3 l4 l5 l6 l7 : Option Value} {st : List Value} {h : List mCel} {x : Nat} {v : Int32} : mW ro mTab 240 785 [l0, l1, l2, l3, l4, l5, l6, l7] (.int v :: st) h x = mW ro mTab 240 787 [l0, l1, l2, l3, l4, l5, (some (.int v)), l7] st h x := (g_step rfl rfl rfl rfl).trans rfl
set_option maxRecDepth 100000 in
theorem e240_787 {ro : Nat → Nat × (Nat → Int32)} {l0 l1 l3 l4 l5 l6 l7 : Option Value} {st : List Value} {h : List mCel} {x : Nat} {v : Nat} : mW ro mTab 240 787 [l0, l1, (some (.ref v)), l3, l4, l5, l6, l7] st h x = mW ro mTab 240 788 [l0, l1, (some (.ref v)), l3, l4, l5, l6, l7] (.ref v :: st) h x := (g_step rfl rfl rfl rfl).trans rfl
set_option maxRecDepth 100000 in
theorem e240_788 {ro : Nat → Nat × (Nat → Int32)} {l1 l2 l3 l4 l5 l6 l7 : Option Value} {st : List Value} {h : List mCel} {x : Nat} {v : Nat} : mW ro mTab 240 788 [(some (.ref v)), l1, l2, l3, l4, l5, l6, l7] st h x = mW ro mTab 240 789 [(some (.ref v)), l1, l2, l3, l4, l5, l6, l7] (.ref v :: st) h x := (g_step rfl rfl rfl rfl).trans rfl
set_option maxRecDepth 100000 in
theorem e240_789 {ro : Nat → Nat × (Nat → Int32)} {l0 l1 l2 l3 l4 l6 l7 : Option Value} {st : List Value} {h : List mCel} {x : Nat} {v : Int32} : mW ro mTab 240 789 [l0, l1, l2, l3, l4, (some (.int v)), l6, l7] st h x = mW ro mTab 240 791 [l0, l1, l2, l3, l4, (some (.int v)), l6, l7] (.int v :: st) h x := (g_step rfl rfl rfl rfl).trans rfl
set_option maxRecDepth 100000 in
theorem e240_791 {ro : Nat → Nat × (Nat → Int32)} {l0 l1 l2 l3 l4 l5 l6 l7 : Option Value} {st : List Value} {h : List mCel} {x : Nat}  : mW ro mTab 240 791 [l0, l1, l2, l3, l4, l5, l6, l7] st h x = mW ro mTab 240 792 [l0, l1, l2, l3, l4, l5, l6, l7] (.int 1 :: st) h x := (g_step rfl rfl rfl rfl).trans rfl
set_option maxRecDepth 100000 in
theorem e240_792 {ro : Nat → Nat × (Nat → Int32)} {l0 l1 l2 l3 l4 l5 l6 l7 : Option Value} {st : List Value} {h : List mCel} {x : Nat} {a b : Int32} : mW ro mTab 240 792 [l0, l1, l2, l3, l4, l5, l6, l7] (.int b :: .int a :: st) h x = mW ro mTab 240 793 [l0, l1, l2, l3, l4, l5, l6, l7] (.int (a + b) :: st) h x := (g_step rfl rfl rfl rfl).trans rfl
set_option maxRecDepth 100000 in
theorem e240_793 {ro : Nat → Nat × (Nat → Int32)} {l0 l1 l2 l3 l4 l5 l6 l7 : Option Value} {st : List Value} {h : List mCel} {x : Nat} {a : Nat} {j : Int32} : mW ro mTab 240 793 [l0, l1, l2, l3, l4, l5, l6, l7] (.int j :: .ref a :: st) h x = kIA ro h a j fun v => mW ro mTab 240 794 [l0, l1, l2, l3, l4, l5, l6, l7] (.int v :: st) h x := g_iaload rfl rfl
set_option maxRecDepth 100000 in
theorem e240_794 {ro : Nat → Nat × (Nat → Int32)} {l0 l1 l2 l3 l4 l5 l6 l7 : Option Value} {st : List Value} {h : List mCel} {x : Nat} {a0 : Nat} {a1 : Int32} (hr : kR (mCell h a0) 11 = true) (hs : (st.map Value.category).sum ≤ 8) : mW ro mTab 240 794 [l0, l1, l2, l3, l4, l5, l6, l7] (.int a1 :: .ref a0 :: st) h x = mAft (mW ro mTab) (mHd mM_240) 240 794 [l0, l1, l2, l3, l4, l5, l6, l7] st (mW ro mTab 94 0 [some (.ref a0), some (.int a1)] [] h x) := g_call rfl rfl rfl rfl rfl rfl (g_rcv rfl hr) hs
set_option maxRecDepth 100000 in
theorem e240_797 {ro : Nat → Nat × (Nat → Int32)} {l0 l1 l2 l3 l4 l5 l6 l7 : Option Value} {st : List Value} {h : List mCel} {x : Nat} {v : Int32} : mW ro mTab 240 797 [l0, l1, l2, l3, l4, l5, l6, l7] (.int v :: st) h x = mW ro mTab 240 799 [l0, l1, l2, l3, l4, l5, l6, (some (.int v))] st h x := (g_step rfl rfl rfl rfl).trans rfl
set_option maxRecDepth 100000 in
theorem e240_799 {ro : Nat → Nat × (Nat → Int32)} {l0 l1 l3 l4 l5 l6 l7 : Option Value} {st : List Value} {h : List mCel} {x : Nat} {v : Nat} : mW ro mTab 240 799 [l0, l1, (some (.ref v)), l3, l4, l5, l6, l7] st h x = mW ro mTab 240 800 [l0, l1, (some (.ref v)), l3, l4, l5, l6, l7] (.ref v :: st) h x := (g_step rfl rfl rfl rfl).trans rfl
set_option maxRecDepth 100000 in
theorem e240_800 {ro : Nat → Nat × (Nat → Int32)} {l0 l1 l2 l3 l4 l5 l6 l7 : Option Value} {st : List Value} {h : List mCel} {x : Nat} {a0 : Nat} (hr : kR (mCell h a0) 11 = true) (hs : (st.map Value.category).sum ≤ 8) : mW ro mTab 240 800 [l0, l1, l2, l3, l4, l5, l6, l7] (.ref a0 :: st) h x = mAft (mW ro mTab) (mHd mM_240) 240 800 [l0, l1, l2, l3, l4, l5, l6, l7] st (mW ro mTab 137 0 [some (.ref a0)] [] h x) := g_call rfl rfl rfl rfl rfl rfl (g_rcv rfl hr) hs
set_option maxRecDepth 100000 in
theorem e240_803 {ro : Nat → Nat × (Nat → Int32)} {l0 l1 l2 l3 l4 l5 l7 : Option Value} {st : List Value} {h : List mCel} {x : Nat} {v : Int32} : mW ro mTab 240 803 [l0, l1, l2, l3, l4, l5, (some (.int v)), l7] st h x = mW ro mTab 240 805 [l0, l1, l2, l3, l4, l5, (some (.int v)), l7] (.int v :: st) h x := (g_step rfl rfl rfl rfl).trans rfl
set_option maxRecDepth 100000 in
theorem e240_805 {ro : Nat → Nat × (Nat → Int32)} {l0 l1 l2 l3 l4 l5 l6 l7 : Option Value} {st : List Value} {h : List mCel} {x : Nat} {a b : Int32} : mW ro mTab 240 805 [l0, l1, l2, l3, l4, l5, l6, l7] (.int b :: .int a :: st) h x = if a = b then mW ro mTab 240 810 [l0, l1, l2, l3, l4, l5, l6, l7] st h x else mW ro mTab 240 808 [l0, l1, l2, l3, l4, l5, l6, l7] st h x := g_icmp_eq rfl rfl rfl
set_option maxRecDepth 100000 in
theorem e240_808 {ro : Nat → Nat × (Nat → Int32)} {l0 l1 l2 l3 l4 l5 l6 l7 : Option Value} {st : List Value} {h : List mCel} {x : Nat}  : mW ro mTab 240 808 [l0, l1, l2, l3, l4, l5, l6, l7] st h x = mW ro mTab 240 809 [l0, l1, l2, l3, l4, l5, l6, l7] (.int 0 :: st) h x := (g_step rfl rfl rfl rfl).trans rfl
set_option maxRecDepth 100000 in
theorem e240_809 {ro : Nat → Nat × (Nat → Int32)} {l0 l1 l2 l3 l4 l5 l6 l7 : Option Value} {h : List mCel} {x : Nat} {v : Int32} (hv : v = 0 ∨ v = 1) : mW ro mTab 240 809 [l0, l1, l2, l3, l4, l5, l6, l7] [.int v] h x = some (.inl (some (.int v)), h, x) := g_zret rfl rfl rfl hv
set_option maxRecDepth 100000 in
theorem e240_810 {ro : Nat → Nat × (Nat → Int32)} {l0 l1 l2 l3 l4 l5 l7 : Option Value} {st : List Value} {h : List mCel} {x : Nat} {v : Int32} : mW ro mTab 240 810 [l0, l1, l2, l3, l4, l5, (some (.int v)), l7] st h x = mW ro mTab 240 812 [l0, l1, l2, l3, l4, l5, (some (.int v)), l7] (.int v :: st) h x := (g_step rfl rfl rfl rfl).trans rfl
set_option maxRecDepth 100000 in
theorem e240_812 {ro : Nat → Nat × (Nat → Int32)} {l0 l1 l2 l3 l4 l5 l6 l7 : Option Value} {st : List Value} {h : List mCel} {x : Nat} {a : Int32} : mW ro mTab 240 812 [l0, l1, l2, l3, l4, l5, l6, l7] (.int a :: st) h x = if ¬ a = 0 then mW ro mTab 240 827 [l0, l1, l2, l3, l4, l5, l6, l7] st h x else mW ro mTab 240 815 [l0, l1, l2, l3, l4, l5, l6, l7] st h x := g_if_ne rfl rfl rfl
set_option maxRecDepth 100000 in
theorem e240_815 {ro : Nat → Nat × (Nat → Int32)} {l0 l1 l2 l4 l5 l6 l7 : Option Value} {st : List Value} {h : List mCel} {x : Nat} {v : Nat} : mW ro mTab 240 815 [l0, l1, l2, (some (.ref v)), l4, l5, l6, l7] st h x = mW ro mTab 240 816 [l0, l1, l2, (some (.ref v)), l4, l5, l6, l7] (.ref v :: st) h x := (g_step rfl rfl rfl rfl).trans rfl
set_option maxRecDepth 100000 in
theorem e240_816 {ro : Nat → Nat × (Nat → Int32)} {l0 l1 l2 l3 l4 l5 l6 l7 : Option Value} {st : List Value} {h : List mCel} {x : Nat}  : mW ro mTab 240 816 [l0, l1, l2, l3, l4, l5, l6, l7] st h x = mW ro mTab 240 817 [l0, l1, l2, l3, l4, l5, l6, l7] (.int 0 :: st) h x := (g_step rfl rfl rfl rfl).trans rfl
set_option maxRecDepth 100000 in
theorem e240_817 {ro : Nat → Nat × (Nat → Int32)} {l0 l1 l2 l3 l4 l5 l6 l7 : Option Value} {st : List Value} {h : List mCel} {x : Nat} {a : Nat} {j : Int32} : mW ro mTab 240 817 [l0, l1, l2, l3, l4, l5, l6, l7] (.int j :: .ref a :: st) h x = kLA h a j fun v => mW ro mTab 240 818 [l0, l1, l2, l3, l4, l5, l6, l7] (.long v :: st) h x := g_laload rfl rfl
set_option maxRecDepth 100000 in
theorem e240_818 {ro : Nat → Nat × (Nat → Int32)} {l0 l1 l2 l3 l4 l5 l6 : Option Value} {st : List Value} {h : List mCel} {x : Nat} {v : Int32} : mW ro mTab 240 818 [l0, l1, l2, l3, l4, l5, l6, (some (.int v))] st h x = mW ro mTab 240 820 [l0, l1, l2, l3, l4, l5, l6, (some (.int v))] (.int v :: st) h x := (g_step rfl rfl rfl rfl).trans rfl
set_option maxRecDepth 100000 in
theorem e240_820 {ro : Nat → Nat × (Nat → Int32)} {l0 l1 l2 l3 l4 l5 l6 l7 : Option Value} {st : List Value} {h : List mCel} {x : Nat} {a : Int32} : mW ro mTab 240 820 [l0, l1, l2, l3, l4, l5, l6, l7] (.int a :: st) h x = mW ro mTab 240 821 [l0, l1, l2, l3, l4, l5, l6, l7] (.long a.toInt64 :: st) h x := (g_step rfl rfl rfl rfl).trans rfl
set_option maxRecDepth 100000 in
theorem e240_821 {ro : Nat → Nat × (Nat → Int32)} {l0 l1 l2 l3 l4 l5 l6 l7 : Option Value} {st : List Value} {h : List mCel} {x : Nat} {a b : Int64} : mW ro mTab 240 821 [l0, l1, l2, l3, l4, l5, l6, l7] (.long b :: .long a :: st) h x = mW ro mTab 240 822 [l0, l1, l2, l3, l4, l5, l6, l7] (.int (lg_cmp a b) :: st) h x := (g_step rfl rfl rfl rfl).trans rfl
set_option maxRecDepth 100000 in
theorem e240_822 {ro : Nat → Nat × (Nat → Int32)} {l0 l1 l2 l3 l4 l5 l6 l7 : Option Value} {st : List Value} {h : List mCel} {x : Nat} {a : Int32} : mW ro mTab 240 822 [l0, l1, l2, l3, l4, l5, l6, l7] (.int a :: st) h x = if a = 0 then mW ro mTab 240 827 [l0, l1, l2, l3, l4, l5, l6, l7] st h x else mW ro mTab 240 825 [l0, l1, l2, l3, l4, l5, l6, l7] st h x := g_if_eq rfl rfl rfl
set_option maxRecDepth 100000 in
theorem e240_825 {ro : Nat → Nat × (Nat → Int32)} {l0 l1 l2 l3 l4 l5 l6 l7 : Option Value} {st : List Value} {h : List mCel} {x : Nat}  : mW ro mTab 240 825 [l0, l1, l2, l3, l4, l5, l6, l7] st h x = mW ro mTab 240 826 [l0, l1, l2, l3, l4, l5, l6, l7] (.int 0 :: st) h x := (g_step rfl rfl rfl rfl).trans rfl
set_option maxRecDepth 100000 in
theorem e240_826 {ro : Nat → Nat × (Nat → Int32)} {l0 l1 l2 l3 l4 l5 l6 l7 : Option Value} {h : List mCel} {x : Nat} {v : Int32} (hv : v = 0 ∨ v = 1) : mW ro mTab 240 826 [l0, l1, l2, l3, l4, l5, l6, l7] [.int v] h x = some (.inl (some (.int v)), h, x) := g_zret rfl rfl rfl hv
set_option maxRecDepth 100000 in
theorem e240_827 {ro : Nat → Nat × (Nat → Int32)} {l0 l1 l2 l3 l4 l5 l6 l7 : Option Value} {st : List Value} {h : List mCel} {x : Nat}  : mW ro mTab 240 827 [l0, l1, l2, l3, l4, l5, l6, l7] st h x = mW ro mTab 240 1980 [l0, l1, l2, l3, l4, l5, l6, l7] st h x := (g_step rfl rfl rfl rfl).trans rfl
set_option maxRecDepth 100000 in
theorem e240_830 {ro : Nat → Nat × (Nat → Int32)} {l0 l2 l3 l4 l5 l6 l7 : Option Value} {st : List Value} {h : List mCel} {x : Nat} {v : Nat} : mW ro mTab 240 830 [l0, (some (.ref v)), l2, l3, l4, l5, l6, l7] st h x = mW ro mTab 240 831 [l0, (some (.ref v)), l2, l3, l4, l5, l6, l7] (.ref v :: st) h x := (g_step rfl rfl rfl rfl).trans rfl
set_option maxRecDepth 100000 in
theorem e240_831 {ro : Nat → Nat × (Nat → Int32)} {l1 l2 l3 l4 l5 l6 l7 : Option Value} {st : List Value} {h : List mCel} {x : Nat} {v : Nat} : mW ro mTab 240 831 [(some (.ref v)), l1, l2, l3, l4, l5, l6, l7] st h x = mW ro mTab 240 832 [(some (.ref v)), l1, l2, l3, l4, l5, l6, l7] (.ref v :: st) h x := (g_step rfl rfl rfl rfl).trans rfl
set_option maxRecDepth 100000 in
theorem e240_832 {ro : Nat → Nat × (Nat → Int32)} {l0 l1 l2 l3 l4 l6 l7 : Option Value} {st : List Value} {h : List mCel} {x : Nat} {v : Int32} : mW ro mTab 240 832 [l0, l1, l2, l3, l4, (some (.int v)), l6, l7] st h x = mW ro mTab 240 834 [l0, l1, l2, l3, l4, (some (.int v)), l6, l7] (.int v :: st) h x := (g_step rfl rfl rfl rfl).trans rfl
set_option maxRecDepth 100000 in
theorem e240_834 {ro : Nat → Nat × (Nat → Int32)} {l0 l1 l2 l3 l4 l5 l6 l7 : Option Value} {st : List Value} {h : List mCel} {x : Nat}  : mW ro mTab 240 834 [l0, l1, l2, l3, l4, l5, l6, l7] st h x = mW ro mTab 240 835 [l0, l1, l2, l3, l4, l5, l6, l7] (.int 1 :: st) h x := (g_step rfl rfl rfl rfl).trans rfl
set_option maxRecDepth 100000 in
theorem e240_835 {ro : Nat → Nat × (Nat → Int32)} {l0 l1 l2 l3 l4 l5 l6 l7 : Option Value} {st : List Value} {h : List mCel} {x : Nat} {a b : Int32} : mW ro mTab 240 835 [l0, l1, l2, l3, l4, l5, l6, l7] (.int b :: .int a :: st) h x = mW ro mTab 240 836 [l0, l1, l2, l3, l4, l5, l6, l7] (.int (a + b) :: st) h x := (g_step rfl rfl rfl rfl).trans rfl
set_option maxRecDepth 100000 in
theorem e240_836 {ro : Nat → Nat × (Nat → Int32)} {l0 l1 l2 l3 l4 l5 l6 l7 : Option Value} {st : List Value} {h : List mCel} {x : Nat} {a : Nat} {j : Int32} : mW ro mTab 240 836 [l0, l1, l2, l3, l4, l5, l6, l7] (.int j :: .ref a :: st) h x = kIA ro h a j fun v => mW ro mTab 240 837 [l0, l1, l2, l3, l4, l5, l6, l7] (.int v :: st) h x := g_iaload rfl rfl
set_option maxRecDepth 100000 in
theorem e240_837 {ro : Nat → Nat × (Nat → Int32)} {l1 l2 l3 l4 l5 l6 l7 : Option Value} {st : List Value} {h : List mCel} {x : Nat} {v : Nat} : mW ro mTab 240 837 [(some (.ref v)), l1, l2, l3, l4, l5, l6, l7] st h x = mW ro mTab 240 838 [(some (.ref v)), l1, l2, l3, l4, l5, l6, l7] (.ref v :: st) h x := (g_step rfl rfl rfl rfl).trans rfl
set_option maxRecDepth 100000 in
theorem e240_838 {ro : Nat → Nat × (Nat → Int32)} {l0 l1 l2 l3 l4 l6 l7 : Option Value} {st : List Value} {h : List mCel} {x : Nat} {v : Int32} : mW ro mTab 240 838 [l0, l1, l2, l3, l4, (some (.int v)), l6, l7] st h x = mW ro mTab 240 840 [l0, l1, l2, l3, l4, (some (.int v)), l6, l7] (.int v :: st) h x := (g_step rfl rfl rfl rfl).trans rfl
set_option maxRecDepth 100000 in
theorem e240_840 {ro : Nat → Nat × (Nat → Int32)} {l0 l1 l2 l3 l4 l5 l6 l7 : Option Value} {st : List Value} {h : List mCel} {x : Nat}  : mW ro mTab 240 840 [l0, l1, l2, l3, l4, l5, l6, l7] st h x = mW ro mTab 240 841 [l0, l1, l2, l3, l4, l5, l6, l7] (.int 2 :: st) h x := (g_step rfl rfl rfl rfl).trans rfl
set_option maxRecDepth 100000 in
theorem e240_841 {ro : Nat → Nat × (Nat → Int32)} {l0 l1 l2 l3 l4 l5 l6 l7 : Option Value} {st : List Value} {h : List mCel} {x : Nat} {a b : Int32} : mW ro mTab 240 841 [l0, l1, l2, l3, l4, l5, l6, l7] (.int b :: .int a :: st) h x = mW ro mTab 240 842 [l0, l1, l2, l3, l4, l5, l6, l7] (.int (a + b) :: st) h x := (g_step rfl rfl rfl rfl).trans rfl
set_option maxRecDepth 100000 in
theorem e240_842 {ro : Nat → Nat × (Nat → Int32)} {l0 l1 l2 l3 l4 l5 l6 l7 : Option Value} {st : List Value} {h : List mCel} {x : Nat} {a : Nat} {j : Int32} : mW ro mTab 240 842 [l0, l1, l2, l3, l4, l5, l6, l7] (.int j :: .ref a :: st) h x = kIA ro h a j fun v => mW ro mTab 240 843 [l0, l1, l2, l3, l4, l5, l6, l7] (.int v :: st) h x := g_iaload rfl rfl
set_option maxRecDepth 100000 in
theorem e240_843 {ro : Nat → Nat × (Nat → Int32)} {l1 l2 l3 l4 l5 l6 l7 : Option Value} {st : List Value} {h : List mCel} {x : Nat} {v : Nat} : mW ro mTab 240 843 [(some (.ref v)), l1, l2, l3, l4, l5, l6, l7] st h x = mW ro mTab 240 844 [(some (.ref v)), l1, l2, l3, l4, l5, l6, l7] (.ref v :: st) h x := (g_step rfl rfl rfl rfl).trans rfl
set_option maxRecDepth 100000 in
theorem e240_844 {ro : Nat → Nat × (Nat → Int32)} {l0 l1 l2 l3 l4 l6 l7 : Option Value} {st : List Value} {h : List mCel} {x : Nat} {v : Int32} : mW ro mTab 240 844 [l0, l1, l2, l3, l4, (some (.int v)), l6, l7] st h x = mW ro mTab 240 846 [l0, l1, l2, l3, l4, (some (.int v)), l6, l7] (.int v :: st) h x := (g_step rfl rfl rfl rfl).trans rfl
set_option maxRecDepth 100000 in
theorem e240_846 {ro : Nat → Nat × (Nat → Int32)} {l0 l1 l2 l3 l4 l5 l6 l7 : Option Value} {st : List Value} {h : List mCel} {x : Nat}  : mW ro mTab 240 846 [l0, l1, l2, l3, l4, l5, l6, l7] st h x = mW ro mTab 240 847 [l0, l1, l2, l3, l4, l5, l6, l7] (.int 3 :: st) h x := (g_step rfl rfl rfl rfl).trans rfl
set_option maxRecDepth 100000 in
theorem e240_847 {ro : Nat → Nat × (Nat → Int32)} {l0 l1 l2 l3 l4 l5 l6 l7 : Option Value} {st : List Value} {h : List mCel} {x : Nat} {a b : Int32} : mW ro mTab 240 847 [l0, l1, l2, l3, l4, l5, l6, l7] (.int b :: .int a :: st) h x = mW ro mTab 240 848 [l0, l1, l2, l3, l4, l5, l6, l7] (.int (a + b) :: st) h x := (g_step rfl rfl rfl rfl).trans rfl
set_option maxRecDepth 100000 in
theorem e240_848 {ro : Nat → Nat × (Nat → Int32)} {l0 l1 l2 l3 l4 l5 l6 l7 : Option Value} {st : List Value} {h : List mCel} {x : Nat} {a : Nat} {j : Int32} : mW ro mTab 240 848 [l0, l1, l2, l3, l4, l5, l6, l7] (.int j :: .ref a :: st) h x = kIA ro h a j fun v => mW ro mTab 240 849 [l0, l1, l2, l3, l4, l5, l6, l7] (.int v :: st) h x := g_iaload rfl rfl
set_option maxRecDepth 100000 in
theorem e240_849 {ro : Nat → Nat × (Nat → Int32)} {l1 l2 l3 l4 l5 l6 l7 : Option Value} {st : List Value} {h : List mCel} {x : Nat} {v : Nat} : mW ro mTab 240 849 [(some (.ref v)), l1, l2, l3, l4, l5, l6, l7] st h x = mW ro mTab 240 850 [(some (.ref v)), l1, l2, l3, l4, l5, l6, l7] (.ref v :: st) h x := (g_step rfl rfl rfl rfl).trans rfl
set_option maxRecDepth 100000 in
theorem e240_850 {ro : Nat → Nat × (Nat → Int32)} {l0 l1 l2 l3 l4 l6 l7 : Option Value} {st : List Value} {h : List mCel} {x : Nat} {v : Int32} : mW ro mTab 240 850 [l0, l1, l2, l3, l4, (some (.int v)), l6, l7] st h x = mW ro mTab 240 852 [l0, l1, l2, l3, l4, (some (.int v)), l6, l7] (.int v :: st) h x := (g_step rfl rfl rfl rfl).trans rfl
set_option maxRecDepth 100000 in
theorem e240_852 {ro : Nat → Nat × (Nat → Int32)} {l0 l1 l2 l3 l4 l5 l6 l7 : Option Value} {st : List Value} {h : List mCel} {x : Nat}  : mW ro mTab 240 852 [l0, l1, l2, l3, l4, l5, l6, l7] st h x = mW ro mTab 240 853 [l0, l1, l2, l3, l4, l5, l6, l7] (.int 4 :: st) h x := (g_step rfl rfl rfl rfl).trans rfl
set_option maxRecDepth 100000 in
theorem e240_853 {ro : Nat → Nat × (Nat → Int32)} {l0 l1 l2 l3 l4 l5 l6 l7 : Option Value} {st : List Value} {h : List mCel} {x : Nat} {a b : Int32} : mW ro mTab 240 853 [l0, l1, l2, l3, l4, l5, l6, l7] (.int b :: .int a :: st) h x = mW ro mTab 240 854 [l0, l1, l2, l3, l4, l5, l6, l7] (.int (a + b) :: st) h x := (g_step rfl rfl rfl rfl).trans rfl
set_option maxRecDepth 100000 in
theorem e240_854 {ro : Nat → Nat × (Nat → Int32)} {l0 l1 l2 l3 l4 l5 l6 l7 : Option Value} {st : List Value} {h : List mCel} {x : Nat} {a : Nat} {j : Int32} : mW ro mTab 240 854 [l0, l1, l2, l3, l4, l5, l6, l7] (.int j :: .ref a :: st) h x = kIA ro h a j fun v => mW ro mTab 240 855 [l0, l1, l2, l3, l4, l5, l6, l7] (.int v :: st) h x := g_iaload rfl rfl
set_option maxRecDepth 100000 in
theorem e240_855 {ro : Nat → Nat × (Nat → Int32)} {l1 l2 l3 l4 l5 l6 l7 : Option Value} {st : List Value} {h : List mCel} {x : Nat} {v : Nat} : mW ro mTab 240 855 [(some (.ref v)), l1, l2, l3, l4, l5, l6, l7] st h x = mW ro mTab 240 856 [(some (.ref v)), l1, l2, l3, l4, l5, l6, l7] (.ref v :: st) h x := (g_step rfl rfl rfl rfl).trans rfl
set_option maxRecDepth 100000 in
theorem e240_856 {ro : Nat → Nat × (Nat → Int32)} {l0 l1 l2 l3 l4 l6 l7 : Option Value} {st : List Value} {h : List mCel} {x : Nat} {v : Int32} : mW ro mTab 240 856 [l0, l1, l2, l3, l4, (some (.int v)), l6, l7] st h x = mW ro mTab 240 858 [l0, l1, l2, l3, l4, (some (.int v)), l6, l7] (.int v :: st) h x := (g_step rfl rfl rfl rfl).trans rfl
set_option maxRecDepth 100000 in
theorem e240_858 {ro : Nat → Nat × (Nat → Int32)} {l0 l1 l2 l3 l4 l5 l6 l7 : Option Value} {st : List Value} {h : List mCel} {x : Nat}  : mW ro mTab 240 858 [l0, l1, l2, l3, l4, l5, l6, l7] st h x = mW ro mTab 240 859 [l0, l1, l2, l3, l4, l5, l6, l7] (.int 5 :: st) h x := (g_step rfl rfl rfl rfl).trans rfl
set_option maxRecDepth 100000 in
theorem e240_859 {ro : Nat → Nat × (Nat → Int32)} {l0 l1 l2 l3 l4 l5 l6 l7 : Option Value} {st : List Value} {h : List mCel} {x : Nat} {a b : Int32} : mW ro mTab 240 859 [l0, l1, l2, l3, l4, l5, l6, l7] (.int b :: .int a :: st) h x = mW ro mTab 240 860 [l0, l1, l2, l3, l4, l5, l6, l7] (.int (a + b) :: st) h x := (g_step rfl rfl rfl rfl).trans rfl
set_option maxRecDepth 100000 in
theorem e240_860 {ro : Nat → Nat × (Nat → Int32)} {l0 l1 l2 l3 l4 l5 l6 l7 : Option Value} {st : List Value} {h : List mCel} {x : Nat} {a : Nat} {j : Int32} : mW ro mTab 240 860 [l0, l1, l2, l3, l4, l5, l6, l7] (.int j :: .ref a :: st) h x = kIA ro h a j fun v => mW ro mTab 240 861 [l0, l1, l2, l3, l4, l5, l6, l7] (.int v :: st) h x := g_iaload rfl rfl
set_option maxRecDepth 100000 in
theorem e240_861 {ro : Nat → Nat × (Nat → Int32)} {l1 l2 l3 l4 l5 l6 l7 : Option Value} {st : List Value} {h : List mCel} {x : Nat} {v : Nat} : mW ro mTab 240 861 [(some (.ref v)), l1, l2, l3, l4, l5, l6, l7] st h x = mW ro mTab 240 862 [(some (.ref v)), l1, l2, l3, l4, l5, l6, l7] (.ref v :: st) h x := (g_step rfl rfl rfl rfl).trans rfl
set_option maxRecDepth 100000 in
theorem e240_862 {ro : Nat → Nat × (Nat → Int32)} {l0 l1 l2 l3 l4 l6 l7 : Option Value} {st : List Value} {h : List mCel} {x : Nat} {v : Int32} : mW ro mTab 240 862 [l0, l1, l2, l3, l4, (some (.int v)), l6, l7] st h x = mW ro mTab 240 864 [l0, l1, l2, l3, l4, (some (.int v)), l6, l7] (.int v :: st) h x := (g_step rfl rfl rfl rfl).trans rfl
set_option maxRecDepth 100000 in
theorem e240_864 {ro : Nat → Nat × (Nat → Int32)} {l0 l1 l2 l3 l4 l5 l6 l7 : Option Value} {st : List Value} {h : List mCel} {x : Nat}  : mW ro mTab 240 864 [l0, l1, l2, l3, l4, l5, l6, l7] st h x = mW ro mTab 240 866 [l0, l1, l2, l3, l4, l5, l6, l7] (.int 6 :: st) h x := (g_step rfl rfl rfl rfl).trans rfl
set_option maxRecDepth 100000 in
theorem e240_866 {ro : Nat → Nat × (Nat → Int32)} {l0 l1 l2 l3 l4 l5 l6 l7 : Option Value} {st : List Value} {h : List mCel} {x : Nat} {a b : Int32} : mW ro mTab 240 866 [l0, l1, l2, l3, l4, l5, l6, l7] (.int b :: .int a :: st) h x = mW ro mTab 240 867 [l0, l1, l2, l3, l4, l5, l6, l7] (.int (a + b) :: st) h x := (g_step rfl rfl rfl rfl).trans rfl
set_option maxRecDepth 100000 in
theorem e240_867 {ro : Nat → Nat × (Nat → Int32)} {l0 l1 l2 l3 l4 l5 l6 l7 : Option Value} {st : List Value} {h : List mCel} {x : Nat} {a : Nat} {j : Int32} : mW ro mTab 240 867 [l0, l1, l2, l3, l4, l5, l6, l7] (.int j :: .ref a :: st) h x = kIA ro h a j fun v => mW ro mTab 240 868 [l0, l1, l2, l3, l4, l5, l6, l7] (.int v :: st) h x := g_iaload rfl rfl
set_option maxRecDepth 100000 in
theorem e240_868 {ro : Nat → Nat × (Nat → Int32)} {l1 l2 l3 l4 l5 l6 l7 : Option Value} {st : List Value} {h : List mCel} {x : Nat} {v : Nat} : mW ro mTab 240 868 [(some (.ref v)), l1, l2, l3, l4, l5, l6, l7] st h x = mW ro mTab 240 869 [(some (.ref v)), l1, l2, l3, l4, l5, l6, l7] (.ref v :: st) h x := (g_step rfl rfl rfl rfl).trans rfl
set_option maxRecDepth 100000 in
theorem e240_869 {ro : Nat → Nat × (Nat → Int32)} {l0 l1 l2 l3 l4 l6 l7 : Option Value} {st : List Value} {h : List mCel} {x : Nat} {v : Int32} : mW ro mTab 240 869 [l0, l1, l2, l3, l4, (some (.int v)), l6, l7] st h x = mW ro mTab 240 871 [l0, l1, l2, l3, l4, (some (.int v)), l6, l7] (.int v :: st) h x := (g_step rfl rfl rfl rfl).trans rfl
set_option maxRecDepth 100000 in
theorem e240_871 {ro : Nat → Nat × (Nat → Int32)} {l0 l1 l2 l3 l4 l5 l6 l7 : Option Value} {st : List Value} {h : List mCel} {x : Nat}  : mW ro mTab 240 871 [l0, l1, l2, l3, l4, l5, l6, l7] st h x = mW ro mTab 240 873 [l0, l1, l2, l3, l4, l5, l6, l7] (.int 7 :: st) h x := (g_step rfl rfl rfl rfl).trans rfl
set_option maxRecDepth 100000 in
theorem e240_873 {ro : Nat → Nat × (Nat → Int32)} {l0 l1 l2 l3 l4 l5 l6 l7 : Option Value} {st : List Value} {h : List mCel} {x : Nat} {a b : Int32} : mW ro mTab 240 873 [l0, l1, l2, l3, l4, l5, l6, l7] (.int b :: .int a :: st) h x = mW ro mTab 240 874 [l0, l1, l2, l3, l4, l5, l6, l7] (.int (a + b) :: st) h x := (g_step rfl rfl rfl rfl).trans rfl
set_option maxRecDepth 100000 in
theorem e240_874 {ro : Nat → Nat × (Nat → Int32)} {l0 l1 l2 l3 l4 l5 l6 l7 : Option Value} {st : List Value} {h : List mCel} {x : Nat} {a : Nat} {j : Int32} : mW ro mTab 240 874 [l0, l1, l2, l3, l4, l5, l6, l7] (.int j :: .ref a :: st) h x = kIA ro h a j fun v => mW ro mTab 240 875 [l0, l1, l2, l3, l4, l5, l6, l7] (.int v :: st) h x := g_iaload rfl rfl
set_option maxRecDepth 100000 in
theorem e240_875 {ro : Nat → Nat × (Nat → Int32)} {l0 l1 l2 l3 l4 l5 l6 l7 : Option Value} {st : List Value} {h : List mCel} {x : Nat} {a : Int32} : mW ro mTab 240 875 [l0, l1, l2, l3, l4, l5, l6, l7] (.int a :: st) h x = if a = 0 then mW ro mTab 240 882 [l0, l1, l2, l3, l4, l5, l6, l7] st h x else mW ro mTab 240 878 [l0, l1, l2, l3, l4, l5, l6, l7] st h x := g_if_eq rfl rfl rfl
set_option maxRecDepth 100000 in
theorem e240_878 {ro : Nat → Nat × (Nat → Int32)} {l0 l1 l2 l3 l4 l5 l6 l7 : Option Value} {st : List Value} {h : List mCel} {x : Nat}  : mW ro mTab 240 878 [l0, l1, l2, l3, l4, l5, l6, l7] st h x = mW ro mTab 240 879 [l0, l1, l2, l3, l4, l5, l6, l7] (.int 1 :: st) h x := (g_step rfl rfl rfl rfl).trans rfl
set_option maxRecDepth 100000 in
theorem e240_879 {ro : Nat → Nat × (Nat → Int32)} {l0 l1 l2 l3 l4 l5 l6 l7 : Option Value} {st : List Value} {h : List mCel} {x : Nat}  : mW ro mTab 240 879 [l0, l1, l2, l3, l4, l5, l6, l7] st h x = mW ro mTab 240 883 [l0, l1, l2, l3, l4, l5, l6, l7] st h x := (g_step rfl rfl rfl rfl).trans rfl
set_option maxRecDepth 100000 in
theorem e240_882 {ro : Nat → Nat × (Nat → Int32)} {l0 l1 l2 l3 l4 l5 l6 l7 : Option Value} {st : List Value} {h : List mCel} {x : Nat}  : mW ro mTab 240 882 [l0, l1, l2, l3, l4, l5, l6, l7] st h x = mW ro mTab 240 883 [l0, l1, l2, l3, l4, l5, l6, l7] (.int 0 :: st) h x := (g_step rfl rfl rfl rfl).trans rfl
set_option maxRecDepth 100000 in
theorem e240_883 {ro : Nat → Nat × (Nat → Int32)} {l0 l1 l2 l4 l5 l6 l7 : Option Value} {st : List Value} {h : List mCel} {x : Nat} {v : Nat} : mW ro mTab 240 883 [l0, l1, l2, (some (.ref v)), l4, l5, l6, l7] st h x = mW ro mTab 240 884 [l0, l1, l2, (some (.ref v)), l4, l5, l6, l7] (.ref v :: st) h x := (g_step rfl rfl rfl rfl).trans rfl
set_option maxRecDepth 100000 in
theorem e240_884 {ro : Nat → Nat × (Nat → Int32)} {l0 l1 l2 l3 l4 l5 l6 l7 : Option Value} {st : List Value} {h : List mCel} {x : Nat} {a0 : Nat} {a1 : Int32} {a2 : Int32} {a3 : Int32} {a4 : Int32} {a5 : Int32} {a6 : Int32} {a7 : Int32} {a8 : Nat} (hs : (st.map Value.category).sum ≤ 8) : mW ro mTab 240 884 [l0, l1, l2, l3, l4, l5, l6, l7] (.ref a8 :: .int a7 :: .int a6 :: .int a5 :: .int a4 :: .int a3 :: .int a2 :: .int a1 :: .ref a0 :: st) h x = mAft (mW ro mTab) (mHd mM_240) 240 884 [l0, l1, l2, l3, l4, l5, l6, l7] st (mW ro mTab 231 0 [some (.ref a0), some (.int a1), some (.int a2), some (.int a3), some (.int a4), some (.int a5), some (.int a6), some (.int a7), some (.ref a8), none] [] h x) := g_call rfl rfl rfl rfl rfl rfl rfl hs
set_option maxRecDepth 100000 in
theorem e240_887 {ro : Nat → Nat × (Nat → Int32)} {l0 l1 l2 l3 l4 l5 l6 l7 : Option Value} {st : List Value} {h : List mCel} {x : Nat} {v : Int32} : mW ro mTab 240 887 [l0, l1, l2, l3, l4, l5, l6, l7] (.int v :: st) h x = mW ro mTab 240 889 [l0, l1, l2, l3, l4, l5, (some (.int v)), l7] st h x := (g_step rfl rfl rfl rfl).trans rfl
set_option maxRecDepth 100000 in
theorem e240_889 {ro : Nat → Nat × (Nat → Int32)} {l0 l1 l3 l4 l5 l6 l7 : Option Value} {st : List Value} {h : List mCel} {x : Nat} {v : Nat} : mW ro mTab 240 889 [l0, l1, (some (.ref v)), l3, l4, l5, l6, l7] st h x = mW ro mTab 240 890 [l0, l1, (some (.ref v)), l3, l4, l5, l6, l7] (.ref v :: st) h x := (g_step rfl rfl rfl rfl).trans rfl
set_option maxRecDepth 100000 in
theorem e240_890 {ro : Nat → Nat × (Nat → Int32)} {l1 l2 l3 l4 l5 l6 l7 : Option Value} {st : List Value} {h : List mCel} {x : Nat} {v : Nat} : mW ro mTab 240 890 [(some (.ref v)), l1, l2, l3, l4, l5, l6, l7] st h x = mW ro mTab 240 891 [(some (.ref v)), l1, l2, l3, l4, l5, l6, l7] (.ref v :: st) h x := (g_step rfl rfl rfl rfl).trans rfl
set_option maxRecDepth 100000 in
theorem e240_891 {ro : Nat → Nat × (Nat → Int32)} {l0 l1 l2 l3 l4 l6 l7 : Option Value} {st : List Value} {h : List mCel} {x : Nat} {v : Int32} : mW ro mTab 240 891 [l0, l1, l2, l3, l4, (some (.int v)), l6, l7] st h x = mW ro mTab 240 893 [l0, l1, l2, l3, l4, (some (.int v)), l6, l7] (.int v :: st) h x := (g_step rfl rfl rfl rfl).trans rfl
set_option maxRecDepth 100000 in
theorem e240_893 {ro : Nat → Nat × (Nat → Int32)} {l0 l1 l2 l3 l4 l5 l6 l7 : Option Value} {st : List Value} {h : List mCel} {x : Nat}  : mW ro mTab 240 893 [l0, l1, l2, l3, l4, l5, l6, l7] st h x = mW ro mTab 240 894 [l0, l1, l2, l3, l4, l5, l6, l7] (.int 1 :: st) h x := (g_step rfl rfl rfl rfl).trans rfl
set_option maxRecDepth 100000 in
theorem e240_894 {ro : Nat → Nat × (Nat → Int32)} {l0 l1 l2 l3 l4 l5 l6 l7 : Option Value} {st : List Value} {h : List mCel} {x : Nat} {a b : Int32} : mW ro mTab 240 894 [l0, l1, l2, l3, l4, l5, l6, l7] (.int b :: .int a :: st) h x = mW ro mTab 240 895 [l0, l1, l2, l3, l4, l5, l6, l7] (.int (a + b) :: st) h x := (g_step rfl rfl rfl rfl).trans rfl
set_option maxRecDepth 100000 in
theorem e240_895 {ro : Nat → Nat × (Nat → Int32)} {l0 l1 l2 l3 l4 l5 l6 l7 : Option Value} {st : List Value} {h : List mCel} {x : Nat} {a : Nat} {j : Int32} : mW ro mTab 240 895 [l0, l1, l2, l3, l4, l5, l6, l7] (.int j :: .ref a :: st) h x = kIA ro h a j fun v => mW ro mTab 240 896 [l0, l1, l2, l3, l4, l5, l6, l7] (.int v :: st) h x := g_iaload rfl rfl
set_option maxRecDepth 100000 in
theorem e240_896 {ro : Nat → Nat × (Nat → Int32)} {l1 l2 l3 l4 l5 l6 l7 : Option Value} {st : List Value} {h : List mCel} {x : Nat} {v : Nat} : mW ro mTab 240 896 [(some (.ref v)), l1, l2, l3, l4, l5, l6, l7] st h x = mW ro mTab 240 897 [(some (.ref v)), l1, l2, l3, l4, l5, l6, l7] (.ref v :: st) h x := (g_step rfl rfl rfl rfl).trans rfl
set_option maxRecDepth 100000 in
theorem e240_897 {ro : Nat → Nat × (Nat → Int32)} {l0 l1 l2 l3 l4 l6 l7 : Option Value} {st : List Value} {h : List mCel} {x : Nat} {v : Int32} : mW ro mTab 240 897 [l0, l1, l2, l3, l4, (some (.int v)), l6, l7] st h x = mW ro mTab 240 899 [l0, l1, l2, l3, l4, (some (.int v)), l6, l7] (.int v :: st) h x := (g_step rfl rfl rfl rfl).trans rfl
set_option maxRecDepth 100000 in
theorem e240_899 {ro : Nat → Nat × (Nat → Int32)} {l0 l1 l2 l3 l4 l5 l6 l7 : Option Value} {st : List Value} {h : List mCel} {x : Nat}  : mW ro mTab 240 899 [l0, l1, l2, l3, l4, l5, l6, l7] st h x = mW ro mTab 240 900 [l0, l1, l2, l3, l4, l5, l6, l7] (.int 2 :: st) h x := (g_step rfl rfl rfl rfl).trans rfl
set_option maxRecDepth 100000 in
theorem e240_900 {ro : Nat → Nat × (Nat → Int32)} {l0 l1 l2 l3 l4 l5 l6 l7 : Option Value} {st : List Value} {h : List mCel} {x : Nat} {a b : Int32} : mW ro mTab 240 900 [l0, l1, l2, l3, l4, l5, l6, l7] (.int b :: .int a :: st) h x = mW ro mTab 240 901 [l0, l1, l2, l3, l4, l5, l6, l7] (.int (a + b) :: st) h x := (g_step rfl rfl rfl rfl).trans rfl
set_option maxRecDepth 100000 in
theorem e240_901 {ro : Nat → Nat × (Nat → Int32)} {l0 l1 l2 l3 l4 l5 l6 l7 : Option Value} {st : List Value} {h : List mCel} {x : Nat} {a : Nat} {j : Int32} : mW ro mTab 240 901 [l0, l1, l2, l3, l4, l5, l6, l7] (.int j :: .ref a :: st) h x = kIA ro h a j fun v => mW ro mTab 240 902 [l0, l1, l2, l3, l4, l5, l6, l7] (.int v :: st) h x := g_iaload rfl rfl
set_option maxRecDepth 100000 in
theorem e240_902 {ro : Nat → Nat × (Nat → Int32)} {l1 l2 l3 l4 l5 l6 l7 : Option Value} {st : List Value} {h : List mCel} {x : Nat} {v : Nat} : mW ro mTab 240 902 [(some (.ref v)), l1, l2, l3, l4, l5, l6, l7] st h x = mW ro mTab 240 903 [(some (.ref v)), l1, l2, l3, l4, l5, l6, l7] (.ref v :: st) h x := (g_step rfl rfl rfl rfl).trans rfl
set_option maxRecDepth 100000 in
theorem e240_903 {ro : Nat → Nat × (Nat → Int32)} {l0 l1 l2 l3 l4 l6 l7 : Option Value} {st : List Value} {h : List mCel} {x : Nat} {v : Int32} : mW ro mTab 240 903 [l0, l1, l2, l3, l4, (some (.int v)), l6, l7] st h x = mW ro mTab 240 905 [l0, l1, l2, l3, l4, (some (.int v)), l6, l7] (.int v :: st) h x := (g_step rfl rfl rfl rfl).trans rfl
set_option maxRecDepth 100000 in
theorem e240_905 {ro : Nat → Nat × (Nat → Int32)} {l0 l1 l2 l3 l4 l5 l6 l7 : Option Value} {st : List Value} {h : List mCel} {x : Nat}  : mW ro mTab 240 905 [l0, l1, l2, l3, l4, l5, l6, l7] st h x = mW ro mTab 240 906 [l0, l1, l2, l3, l4, l5, l6, l7] (.int 3 :: st) h x := (g_step rfl rfl rfl rfl).trans rfl
set_option maxRecDepth 100000 in
theorem e240_906 {ro : Nat → Nat × (Nat → Int32)} {l0 l1 l2 l3 l4 l5 l6 l7 : Option Value} {st : List Value} {h : List mCel} {x : Nat} {a b : Int32} : mW ro mTab 240 906 [l0, l1, l2, l3, l4, l5, l6, l7] (.int b :: .int a :: st) h x = mW ro mTab 240 907 [l0, l1, l2, l3, l4, l5, l6, l7] (.int (a + b) :: st) h x := (g_step rfl rfl rfl rfl).trans rfl
set_option maxRecDepth 100000 in
theorem e240_907 {ro : Nat → Nat × (Nat → Int32)} {l0 l1 l2 l3 l4 l5 l6 l7 : Option Value} {st : List Value} {h : List mCel} {x : Nat} {a : Nat} {j : Int32} : mW ro mTab 240 907 [l0, l1, l2, l3, l4, l5, l6, l7] (.int j :: .ref a :: st) h x = kIA ro h a j fun v => mW ro mTab 240 908 [l0, l1, l2, l3, l4, l5, l6, l7] (.int v :: st) h x := g_iaload rfl rfl
set_option maxRecDepth 100000 in
theorem e240_908 {ro : Nat → Nat × (Nat → Int32)} {l1 l2 l3 l4 l5 l6 l7 : Option Value} {st : List Value} {h : List mCel} {x : Nat} {v : Nat} : mW ro mTab 240 908 [(some (.ref v)), l1, l2, l3, l4, l5, l6, l7] st h x = mW ro mTab 240 909 [(some (.ref v)), l1, l2, l3, l4, l5, l6, l7] (.ref v :: st) h x := (g_step rfl rfl rfl rfl).trans rfl
set_option maxRecDepth 100000 in
theorem e240_909 {ro : Nat → Nat × (Nat → Int32)} {l0 l1 l2 l3 l4 l6 l7 : Option Value} {st : List Value} {h : List mCel} {x : Nat} {v : Int32} : mW ro mTab 240 909 [l0, l1, l2, l3, l4, (some (.int v)), l6, l7] st h x = mW ro mTab 240 911 [l0, l1, l2, l3, l4, (some (.int v)), l6, l7] (.int v :: st) h x := (g_step rfl rfl rfl rfl).trans rfl
set_option maxRecDepth 100000 in
theorem e240_911 {ro : Nat → Nat × (Nat → Int32)} {l0 l1 l2 l3 l4 l5 l6 l7 : Option Value} {st : List Value} {h : List mCel} {x : Nat}  : mW ro mTab 240 911 [l0, l1, l2, l3, l4, l5, l6, l7] st h x = mW ro mTab 240 912 [l0, l1, l2, l3, l4, l5, l6, l7] (.int 4 :: st) h x := (g_step rfl rfl rfl rfl).trans rfl
set_option maxRecDepth 100000 in
theorem e240_912 {ro : Nat → Nat × (Nat → Int32)} {l0 l1 l2 l3 l4 l5 l6 l7 : Option Value} {st : List Value} {h : List mCel} {x : Nat} {a b : Int32} : mW ro mTab 240 912 [l0, l1, l2, l3, l4, l5, l6, l7] (.int b :: .int a :: st) h x = mW ro mTab 240 913 [l0, l1, l2, l3, l4, l5, l6, l7] (.int (a + b) :: st) h x := (g_step rfl rfl rfl rfl).trans rfl
set_option maxRecDepth 100000 in
theorem e240_913 {ro : Nat → Nat × (Nat → Int32)} {l0 l1 l2 l3 l4 l5 l6 l7 : Option Value} {st : List Value} {h : List mCel} {x : Nat} {a : Nat} {j : Int32} : mW ro mTab 240 913 [l0, l1, l2, l3, l4, l5, l6, l7] (.int j :: .ref a :: st) h x = kIA ro h a j fun v => mW ro mTab 240 914 [l0, l1, l2, l3, l4, l5, l6, l7] (.int v :: st) h x := g_iaload rfl rfl
set_option maxRecDepth 100000 in
theorem e240_914 {ro : Nat → Nat × (Nat → Int32)} {l1 l2 l3 l4 l5 l6 l7 : Option Value} {st : List Value} {h : List mCel} {x : Nat} {v : Nat} : mW ro mTab 240 914 [(some (.ref v)), l1, l2, l3, l4, l5, l6, l7] st h x = mW ro mTab 240 915 [(some (.ref v)), l1, l2, l3, l4, l5, l6, l7] (.ref v :: st) h x := (g_step rfl rfl rfl rfl).trans rfl
set_option maxRecDepth 100000 in
theorem e240_915 {ro : Nat → Nat × (Nat → Int32)} {l0 l1 l2 l3 l4 l6 l7 : Option Value} {st : List Value} {h : List mCel} {x : Nat} {v : Int32} : mW ro mTab 240 915 [l0, l1, l2, l3, l4, (some (.int v)), l6, l7] st h x = mW ro mTab 240 917 [l0, l1, l2, l3, l4, (some (.int v)), l6, l7] (.int v :: st) h x := (g_step rfl rfl rfl rfl).trans rfl
set_option maxRecDepth 100000 in
theorem e240_917 {ro : Nat → Nat × (Nat → Int32)} {l0 l1 l2 l3 l4 l5 l6 l7 : Option Value} {st : List Value} {h : List mCel} {x : Nat}  : mW ro mTab 240 917 [l0, l1, l2, l3, l4, l5, l6, l7] st h x = mW ro mTab 240 918 [l0, l1, l2, l3, l4, l5, l6, l7] (.int 5 :: st) h x := (g_step rfl rfl rfl rfl).trans rfl
set_option maxRecDepth 100000 in
theorem e240_918 {ro : Nat → Nat × (Nat → Int32)} {l0 l1 l2 l3 l4 l5 l6 l7 : Option Value} {st : List Value} {h : List mCel} {x : Nat} {a b : Int32} : mW ro mTab 240 918 [l0, l1, l2, l3, l4, l5, l6, l7] (.int b :: .int a :: st) h x = mW ro mTab 240 919 [l0, l1, l2, l3, l4, l5, l6, l7] (.int (a + b) :: st) h x := (g_step rfl rfl rfl rfl).trans rfl
set_option maxRecDepth 100000 in
theorem e240_919 {ro : Nat → Nat × (Nat → Int32)} {l0 l1 l2 l3 l4 l5 l6 l7 : Option Value} {st : List Value} {h : List mCel} {x : Nat} {a : Nat} {j : Int32} : mW ro mTab 240 919 [l0, l1, l2, l3, l4, l5, l6, l7] (.int j :: .ref a :: st) h x = kIA ro h a j fun v => mW ro mTab 240 920 [l0, l1, l2, l3, l4, l5, l6, l7] (.int v :: st) h x := g_iaload rfl rfl
set_option maxRecDepth 100000 in
theorem e240_920 {ro : Nat → Nat × (Nat → Int32)} {l1 l2 l3 l4 l5 l6 l7 : Option Value} {st : List Value} {h : List mCel} {x : Nat} {v : Nat} : mW ro mTab 240 920 [(some (.ref v)), l1, l2, l3, l4, l5, l6, l7] st h x = mW ro mTab 240 921 [(some (.ref v)), l1, l2, l3, l4, l5, l6, l7] (.ref v :: st) h x := (g_step rfl rfl rfl rfl).trans rfl
set_option maxRecDepth 100000 in
theorem e240_921 {ro : Nat → Nat × (Nat → Int32)} {l0 l1 l2 l3 l4 l6 l7 : Option Value} {st : List Value} {h : List mCel} {x : Nat} {v : Int32} : mW ro mTab 240 921 [l0, l1, l2, l3, l4, (some (.int v)), l6, l7] st h x = mW ro mTab 240 923 [l0, l1, l2, l3, l4, (some (.int v)), l6, l7] (.int v :: st) h x := (g_step rfl rfl rfl rfl).trans rfl
set_option maxRecDepth 100000 in
theorem e240_923 {ro : Nat → Nat × (Nat → Int32)} {l0 l1 l2 l3 l4 l5 l6 l7 : Option Value} {st : List Value} {h : List mCel} {x : Nat}  : mW ro mTab 240 923 [l0, l1, l2, l3, l4, l5, l6, l7] st h x = mW ro mTab 240 925 [l0, l1, l2, l3, l4, l5, l6, l7] (.int 6 :: st) h x := (g_step rfl rfl rfl rfl).trans rfl
set_option maxRecDepth 100000 in
theorem e240_925 {ro : Nat → Nat × (Nat → Int32)} {l0 l1 l2 l3 l4 l5 l6 l7 : Option Value} {st : List Value} {h : List mCel} {x : Nat} {a b : Int32} : mW ro mTab 240 925 [l0, l1, l2, l3, l4, l5, l6, l7] (.int b :: .int a :: st) h x = mW ro mTab 240 926 [l0, l1, l2, l3, l4, l5, l6, l7] (.int (a + b) :: st) h x := (g_step rfl rfl rfl rfl).trans rfl
set_option maxRecDepth 100000 in
theorem e240_926 {ro : Nat → Nat × (Nat → Int32)} {l0 l1 l2 l3 l4 l5 l6 l7 : Option Value} {st : List Value} {h : List mCel} {x : Nat} {a : Nat} {j : Int32} : mW ro mTab 240 926 [l0, l1, l2, l3, l4, l5, l6, l7] (.int j :: .ref a :: st) h x = kIA ro h a j fun v => mW ro mTab 240 927 [l0, l1, l2, l3, l4, l5, l6, l7] (.int v :: st) h x := g_iaload rfl rfl
set_option maxRecDepth 100000 in
theorem e240_927 {ro : Nat → Nat × (Nat → Int32)} {l1 l2 l3 l4 l5 l6 l7 : Option Value} {st : List Value} {h : List mCel} {x : Nat} {v : Nat} : mW ro mTab 240 927 [(some (.ref v)), l1, l2, l3, l4, l5, l6, l7] st h x = mW ro mTab 240 928 [(some (.ref v)), l1, l2, l3, l4, l5, l6, l7] (.ref v :: st) h x := (g_step rfl rfl rfl rfl).trans rfl
set_option maxRecDepth 100000 in
theorem e240_928 {ro : Nat → Nat × (Nat → Int32)} {l0 l1 l2 l3 l4 l6 l7 : Option Value} {st : List Value} {h : List mCel} {x : Nat} {v : Int32} : mW ro mTab 240 928 [l0, l1, l2, l3, l4, (some (.int v)), l6, l7] st h x = mW ro mTab 240 930 [l0, l1, l2, l3, l4, (some (.int v)), l6, l7] (.int v :: st) h x := (g_step rfl rfl rfl rfl).trans rfl
set_option maxRecDepth 100000 in
theorem e240_930 {ro : Nat → Nat × (Nat → Int32)} {l0 l1 l2 l3 l4 l5 l6 l7 : Option Value} {st : List Value} {h : List mCel} {x : Nat}  : mW ro mTab 240 930 [l0, l1, l2, l3, l4, l5, l6, l7] st h x = mW ro mTab 240 932 [l0, l1, l2, l3, l4, l5, l6, l7] (.int 7 :: st) h x := (g_step rfl rfl rfl rfl).trans rfl
set_option maxRecDepth 100000 in
theorem e240_932 {ro : Nat → Nat × (Nat → Int32)} {l0 l1 l2 l3 l4 l5 l6 l7 : Option Value} {st : List Value} {h : List mCel} {x : Nat} {a b : Int32} : mW ro mTab 240 932 [l0, l1, l2, l3, l4, l5, l6, l7] (.int b :: .int a :: st) h x = mW ro mTab 240 933 [l0, l1, l2, l3, l4, l5, l6, l7] (.int (a + b) :: st) h x := (g_step rfl rfl rfl rfl).trans rfl
set_option maxRecDepth 100000 in
theorem e240_933 {ro : Nat → Nat × (Nat → Int32)} {l0 l1 l2 l3 l4 l5 l6 l7 : Option Value} {st : List Value} {h : List mCel} {x : Nat} {a : Nat} {j : Int32} : mW ro mTab 240 933 [l0, l1, l2, l3, l4, l5, l6, l7] (.int j :: .ref a :: st) h x = kIA ro h a j fun v => mW ro mTab 240 934 [l0, l1, l2, l3, l4, l5, l6, l7] (.int v :: st) h x := g_iaload rfl rfl
set_option maxRecDepth 100000 in
theorem e240_934 {ro : Nat → Nat × (Nat → Int32)} {l0 l1 l2 l3 l4 l5 l6 l7 : Option Value} {st : List Value} {h : List mCel} {x : Nat} {a : Int32} : mW ro mTab 240 934 [l0, l1, l2, l3, l4, l5, l6, l7] (.int a :: st) h x = if a = 0 then mW ro mTab 240 941 [l0, l1, l2, l3, l4, l5, l6, l7] st h x else mW ro mTab 240 937 [l0, l1, l2, l3, l4, l5, l6, l7] st h x := g_if_eq rfl rfl rfl
set_option maxRecDepth 100000 in
theorem e240_937 {ro : Nat → Nat × (Nat → Int32)} {l0 l1 l2 l3 l4 l5 l6 l7 : Option Value} {st : List Value} {h : List mCel} {x : Nat}  : mW ro mTab 240 937 [l0, l1, l2, l3, l4, l5, l6, l7] st h x = mW ro mTab 240 938 [l0, l1, l2, l3, l4, l5, l6, l7] (.int 1 :: st) h x := (g_step rfl rfl rfl rfl).trans rfl
set_option maxRecDepth 100000 in
theorem e240_938 {ro : Nat → Nat × (Nat → Int32)} {l0 l1 l2 l3 l4 l5 l6 l7 : Option Value} {st : List Value} {h : List mCel} {x : Nat}  : mW ro mTab 240 938 [l0, l1, l2, l3, l4, l5, l6, l7] st h x = mW ro mTab 240 942 [l0, l1, l2, l3, l4, l5, l6, l7] st h x := (g_step rfl rfl rfl rfl).trans rfl
set_option maxRecDepth 100000 in
theorem e240_941 {ro : Nat → Nat × (Nat → Int32)} {l0 l1 l2 l3 l4 l5 l6 l7 : Option Value} {st : List Value} {h : List mCel} {x : Nat}  : mW ro mTab 240 941 [l0, l1, l2, l3, l4, l5, l6, l7] st h x = mW ro mTab 240 942 [l0, l1, l2, l3, l4, l5, l6, l7] (.int 0 :: st) h x := (g_step rfl rfl rfl rfl).trans rfl
set_option maxRecDepth 100000 in
theorem e240_942 {ro : Nat → Nat × (Nat → Int32)} {l0 l1 l2 l3 l4 l5 l6 l7 : Option Value} {st : List Value} {h : List mCel} {x : Nat} {a0 : Nat} {a1 : Int32} {a2 : Int32} {a3 : Int32} {a4 : Int32} {a5 : Int32} {a6 : Int32} {a7 : Int32} (hr : kR (mCell h a0) 11 = true) (hs : (st.map Value.category).sum ≤ 8) : mW ro mTab 240 942 [l0, l1, l2, l3, l4, l5, l6, l7] (.int a7 :: .int a6 :: .int a5 :: .int a4 :: .int a3 :: .int a2 :: .int a1 :: .ref a0 :: st) h x = mAft (mW ro mTab) (mHd mM_240) 240 942 [l0, l1, l2, l3, l4, l5, l6, l7] st (mW ro mTab 77 0 [some (.ref a0), some (.int a1), some (.int a2), some (.int a3), some (.int a4), some (.int a5), some (.int a6), some (.int a7)] [] h x) := g_call rfl rfl rfl rfl rfl rfl (g_rcv rfl hr) hs
set_option maxRecDepth 100000 in
theorem e240_945 {ro : Nat → Nat × (Nat → Int32)} {l0 l1 l2 l3 l4 l5 l6 l7 : Option Value} {st : List Value} {h : List mCel} {x : Nat} {v : Int32} : mW ro mTab 240 945 [l0, l1, l2, l3, l4, l5, l6, l7] (.int v :: st) h x = mW ro mTab 240 947 [l0, l1, l2, l3, l4, l5, l6, (some (.int v))] st h x := (g_step rfl rfl rfl rfl).trans rfl
set_option maxRecDepth 100000 in
theorem e240_947 {ro : Nat → Nat × (Nat → Int32)} {l0 l1 l3 l4 l5 l6 l7 : Option Value} {st : List Value} {h : List mCel} {x : Nat} {v : Nat} : mW ro mTab 240 947 [l0, l1, (some (.ref v)), l3, l4, l5, l6, l7] st h x = mW ro mTab 240 948 [l0, l1, (some (.ref v)), l3, l4, l5, l6, l7] (.ref v :: st) h x := (g_step rfl rfl rfl rfl).trans rfl
set_option maxRecDepth 100000 in
theorem e240_948 {ro : Nat → Nat × (Nat → Int32)} {l0 l1 l2 l3 l4 l5 l6 l7 : Option Value} {st : List Value} {h : List mCel} {x : Nat} {a0 : Nat} (hr : kR (mCell h a0) 11 = true) (hs : (st.map Value.category).sum ≤ 8) : mW ro mTab 240 948 [l0, l1, l2, l3, l4, l5, l6, l7] (.ref a0 :: st) h x = mAft (mW ro mTab) (mHd mM_240) 240 948 [l0, l1, l2, l3, l4, l5, l6, l7] st (mW ro mTab 137 0 [some (.ref a0)] [] h x) := g_call rfl rfl rfl rfl rfl rfl (g_rcv rfl hr) hs
set_option maxRecDepth 100000 in
theorem e240_951 {ro : Nat → Nat × (Nat → Int32)} {l0 l1 l2 l3 l4 l5 l7 : Option Value} {st : List Value} {h : List mCel} {x : Nat} {v : Int32} : mW ro mTab 240 951 [l0, l1, l2, l3, l4, l5, (some (.int v)), l7] st h x = mW ro mTab 240 953 [l0, l1, l2, l3, l4, l5, (some (.int v)), l7] (.int v :: st) h x := (g_step rfl rfl rfl rfl).trans rfl
set_option maxRecDepth 100000 in
theorem e240_953 {ro : Nat → Nat × (Nat → Int32)} {l0 l1 l2 l3 l4 l5 l6 l7 : Option Value} {st : List Value} {h : List mCel} {x : Nat} {a b : Int32} : mW ro mTab 240 953 [l0, l1, l2, l3, l4, l5, l6, l7] (.int b :: .int a :: st) h x = if a = b then mW ro mTab 240 958 [l0, l1, l2, l3, l4, l5, l6, l7] st h x else mW ro mTab 240 956 [l0, l1, l2, l3, l4, l5, l6, l7] st h x := g_icmp_eq rfl rfl rfl
set_option maxRecDepth 100000 in
theorem e240_956 {ro : Nat → Nat × (Nat → Int32)} {l0 l1 l2 l3 l4 l5 l6 l7 : Option Value} {st : List Value} {h : List mCel} {x : Nat}  : mW ro mTab 240 956 [l0, l1, l2, l3, l4, l5, l6, l7] st h x = mW ro mTab 240 957 [l0, l1, l2, l3, l4, l5, l6, l7] (.int 0 :: st) h x := (g_step rfl rfl rfl rfl).trans rfl
set_option maxRecDepth 100000 in
theorem e240_957 {ro : Nat → Nat × (Nat → Int32)} {l0 l1 l2 l3 l4 l5 l6 l7 : Option Value} {h : List mCel} {x : Nat} {v : Int32} (hv : v = 0 ∨ v = 1) : mW ro mTab 240 957 [l0, l1, l2, l3, l4, l5, l6, l7] [.int v] h x = some (.inl (some (.int v)), h, x) := g_zret rfl rfl rfl hv
set_option maxRecDepth 100000 in
theorem e240_958 {ro : Nat → Nat × (Nat → Int32)} {l0 l1 l2 l3 l4 l5 l7 : Option Value} {st : List Value} {h : List mCel} {x : Nat} {v : Int32} : mW ro mTab 240 958 [l0, l1, l2, l3, l4, l5, (some (.int v)), l7] st h x = mW ro mTab 240 960 [l0, l1, l2, l3, l4, l5, (some (.int v)), l7] (.int v :: st) h x := (g_step rfl rfl rfl rfl).trans rfl
set_option maxRecDepth 100000 in
theorem e240_960 {ro : Nat → Nat × (Nat → Int32)} {l0 l1 l2 l3 l4 l5 l6 l7 : Option Value} {st : List Value} {h : List mCel} {x : Nat} {a : Int32} : mW ro mTab 240 960 [l0, l1, l2, l3, l4, l5, l6, l7] (.int a :: st) h x = if ¬ a = 0 then mW ro mTab 240 975 [l0, l1, l2, l3, l4, l5, l6, l7] st h x else mW ro mTab 240 963 [l0, l1, l2, l3, l4, l5, l6, l7] st h x := g_if_ne rfl rfl rfl
set_option maxRecDepth 100000 in
theorem e240_963 {ro : Nat → Nat × (Nat → Int32)} {l0 l1 l2 l4 l5 l6 l7 : Option Value} {st : List Value} {h : List mCel} {x : Nat} {v : Nat} : mW ro mTab 240 963 [l0, l1, l2, (some (.ref v)), l4, l5, l6, l7] st h x = mW ro mTab 240 964 [l0, l1, l2, (some (.ref v)), l4, l5, l6, l7] (.ref v :: st) h x := (g_step rfl rfl rfl rfl).trans rfl
set_option maxRecDepth 100000 in
theorem e240_964 {ro : Nat → Nat × (Nat → Int32)} {l0 l1 l2 l3 l4 l5 l6 l7 : Option Value} {st : List Value} {h : List mCel} {x : Nat}  : mW ro mTab 240 964 [l0, l1, l2, l3, l4, l5, l6, l7] st h x = mW ro mTab 240 965 [l0, l1, l2, l3, l4, l5, l6, l7] (.int 0 :: st) h x := (g_step rfl rfl rfl rfl).trans rfl
set_option maxRecDepth 100000 in
theorem e240_965 {ro : Nat → Nat × (Nat → Int32)} {l0 l1 l2 l3 l4 l5 l6 l7 : Option Value} {st : List Value} {h : List mCel} {x : Nat} {a : Nat} {j : Int32} : mW ro mTab 240 965 [l0, l1, l2, l3, l4, l5, l6, l7] (.int j :: .ref a :: st) h x = kLA h a j fun v => mW ro mTab 240 966 [l0, l1, l2, l3, l4, l5, l6, l7] (.long v :: st) h x := g_laload rfl rfl
set_option maxRecDepth 100000 in
theorem e240_966 {ro : Nat → Nat × (Nat → Int32)} {l0 l1 l2 l3 l4 l5 l6 : Option Value} {st : List Value} {h : List mCel} {x : Nat} {v : Int32} : mW ro mTab 240 966 [l0, l1, l2, l3, l4, l5, l6, (some (.int v))] st h x = mW ro mTab 240 968 [l0, l1, l2, l3, l4, l5, l6, (some (.int v))] (.int v :: st) h x := (g_step rfl rfl rfl rfl).trans rfl
set_option maxRecDepth 100000 in
theorem e240_968 {ro : Nat → Nat × (Nat → Int32)} {l0 l1 l2 l3 l4 l5 l6 l7 : Option Value} {st : List Value} {h : List mCel} {x : Nat} {a : Int32} : mW ro mTab 240 968 [l0, l1, l2, l3, l4, l5, l6, l7] (.int a :: st) h x = mW ro mTab 240 969 [l0, l1, l2, l3, l4, l5, l6, l7] (.long a.toInt64 :: st) h x := (g_step rfl rfl rfl rfl).trans rfl
set_option maxRecDepth 100000 in
theorem e240_969 {ro : Nat → Nat × (Nat → Int32)} {l0 l1 l2 l3 l4 l5 l6 l7 : Option Value} {st : List Value} {h : List mCel} {x : Nat} {a b : Int64} : mW ro mTab 240 969 [l0, l1, l2, l3, l4, l5, l6, l7] (.long b :: .long a :: st) h x = mW ro mTab 240 970 [l0, l1, l2, l3, l4, l5, l6, l7] (.int (lg_cmp a b) :: st) h x := (g_step rfl rfl rfl rfl).trans rfl
set_option maxRecDepth 100000 in
theorem e240_970 {ro : Nat → Nat × (Nat → Int32)} {l0 l1 l2 l3 l4 l5 l6 l7 : Option Value} {st : List Value} {h : List mCel} {x : Nat} {a : Int32} : mW ro mTab 240 970 [l0, l1, l2, l3, l4, l5, l6, l7] (.int a :: st) h x = if a = 0 then mW ro mTab 240 975 [l0, l1, l2, l3, l4, l5, l6, l7] st h x else mW ro mTab 240 973 [l0, l1, l2, l3, l4, l5, l6, l7] st h x := g_if_eq rfl rfl rfl
set_option maxRecDepth 100000 in
theorem e240_973 {ro : Nat → Nat × (Nat → Int32)} {l0 l1 l2 l3 l4 l5 l6 l7 : Option Value} {st : List Value} {h : List mCel} {x : Nat}  : mW ro mTab 240 973 [l0, l1, l2, l3, l4, l5, l6, l7] st h x = mW ro mTab 240 974 [l0, l1, l2, l3, l4, l5, l6, l7] (.int 0 :: st) h x := (g_step rfl rfl rfl rfl).trans rfl
set_option maxRecDepth 100000 in
theorem e240_974 {ro : Nat → Nat × (Nat → Int32)} {l0 l1 l2 l3 l4 l5 l6 l7 : Option Value} {h : List mCel} {x : Nat} {v : Int32} (hv : v = 0 ∨ v = 1) : mW ro mTab 240 974 [l0, l1, l2, l3, l4, l5, l6, l7] [.int v] h x = some (.inl (some (.int v)), h, x) := g_zret rfl rfl rfl hv
set_option maxRecDepth 100000 in
theorem e240_975 {ro : Nat → Nat × (Nat → Int32)} {l0 l1 l2 l3 l4 l5 l6 l7 : Option Value} {st : List Value} {h : List mCel} {x : Nat}  : mW ro mTab 240 975 [l0, l1, l2, l3, l4, l5, l6, l7] st h x = mW ro mTab 240 1980 [l0, l1, l2, l3, l4, l5, l6, l7] st h x := (g_step rfl rfl rfl rfl).trans rfl
set_option maxRecDepth 100000 in
theorem e240_978 {ro : Nat → Nat × (Nat → Int32)} {l0 l2 l3 l4 l5 l6 l7 : Option Value} {st : List Value} {h : List mCel} {x : Nat} {v : Nat} : mW ro mTab 240 978 [l0, (some (.ref v)), l2, l3, l4, l5, l6, l7] st h x = mW ro mTab 240 979 [l0, (some (.ref v)), l2, l3, l4, l5, l6, l7] (.ref v :: st) h x := (g_step rfl rfl rfl rfl).trans rfl
set_option maxRecDepth 100000 in
theorem e240_979 {ro : Nat → Nat × (Nat → Int32)} {l1 l2 l3 l4 l5 l6 l7 : Option Value} {st : List Value} {h : List mCel} {x : Nat} {v : Nat} : mW ro mTab 240 979 [(some (.ref v)), l1, l2, l3, l4, l5, l6, l7] st h x = mW ro mTab 240 980 [(some (.ref v)), l1, l2, l3, l4, l5, l6, l7] (.ref v :: st) h x := (g_step rfl rfl rfl rfl).trans rfl
set_option maxRecDepth 100000 in
theorem e240_980 {ro : Nat → Nat × (Nat → Int32)} {l0 l1 l2 l3 l4 l6 l7 : Option Value} {st : List Value} {h : List mCel} {x : Nat} {v : Int32} : mW ro mTab 240 980 [l0, l1, l2, l3, l4, (some (.int v)), l6, l7] st h x = mW ro mTab 240 982 [l0, l1, l2, l3, l4, (some (.int v)), l6, l7] (.int v :: st) h x := (g_step rfl rfl rfl rfl).trans rfl
set_option maxRecDepth 100000 in
theorem e240_982 {ro : Nat → Nat × (Nat → Int32)} {l0 l1 l2 l3 l4 l5 l6 l7 : Option Value} {st : List Value} {h : List mCel} {x : Nat}  : mW ro mTab 240 982 [l0, l1, l2, l3, l4, l5, l6, l7] st h x = mW ro mTab 240 983 [l0, l1, l2, l3, l4, l5, l6, l7] (.int 1 :: st) h x := (g_step rfl rfl rfl rfl).trans rfl
set_option maxRecDepth 100000 in
theorem e240_983 {ro : Nat → Nat × (Nat → Int32)} {l0 l1 l2 l3 l4 l5 l6 l7 : Option Value} {st : List Value} {h : List mCel} {x : Nat} {a b : Int32} : mW ro mTab 240 983 [l0, l1, l2, l3, l4, l5, l6, l7] (.int b :: .int a :: st) h x = mW ro mTab 240 984 [l0, l1, l2, l3, l4, l5, l6, l7] (.int (a + b) :: st) h x := (g_step rfl rfl rfl rfl).trans rfl
set_option maxRecDepth 100000 in
theorem e240_984 {ro : Nat → Nat × (Nat → Int32)} {l0 l1 l2 l3 l4 l5 l6 l7 : Option Value} {st : List Value} {h : List mCel} {x : Nat} {a : Nat} {j : Int32} : mW ro mTab 240 984 [l0, l1, l2, l3, l4, l5, l6, l7] (.int j :: .ref a :: st) h x = kIA ro h a j fun v => mW ro mTab 240 985 [l0, l1, l2, l3, l4, l5, l6, l7] (.int v :: st) h x := g_iaload rfl rfl
set_option maxRecDepth 100000 in
theorem e240_985 {ro : Nat → Nat × (Nat → Int32)} {l1 l2 l3 l4 l5 l6 l7 : Option Value} {st : List Value} {h : List mCel} {x : Nat} {v : Nat} : mW ro mTab 240 985 [(some (.ref v)), l1, l2, l3, l4, l5, l6, l7] st h x = mW ro mTab 240 986 [(some (.ref v)), l1, l2, l3, l4, l5, l6, l7] (.ref v :: st) h x := (g_step rfl rfl rfl rfl).trans rfl
set_option maxRecDepth 100000 in
theorem e240_986 {ro : Nat → Nat × (Nat → Int32)} {l0 l1 l2 l3 l4 l6 l7 : Option Value} {st : List Value} {h : List mCel} {x : Nat} {v : Int32} : mW ro mTab 240 986 [l0, l1, l2, l3, l4, (some (.int v)), l6, l7] st h x = mW ro mTab 240 988 [l0, l1, l2, l3, l4, (some (.int v)), l6, l7] (.int v :: st) h x := (g_step rfl rfl rfl rfl).trans rfl
set_option maxRecDepth 100000 in
theorem e240_988 {ro : Nat → Nat × (Nat → Int32)} {l0 l1 l2 l3 l4 l5 l6 l7 : Option Value} {st : List Value} {h : List mCel} {x : Nat}  : mW ro mTab 240 988 [l0, l1, l2, l3, l4, l5, l6, l7] st h x = mW ro mTab 240 989 [l0, l1, l2, l3, l4, l5, l6, l7] (.int 2 :: st) h x := (g_step rfl rfl rfl rfl).trans rfl
set_option maxRecDepth 100000 in
theorem e240_989 {ro : Nat → Nat × (Nat → Int32)} {l0 l1 l2 l3 l4 l5 l6 l7 : Option Value} {st : List Value} {h : List mCel} {x : Nat} {a b : Int32} : mW ro mTab 240 989 [l0, l1, l2, l3, l4, l5, l6, l7] (.int b :: .int a :: st) h x = mW ro mTab 240 990 [l0, l1, l2, l3, l4, l5, l6, l7] (.int (a + b) :: st) h x := (g_step rfl rfl rfl rfl).trans rfl
set_option maxRecDepth 100000 in
theorem e240_990 {ro : Nat → Nat × (Nat → Int32)} {l0 l1 l2 l3 l4 l5 l6 l7 : Option Value} {st : List Value} {h : List mCel} {x : Nat} {a : Nat} {j : Int32} : mW ro mTab 240 990 [l0, l1, l2, l3, l4, l5, l6, l7] (.int j :: .ref a :: st) h x = kIA ro h a j fun v => mW ro mTab 240 991 [l0, l1, l2, l3, l4, l5, l6, l7] (.int v :: st) h x := g_iaload rfl rfl
set_option maxRecDepth 100000 in
theorem e240_991 {ro : Nat → Nat × (Nat → Int32)} {l1 l2 l3 l4 l5 l6 l7 : Option Value} {st : List Value} {h : List mCel} {x : Nat} {v : Nat} : mW ro mTab 240 991 [(some (.ref v)), l1, l2, l3, l4, l5, l6, l7] st h x = mW ro mTab 240 992 [(some (.ref v)), l1, l2, l3, l4, l5, l6, l7] (.ref v :: st) h x := (g_step rfl rfl rfl rfl).trans rfl
set_option maxRecDepth 100000 in
theorem e240_992 {ro : Nat → Nat × (Nat → Int32)} {l0 l1 l2 l3 l4 l6 l7 : Option Value} {st : List Value} {h : List mCel} {x : Nat} {v : Int32} : mW ro mTab 240 992 [l0, l1, l2, l3, l4, (some (.int v)), l6, l7] st h x = mW ro mTab 240 994 [l0, l1, l2, l3, l4, (some (.int v)), l6, l7] (.int v :: st) h x := (g_step rfl rfl rfl rfl).trans rfl
set_option maxRecDepth 100000 in
theorem e240_994 {ro : Nat → Nat × (Nat → Int32)} {l0 l1 l2 l3 l4 l5 l6 l7 : Option Value} {st : List Value} {h : List mCel} {x : Nat}  : mW ro mTab 240 994 [l0, l1, l2, l3, l4, l5, l6, l7] st h x = mW ro mTab 240 995 [l0, l1, l2, l3, l4, l5, l6, l7] (.int 3 :: st) h x := (g_step rfl rfl rfl rfl).trans rfl
set_option maxRecDepth 100000 in
theorem e240_995 {ro : Nat → Nat × (Nat → Int32)} {l0 l1 l2 l3 l4 l5 l6 l7 : Option Value} {st : List Value} {h : List mCel} {x : Nat} {a b : Int32} : mW ro mTab 240 995 [l0, l1, l2, l3, l4, l5, l6, l7] (.int b :: .int a :: st) h x = mW ro mTab 240 996 [l0, l1, l2, l3, l4, l5, l6, l7] (.int (a + b) :: st) h x := (g_step rfl rfl rfl rfl).trans rfl
set_option maxRecDepth 100000 in
theorem e240_996 {ro : Nat → Nat × (Nat → Int32)} {l0 l1 l2 l3 l4 l5 l6 l7 : Option Value} {st : List Value} {h : List mCel} {x : Nat} {a : Nat} {j : Int32} : mW ro mTab 240 996 [l0, l1, l2, l3, l4, l5, l6, l7] (.int j :: .ref a :: st) h x = kIA ro h a j fun v => mW ro mTab 240 997 [l0, l1, l2, l3, l4, l5, l6, l7] (.int v :: st) h x := g_iaload rfl rfl
set_option maxRecDepth 100000 in
theorem e240_997 {ro : Nat → Nat × (Nat → Int32)} {l1 l2 l3 l4 l5 l6 l7 : Option Value} {st : List Value} {h : List mCel} {x : Nat} {v : Nat} : mW ro mTab 240 997 [(some (.ref v)), l1, l2, l3, l4, l5, l6, l7] st h x = mW ro mTab 240 998 [(some (.ref v)), l1, l2, l3, l4, l5, l6, l7] (.ref v :: st) h x := (g_step rfl rfl rfl rfl).trans rfl
set_option maxRecDepth 100000 in
theorem e240_998 {ro : Nat → Nat × (Nat → Int32)} {l0 l1 l2 l3 l4 l6 l7 : Option Value} {st : List Value} {h : List mCel} {x : Nat} {v : Int32} : mW ro mTab 240 998 [l0, l1, l2, l3, l4, (some (.int v)), l6, l7] st h x = mW ro mTab 240 1000 [l0, l1, l2, l3, l4, (some (.int v)), l6, l7] (.int v :: st) h x := (g_step rfl rfl rfl rfl).trans rfl
set_option maxRecDepth 100000 in
theorem e240_1000 {ro : Nat → Nat × (Nat → Int32)} {l0 l1 l2 l3 l4 l5 l6 l7 : Option Value} {st : List Value} {h : List mCel} {x : Nat}  : mW ro mTab 240 1000 [l0, l1, l2, l3, l4, l5, l6, l7] st h x = mW ro mTab 240 1001 [l0, l1, l2, l3, l4, l5, l6, l7] (.int 4 :: st) h x := (g_step rfl rfl rfl rfl).trans rfl
set_option maxRecDepth 100000 in
theorem e240_1001 {ro : Nat → Nat × (Nat → Int32)} {l0 l1 l2 l3 l4 l5 l6 l7 : Option Value} {st : List Value} {h : List mCel} {x : Nat} {a b : Int32} : mW ro mTab 240 1001 [l0, l1, l2, l3, l4, l5, l6, l7] (.int b :: .int a :: st) h x = mW ro mTab 240 1002 [l0, l1, l2, l3, l4, l5, l6, l7] (.int (a + b) :: st) h x := (g_step rfl rfl rfl rfl).trans rfl
set_option maxRecDepth 100000 in
theorem e240_1002 {ro : Nat → Nat × (Nat → Int32)} {l0 l1 l2 l3 l4 l5 l6 l7 : Option Value} {st : List Value} {h : List mCel} {x : Nat} {a : Nat} {j : Int32} : mW ro mTab 240 1002 [l0, l1, l2, l3, l4, l5, l6, l7] (.int j :: .ref a :: st) h x = kIA ro h a j fun v => mW ro mTab 240 1003 [l0, l1, l2, l3, l4, l5, l6, l7] (.int v :: st) h x := g_iaload rfl rfl
set_option maxRecDepth 100000 in
theorem e240_1003 {ro : Nat → Nat × (Nat → Int32)} {l1 l2 l3 l4 l5 l6 l7 : Option Value} {st : List Value} {h : List mCel} {x : Nat} {v : Nat} : mW ro mTab 240 1003 [(some (.ref v)), l1, l2, l3, l4, l5, l6, l7] st h x = mW ro mTab 240 1004 [(some (.ref v)), l1, l2, l3, l4, l5, l6, l7] (.ref v :: st) h x := (g_step rfl rfl rfl rfl).trans rfl
set_option maxRecDepth 100000 in
theorem e240_1004 {ro : Nat → Nat × (Nat → Int32)} {l0 l1 l2 l3 l4 l6 l7 : Option Value} {st : List Value} {h : List mCel} {x : Nat} {v : Int32} : mW ro mTab 240 1004 [l0, l1, l2, l3, l4, (some (.int v)), l6, l7] st h x = mW ro mTab 240 1006 [l0, l1, l2, l3, l4, (some (.int v)), l6, l7] (.int v :: st) h x := (g_step rfl rfl rfl rfl).trans rfl
set_option maxRecDepth 100000 in
theorem e240_1006 {ro : Nat → Nat × (Nat → Int32)} {l0 l1 l2 l3 l4 l5 l6 l7 : Option Value} {st : List Value} {h : List mCel} {x : Nat}  : mW ro mTab 240 1006 [l0, l1, l2, l3, l4, l5, l6, l7] st h x = mW ro mTab 240 1007 [l0, l1, l2, l3, l4, l5, l6, l7] (.int 5 :: st) h x := (g_step rfl rfl rfl rfl).trans rfl
set_option maxRecDepth 100000 in
theorem e240_1007 {ro : Nat → Nat × (Nat → Int32)} {l0 l1 l2 l3 l4 l5 l6 l7 : Option Value} {st : List Value} {h : List mCel} {x : Nat} {a b : Int32} : mW ro mTab 240 1007 [l0, l1, l2, l3, l4, l5, l6, l7] (.int b :: .int a :: st) h x = mW ro mTab 240 1008 [l0, l1, l2, l3, l4, l5, l6, l7] (.int (a + b) :: st) h x := (g_step rfl rfl rfl rfl).trans rfl
set_option maxRecDepth 100000 in
theorem e240_1008 {ro : Nat → Nat × (Nat → Int32)} {l0 l1 l2 l3 l4 l5 l6 l7 : Option Value} {st : List Value} {h : List mCel} {x : Nat} {a : Nat} {j : Int32} : mW ro mTab 240 1008 [l0, l1, l2, l3, l4, l5, l6, l7] (.int j :: .ref a :: st) h x = kIA ro h a j fun v => mW ro mTab 240 1009 [l0, l1, l2, l3, l4, l5, l6, l7] (.int v :: st) h x := g_iaload rfl rfl
set_option maxRecDepth 100000 in
theorem e240_1009 {ro : Nat → Nat × (Nat → Int32)} {l1 l2 l3 l4 l5 l6 l7 : Option Value} {st : List Value} {h : List mCel} {x : Nat} {v : Nat} : mW ro mTab 240 1009 [(some (.ref v)), l1, l2, l3, l4, l5, l6, l7] st h x = mW ro mTab 240 1010 [(some (.ref v)), l1, l2, l3, l4, l5, l6, l7] (.ref v :: st) h x := (g_step rfl rfl rfl rfl).trans rfl
set_option maxRecDepth 100000 in
theorem e240_1010 {ro : Nat → Nat × (Nat → Int32)} {l0 l1 l2 l3 l4 l6 l7 : Option Value} {st : List Value} {h : List mCel} {x : Nat} {v : Int32} : mW ro mTab 240 1010 [l0, l1, l2, l3, l4, (some (.int v)), l6, l7] st h x = mW ro mTab 240 1012 [l0, l1, l2, l3, l4, (some (.int v)), l6, l7] (.int v :: st) h x := (g_step rfl rfl rfl rfl).trans rfl
set_option maxRecDepth 100000 in
theorem e240_1012 {ro : Nat → Nat × (Nat → Int32)} {l0 l1 l2 l3 l4 l5 l6 l7 : Option Value} {st : List Value} {h : List mCel} {x : Nat}  : mW ro mTab 240 1012 [l0, l1, l2, l3, l4, l5, l6, l7] st h x = mW ro mTab 240 1014 [l0, l1, l2, l3, l4, l5, l6, l7] (.int 6 :: st) h x := (g_step rfl rfl rfl rfl).trans rfl
set_option maxRecDepth 100000 in
theorem e240_1014 {ro : Nat → Nat × (Nat → Int32)} {l0 l1 l2 l3 l4 l5 l6 l7 : Option Value} {st : List Value} {h : List mCel} {x : Nat} {a b : Int32} : mW ro mTab 240 1014 [l0, l1, l2, l3, l4, l5, l6, l7] (.int b :: .int a :: st) h x = mW ro mTab 240 1015 [l0, l1, l2, l3, l4, l5, l6, l7] (.int (a + b) :: st) h x := (g_step rfl rfl rfl rfl).trans rfl
set_option maxRecDepth 100000 in
theorem e240_1015 {ro : Nat → Nat × (Nat → Int32)} {l0 l1 l2 l3 l4 l5 l6 l7 : Option Value} {st : List Value} {h : List mCel} {x : Nat} {a : Nat} {j : Int32} : mW ro mTab 240 1015 [l0, l1, l2, l3, l4, l5, l6, l7] (.int j :: .ref a :: st) h x = kIA ro h a j fun v => mW ro mTab 240 1016 [l0, l1, l2, l3, l4, l5, l6, l7] (.int v :: st) h x := g_iaload rfl rfl
set_option maxRecDepth 100000 in
theorem e240_1016 {ro : Nat → Nat × (Nat → Int32)} {l1 l2 l3 l4 l5 l6 l7 : Option Value} {st : List Value} {h : List mCel} {x : Nat} {v : Nat} : mW ro mTab 240 1016 [(some (.ref v)), l1, l2, l3, l4, l5, l6, l7] st h x = mW ro mTab 240 1017 [(some (.ref v)), l1, l2, l3, l4, l5, l6, l7] (.ref v :: st) h x := (g_step rfl rfl rfl rfl).trans rfl
set_option maxRecDepth 100000 in
theorem e240_1017 {ro : Nat → Nat × (Nat → Int32)} {l0 l1 l2 l3 l4 l6 l7 : Option Value} {st : List Value} {h : List mCel} {x : Nat} {v : Int32} : mW ro mTab 240 1017 [l0, l1, l2, l3, l4, (some (.int v)), l6, l7] st h x = mW ro mTab 240 1019 [l0, l1, l2, l3, l4, (some (.int v)), l6, l7] (.int v :: st) h x := (g_step rfl rfl rfl rfl).trans rfl
set_option maxRecDepth 100000 in
theorem e240_1019 {ro : Nat → Nat × (Nat → Int32)} {l0 l1 l2 l3 l4 l5 l6 l7 : Option Value} {st : List Value} {h : List mCel} {x : Nat}  : mW ro mTab 240 1019 [l0, l1, l2, l3, l4, l5, l6, l7] st h x = mW ro mTab 240 1021 [l0, l1, l2, l3, l4, l5, l6, l7] (.int 7 :: st) h x := (g_step rfl rfl rfl rfl).trans rfl
set_option maxRecDepth 100000 in
theorem e240_1021 {ro : Nat → Nat × (Nat → Int32)} {l0 l1 l2 l3 l4 l5 l6 l7 : Option Value} {st : List Value} {h : List mCel} {x : Nat} {a b : Int32} : mW ro mTab 240 1021 [l0, l1, l2, l3, l4, l5, l6, l7] (.int b :: .int a :: st) h x = mW ro mTab 240 1022 [l0, l1, l2, l3, l4, l5, l6, l7] (.int (a + b) :: st) h x := (g_step rfl rfl rfl rfl).trans rfl
set_option maxRecDepth 100000 in
theorem e240_1022 {ro : Nat → Nat × (Nat → Int32)} {l0 l1 l2 l3 l4 l5 l6 l7 : Option Value} {st : List Value} {h : List mCel} {x : Nat} {a : Nat} {j : Int32} : mW ro mTab 240 1022 [l0, l1, l2, l3, l4, l5, l6, l7] (.int j :: .ref a :: st) h x = kIA ro h a j fun v => mW ro mTab 240 1023 [l0, l1, l2, l3, l4, l5, l6, l7] (.int v :: st) h x := g_iaload rfl rfl
set_option maxRecDepth 100000 in
theorem e240_1023 {ro : Nat → Nat × (Nat → Int32)} {l0 l1 l2 l3 l4 l5 l6 l7 : Option Value} {st : List Value} {h : List mCel} {x : Nat} {a : Int32} : mW ro mTab 240 1023 [l0, l1, l2, l3, l4, l5, l6, l7] (.int a :: st) h x = if a = 0 then mW ro mTab 240 1030 [l0, l1, l2, l3, l4, l5, l6, l7] st h x else mW ro mTab 240 1026 [l0, l1, l2, l3, l4, l5, l6, l7] st h x := g_if_eq rfl rfl rfl
set_option maxRecDepth 100000 in
theorem e240_1026 {ro : Nat → Nat × (Nat → Int32)} {l0 l1 l2 l3 l4 l5 l6 l7 : Option Value} {st : List Value} {h : List mCel} {x : Nat}  : mW ro mTab 240 1026 [l0, l1, l2, l3, l4, l5, l6, l7] st h x = mW ro mTab 240 1027 [l0, l1, l2, l3, l4, l5, l6, l7] (.int 1 :: st) h x := (g_step rfl rfl rfl rfl).trans rfl
set_option maxRecDepth 100000 in
theorem e240_1027 {ro : Nat → Nat × (Nat → Int32)} {l0 l1 l2 l3 l4 l5 l6 l7 : Option Value} {st : List Value} {h : List mCel} {x : Nat}  : mW ro mTab 240 1027 [l0, l1, l2, l3, l4, l5, l6, l7] st h x = mW ro mTab 240 1031 [l0, l1, l2, l3, l4, l5, l6, l7] st h x := (g_step rfl rfl rfl rfl).trans rfl
set_option maxRecDepth 100000 in
theorem e240_1030 {ro : Nat → Nat × (Nat → Int32)} {l0 l1 l2 l3 l4 l5 l6 l7 : Option Value} {st : List Value} {h : List mCel} {x : Nat}  : mW ro mTab 240 1030 [l0, l1, l2, l3, l4, l5, l6, l7] st h x = mW ro mTab 240 1031 [l0, l1, l2, l3, l4, l5, l6, l7] (.int 0 :: st) h x := (g_step rfl rfl rfl rfl).trans rfl
set_option maxRecDepth 100000 in
theorem e240_1031 {ro : Nat → Nat × (Nat → Int32)} {l0 l1 l2 l4 l5 l6 l7 : Option Value} {st : List Value} {h : List mCel} {x : Nat} {v : Nat} : mW ro mTab 240 1031 [l0, l1, l2, (some (.ref v)), l4, l5, l6, l7] st h x = mW ro mTab 240 1032 [l0, l1, l2, (some (.ref v)), l4, l5, l6, l7] (.ref v :: st) h x := (g_step rfl rfl rfl rfl).trans rfl
set_option maxRecDepth 100000 in
theorem e240_1032 {ro : Nat → Nat × (Nat → Int32)} {l0 l1 l2 l3 l4 l5 l6 l7 : Option Value} {st : List Value} {h : List mCel} {x : Nat} {a0 : Nat} {a1 : Int32} {a2 : Int32} {a3 : Int32} {a4 : Int32} {a5 : Int32} {a6 : Int32} {a7 : Int32} {a8 : Nat} (hs : (st.map Value.category).sum ≤ 8) : mW ro mTab 240 1032 [l0, l1, l2, l3, l4, l5, l6, l7] (.ref a8 :: .int a7 :: .int a6 :: .int a5 :: .int a4 :: .int a3 :: .int a2 :: .int a1 :: .ref a0 :: st) h x = mAft (mW ro mTab) (mHd mM_240) 240 1032 [l0, l1, l2, l3, l4, l5, l6, l7] st (mW ro mTab 232 0 [some (.ref a0), some (.int a1), some (.int a2), some (.int a3), some (.int a4), some (.int a5), some (.int a6), some (.int a7), some (.ref a8), none] [] h x) := g_call rfl rfl rfl rfl rfl rfl rfl hs
set_option maxRecDepth 100000 in
theorem e240_1035 {ro : Nat → Nat × (Nat → Int32)} {l0 l1 l2 l3 l4 l5 l6 l7 : Option Value} {st : List Value} {h : List mCel} {x : Nat} {v : Int32} : mW ro mTab 240 1035 [l0, l1, l2, l3, l4, l5, l6, l7] (.int v :: st) h x = mW ro mTab 240 1037 [l0, l1, l2, l3, l4, l5, (some (.int v)), l7] st h x := (g_step rfl rfl rfl rfl).trans rfl
set_option maxRecDepth 100000 in
theorem e240_1037 {ro : Nat → Nat × (Nat → Int32)} {l0 l1 l3 l4 l5 l6 l7 : Option Value} {st : List Value} {h : List mCel} {x : Nat} {v : Nat} : mW ro mTab 240 1037 [l0, l1, (some (.ref v)), l3, l4, l5, l6, l7] st h x = mW ro mTab 240 1038 [l0, l1, (some (.ref v)), l3, l4, l5, l6, l7] (.ref v :: st) h x := (g_step rfl rfl rfl rfl).trans rfl
set_option maxRecDepth 100000 in
theorem e240_1038 {ro : Nat → Nat × (Nat → Int32)} {l1 l2 l3 l4 l5 l6 l7 : Option Value} {st : List Value} {h : List mCel} {x : Nat} {v : Nat} : mW ro mTab 240 1038 [(some (.ref v)), l1, l2, l3, l4, l5, l6, l7] st h x = mW ro mTab 240 1039 [(some (.ref v)), l1, l2, l3, l4, l5, l6, l7] (.ref v :: st) h x := (g_step rfl rfl rfl rfl).trans rfl
set_option maxRecDepth 100000 in
theorem e240_1039 {ro : Nat → Nat × (Nat → Int32)} {l0 l1 l2 l3 l4 l6 l7 : Option Value} {st : List Value} {h : List mCel} {x : Nat} {v : Int32} : mW ro mTab 240 1039 [l0, l1, l2, l3, l4, (some (.int v)), l6, l7] st h x = mW ro mTab 240 1041 [l0, l1, l2, l3, l4, (some (.int v)), l6, l7] (.int v :: st) h x := (g_step rfl rfl rfl rfl).trans rfl
set_option maxRecDepth 100000 in
theorem e240_1041 {ro : Nat → Nat × (Nat → Int32)} {l0 l1 l2 l3 l4 l5 l6 l7 : Option Value} {st : List Value} {h : List mCel} {x : Nat}  : mW ro mTab 240 1041 [l0, l1, l2, l3, l4, l5, l6, l7] st h x = mW ro mTab 240 1042 [l0, l1, l2, l3, l4, l5, l6, l7] (.int 1 :: st) h x := (g_step rfl rfl rfl rfl).trans rfl
set_option maxRecDepth 100000 in
theorem e240_1042 {ro : Nat → Nat × (Nat → Int32)} {l0 l1 l2 l3 l4 l5 l6 l7 : Option Value} {st : List Value} {h : List mCel} {x : Nat} {a b : Int32} : mW ro mTab 240 1042 [l0, l1, l2, l3, l4, l5, l6, l7] (.int b :: .int a :: st) h x = mW ro mTab 240 1043 [l0, l1, l2, l3, l4, l5, l6, l7] (.int (a + b) :: st) h x := (g_step rfl rfl rfl rfl).trans rfl
set_option maxRecDepth 100000 in
theorem e240_1043 {ro : Nat → Nat × (Nat → Int32)} {l0 l1 l2 l3 l4 l5 l6 l7 : Option Value} {st : List Value} {h : List mCel} {x : Nat} {a : Nat} {j : Int32} : mW ro mTab 240 1043 [l0, l1, l2, l3, l4, l5, l6, l7] (.int j :: .ref a :: st) h x = kIA ro h a j fun v => mW ro mTab 240 1044 [l0, l1, l2, l3, l4, l5, l6, l7] (.int v :: st) h x := g_iaload rfl rfl
set_option maxRecDepth 100000 in
theorem e240_1044 {ro : Nat → Nat × (Nat → Int32)} {l1 l2 l3 l4 l5 l6 l7 : Option Value} {st : List Value} {h : List mCel} {x : Nat} {v : Nat} : mW ro mTab 240 1044 [(some (.ref v)), l1, l2, l3, l4, l5, l6, l7] st h x = mW ro mTab 240 1045 [(some (.ref v)), l1, l2, l3, l4, l5, l6, l7] (.ref v :: st) h x := (g_step rfl rfl rfl rfl).trans rfl
set_option maxRecDepth 100000 in
theorem e240_1045 {ro : Nat → Nat × (Nat → Int32)} {l0 l1 l2 l3 l4 l6 l7 : Option Value} {st : List Value} {h : List mCel} {x : Nat} {v : Int32} : mW ro mTab 240 1045 [l0, l1, l2, l3, l4, (some (.int v)), l6, l7] st h x = mW ro mTab 240 1047 [l0, l1, l2, l3, l4, (some (.int v)), l6, l7] (.int v :: st) h x := (g_step rfl rfl rfl rfl).trans rfl
set_option maxRecDepth 100000 in
theorem e240_1047 {ro : Nat → Nat × (Nat → Int32)} {l0 l1 l2 l3 l4 l5 l6 l7 : Option Value} {st : List Value} {h : List mCel} {x : Nat}  : mW ro mTab 240 1047 [l0, l1, l2, l3, l4, l5, l6, l7] st h x = mW ro mTab 240 1048 [l0, l1, l2, l3, l4, l5, l6, l7] (.int 2 :: st) h x := (g_step rfl rfl rfl rfl).trans rfl
set_option maxRecDepth 100000 in
theorem e240_1048 {ro : Nat → Nat × (Nat → Int32)} {l0 l1 l2 l3 l4 l5 l6 l7 : Option Value} {st : List Value} {h : List mCel} {x : Nat} {a b : Int32} : mW ro mTab 240 1048 [l0, l1, l2, l3, l4, l5, l6, l7] (.int b :: .int a :: st) h x = mW ro mTab 240 1049 [l0, l1, l2, l3, l4, l5, l6, l7] (.int (a + b) :: st) h x := (g_step rfl rfl rfl rfl).trans rfl
set_option maxRecDepth 100000 in
theorem e240_1049 {ro : Nat → Nat × (Nat → Int32)} {l0 l1 l2 l3 l4 l5 l6 l7 : Option Value} {st : List Value} {h : List mCel} {x : Nat} {a : Nat} {j : Int32} : mW ro mTab 240 1049 [l0, l1, l2, l3, l4, l5, l6, l7] (.int j :: .ref a :: st) h x = kIA ro h a j fun v => mW ro mTab 240 1050 [l0, l1, l2, l3, l4, l5, l6, l7] (.int v :: st) h x := g_iaload rfl rfl
set_option maxRecDepth 100000 in
theorem e240_1050 {ro : Nat → Nat × (Nat → Int32)} {l1 l2 l3 l4 l5 l6 l7 : Option Value} {st : List Value} {h : List mCel} {x : Nat} {v : Nat} : mW ro mTab 240 1050 [(some (.ref v)), l1, l2, l3, l4, l5, l6, l7] st h x = mW ro mTab 240 1051 [(some (.ref v)), l1, l2, l3, l4, l5, l6, l7] (.ref v :: st) h x := (g_step rfl rfl rfl rfl).trans rfl
set_option maxRecDepth 100000 in
theorem e240_1051 {ro : Nat → Nat × (Nat → Int32)} {l0 l1 l2 l3 l4 l6 l7 : Option Value} {st : List Value} {h : List mCel} {x : Nat} {v : Int32} : mW ro mTab 240 1051 [l0, l1, l2, l3, l4, (some (.int v)), l6, l7] st h x = mW ro mTab 240 1053 [l0, l1, l2, l3, l4, (some (.int v)), l6, l7] (.int v :: st) h x := (g_step rfl rfl rfl rfl).trans rfl
set_option maxRecDepth 100000 in
theorem e240_1053 {ro : Nat → Nat × (Nat → Int32)} {l0 l1 l2 l3 l4 l5 l6 l7 : Option Value} {st : List Value} {h : List mCel} {x : Nat}  : mW ro mTab 240 1053 [l0, l1, l2, l3, l4, l5, l6, l7] st h x = mW ro mTab 240 1054 [l0, l1, l2, l3, l4, l5, l6, l7] (.int 3 :: st) h x := (g_step rfl rfl rfl rfl).trans rfl
set_option maxRecDepth 100000 in
theorem e240_1054 {ro : Nat → Nat × (Nat → Int32)} {l0 l1 l2 l3 l4 l5 l6 l7 : Option Value} {st : List Value} {h : List mCel} {x : Nat} {a b : Int32} : mW ro mTab 240 1054 [l0, l1, l2, l3, l4, l5, l6, l7] (.int b :: .int a :: st) h x = mW ro mTab 240 1055 [l0, l1, l2, l3, l4, l5, l6, l7] (.int (a + b) :: st) h x := (g_step rfl rfl rfl rfl).trans rfl
set_option maxRecDepth 100000 in
theorem e240_1055 {ro : Nat → Nat × (Nat → Int32)} {l0 l1 l2 l3 l4 l5 l6 l7 : Option Value} {st : List Value} {h : List mCel} {x : Nat} {a : Nat} {j : Int32} : mW ro mTab 240 1055 [l0, l1, l2, l3, l4, l5, l6, l7] (.int j :: .ref a :: st) h x = kIA ro h a j fun v => mW ro mTab 240 1056 [l0, l1, l2, l3, l4, l5, l6, l7] (.int v :: st) h x := g_iaload rfl rfl
set_option maxRecDepth 100000 in
theorem e240_1056 {ro : Nat → Nat × (Nat → Int32)} {l1 l2 l3 l4 l5 l6 l7 : Option Value} {st : List Value} {h : List mCel} {x : Nat} {v : Nat} : mW ro mTab 240 1056 [(some (.ref v)), l1, l2, l3, l4, l5, l6, l7] st h x = mW ro mTab 240 1057 [(some (.ref v)), l1, l2, l3, l4, l5, l6, l7] (.ref v :: st) h x := (g_step rfl rfl rfl rfl).trans rfl
set_option maxRecDepth 100000 in
theorem e240_1057 {ro : Nat → Nat × (Nat → Int32)} {l0 l1 l2 l3 l4 l6 l7 : Option Value} {st : List Value} {h : List mCel} {x : Nat} {v : Int32} : mW ro mTab 240 1057 [l0, l1, l2, l3, l4, (some (.int v)), l6, l7] st h x = mW ro mTab 240 1059 [l0, l1, l2, l3, l4, (some (.int v)), l6, l7] (.int v :: st) h x := (g_step rfl rfl rfl rfl).trans rfl
set_option maxRecDepth 100000 in
theorem e240_1059 {ro : Nat → Nat × (Nat → Int32)} {l0 l1 l2 l3 l4 l5 l6 l7 : Option Value} {st : List Value} {h : List mCel} {x : Nat}  : mW ro mTab 240 1059 [l0, l1, l2, l3, l4, l5, l6, l7] st h x = mW ro mTab 240 1060 [l0, l1, l2, l3, l4, l5, l6, l7] (.int 4 :: st) h x := (g_step rfl rfl rfl rfl).trans rfl
set_option maxRecDepth 100000 in
theorem e240_1060 {ro : Nat → Nat × (Nat → Int32)} {l0 l1 l2 l3 l4 l5 l6 l7 : Option Value} {st : List Value} {h : List mCel} {x : Nat} {a b : Int32} : mW ro mTab 240 1060 [l0, l1, l2, l3, l4, l5, l6, l7] (.int b :: .int a :: st) h x = mW ro mTab 240 1061 [l0, l1, l2, l3, l4, l5, l6, l7] (.int (a + b) :: st) h x := (g_step rfl rfl rfl rfl).trans rfl
set_option maxRecDepth 100000 in
theorem e240_1061 {ro : Nat → Nat × (Nat → Int32)} {l0 l1 l2 l3 l4 l5 l6 l7 : Option Value} {st : List Value} {h : List mCel} {x : Nat} {a : Nat} {j : Int32} : mW ro mTab 240 1061 [l0, l1, l2, l3, l4, l5, l6, l7] (.int j :: .ref a :: st) h x = kIA ro h a j fun v => mW ro mTab 240 1062 [l0, l1, l2, l3, l4, l5, l6, l7] (.int v :: st) h x := g_iaload rfl rfl
set_option maxRecDepth 100000 in
theorem e240_1062 {ro : Nat → Nat × (Nat → Int32)} {l1 l2 l3 l4 l5 l6 l7 : Option Value} {st : List Value} {h : List mCel} {x : Nat} {v : Nat} : mW ro mTab 240 1062 [(some (.ref v)), l1, l2, l3, l4, l5, l6, l7] st h x = mW ro mTab 240 1063 [(some (.ref v)), l1, l2, l3, l4, l5, l6, l7] (.ref v :: st) h x := (g_step rfl rfl rfl rfl).trans rfl
set_option maxRecDepth 100000 in
theorem e240_1063 {ro : Nat → Nat × (Nat → Int32)} {l0 l1 l2 l3 l4 l6 l7 : Option Value} {st : List Value} {h : List mCel} {x : Nat} {v : Int32} : mW ro mTab 240 1063 [l0, l1, l2, l3, l4, (some (.int v)), l6, l7] st h x = mW ro mTab 240 1065 [l0, l1, l2, l3, l4, (some (.int v)), l6, l7] (.int v :: st) h x := (g_step rfl rfl rfl rfl).trans rfl
set_option maxRecDepth 100000 in
theorem e240_1065 {ro : Nat → Nat × (Nat → Int32)} {l0 l1 l2 l3 l4 l5 l6 l7 : Option Value} {st : List Value} {h : List mCel} {x : Nat}  : mW ro mTab 240 1065 [l0, l1, l2, l3, l4, l5, l6, l7] st h x = mW ro mTab 240 1066 [l0, l1, l2, l3, l4, l5, l6, l7] (.int 5 :: st) h x := (g_step rfl rfl rfl rfl).trans rfl
set_option maxRecDepth 100000 in
theorem e240_1066 {ro : Nat → Nat × (Nat → Int32)} {l0 l1 l2 l3 l4 l5 l6 l7 : Option Value} {st : List Value} {h : List mCel} {x : Nat} {a b : Int32} : mW ro mTab 240 1066 [l0, l1, l2, l3, l4, l5, l6, l7] (.int b :: .int a :: st) h x = mW ro mTab 240 1067 [l0, l1, l2, l3, l4, l5, l6, l7] (.int (a + b) :: st) h x := (g_step rfl rfl rfl rfl).trans rfl
set_option maxRecDepth 100000 in
theorem e240_1067 {ro : Nat → Nat × (Nat → Int32)} {l0 l1 l2 l3 l4 l5 l6 l7 : Option Value} {st : List Value} {h : List mCel} {x : Nat} {a : Nat} {j : Int32} : mW ro mTab 240 1067 [l0, l1, l2, l3, l4, l5, l6, l7] (.int j :: .ref a :: st) h x = kIA ro h a j fun v => mW ro mTab 240 1068 [l0, l1, l2, l3, l4, l5, l6, l7] (.int v :: st) h x := g_iaload rfl rfl
set_option maxRecDepth 100000 in
theorem e240_1068 {ro : Nat → Nat × (Nat → Int32)} {l1 l2 l3 l4 l5 l6 l7 : Option Value} {st : List Value} {h : List mCel} {x : Nat} {v : Nat} : mW ro mTab 240 1068 [(some (.ref v)), l1, l2, l3, l4, l5, l6, l7] st h x = mW ro mTab 240 1069 [(some (.ref v)), l1, l2, l3, l4, l5, l6, l7] (.ref v :: st) h x := (g_step rfl rfl rfl rfl).trans rfl
set_option maxRecDepth 100000 in
theorem e240_1069 {ro : Nat → Nat × (Nat → Int32)} {l0 l1 l2 l3 l4 l6 l7 : Option Value} {st : List Value} {h : List mCel} {x : Nat} {v : Int32} : mW ro mTab 240 1069 [l0, l1, l2, l3, l4, (some (.int v)), l6, l7] st h x = mW ro mTab 240 1071 [l0, l1, l2, l3, l4, (some (.int v)), l6, l7] (.int v :: st) h x := (g_step rfl rfl rfl rfl).trans rfl
set_option maxRecDepth 100000 in
theorem e240_1071 {ro : Nat → Nat × (Nat → Int32)} {l0 l1 l2 l3 l4 l5 l6 l7 : Option Value} {st : List Value} {h : List mCel} {x : Nat}  : mW ro mTab 240 1071 [l0, l1, l2, l3, l4, l5, l6, l7] st h x = mW ro mTab 240 1073 [l0, l1, l2, l3, l4, l5, l6, l7] (.int 6 :: st) h x := (g_step rfl rfl rfl rfl).trans rfl
set_option maxRecDepth 100000 in
theorem e240_1073 {ro : Nat → Nat × (Nat → Int32)} {l0 l1 l2 l3 l4 l5 l6 l7 : Option Value} {st : List Value} {h : List mCel} {x : Nat} {a b : Int32} : mW ro mTab 240 1073 [l0, l1, l2, l3, l4, l5, l6, l7] (.int b :: .int a :: st) h x = mW ro mTab 240 1074 [l0, l1, l2, l3, l4, l5, l6, l7] (.int (a + b) :: st) h x := (g_step rfl rfl rfl rfl).trans rfl
set_option maxRecDepth 100000 in
theorem e240_1074 {ro : Nat → Nat × (Nat → Int32)} {l0 l1 l2 l3 l4 l5 l6 l7 : Option Value} {st : List Value} {h : List mCel} {x : Nat} {a : Nat} {j : Int32} : mW ro mTab 240 1074 [l0, l1, l2, l3, l4, l5, l6, l7] (.int j :: .ref a :: st) h x = kIA ro h a j fun v => mW ro mTab 240 1075 [l0, l1, l2, l3, l4, l5, l6, l7] (.int v :: st) h x := g_iaload rfl rfl
set_option maxRecDepth 100000 in
theorem e240_1075 {ro : Nat → Nat × (Nat → Int32)} {l1 l2 l3 l4 l5 l6 l7 : Option Value} {st : List Value} {h : List mCel} {x : Nat} {v : Nat} : mW ro mTab 240 1075 [(some (.ref v)), l1, l2, l3, l4, l5, l6, l7] st h x = mW ro mTab 240 1076 [(some (.ref v)), l1, l2, l3, l4, l5, l6, l7] (.ref v :: st) h x := (g_step rfl rfl rfl rfl).trans rfl
set_option maxRecDepth 100000 in
theorem e240_1076 {ro : Nat → Nat × (Nat → Int32)} {l0 l1 l2 l3 l4 l6 l7 : Option Value} {st : List Value} {h : List mCel} {x : Nat} {v : Int32} : mW ro mTab 240 1076 [l0, l1, l2, l3, l4, (some (.int v)), l6, l7] st h x = mW ro mTab 240 1078 [l0, l1, l2, l3, l4, (some (.int v)), l6, l7] (.int v :: st) h x := (g_step rfl rfl rfl rfl).trans rfl
set_option maxRecDepth 100000 in
theorem e240_1078 {ro : Nat → Nat × (Nat → Int32)} {l0 l1 l2 l3 l4 l5 l6 l7 : Option Value} {st : List Value} {h : List mCel} {x : Nat}  : mW ro mTab 240 1078 [l0, l1, l2, l3, l4, l5, l6, l7] st h x = mW ro mTab 240 1080 [l0, l1, l2, l3, l4, l5, l6, l7] (.int 7 :: st) h x := (g_step rfl rfl rfl rfl).trans rfl
set_option maxRecDepth 100000 in
theorem e240_1080 {ro : Nat → Nat × (Nat → Int32)} {l0 l1 l2 l3 l4 l5 l6 l7 : Option Value} {st : List Value} {h : List mCel} {x : Nat} {a b : Int32} : mW ro mTab 240 1080 [l0, l1, l2, l3, l4, l5, l6, l7] (.int b :: .int a :: st) h x = mW ro mTab 240 1081 [l0, l1, l2, l3, l4, l5, l6, l7] (.int (a + b) :: st) h x := (g_step rfl rfl rfl rfl).trans rfl
set_option maxRecDepth 100000 in
theorem e240_1081 {ro : Nat → Nat × (Nat → Int32)} {l0 l1 l2 l3 l4 l5 l6 l7 : Option Value} {st : List Value} {h : List mCel} {x : Nat} {a : Nat} {j : Int32} : mW ro mTab 240 1081 [l0, l1, l2, l3, l4, l5, l6, l7] (.int j :: .ref a :: st) h x = kIA ro h a j fun v => mW ro mTab 240 1082 [l0, l1, l2, l3, l4, l5, l6, l7] (.int v :: st) h x := g_iaload rfl rfl
set_option maxRecDepth 100000 in
theorem e240_1082 {ro : Nat → Nat × (Nat → Int32)} {l0 l1 l2 l3 l4 l5 l6 l7 : Option Value} {st : List Value} {h : List mCel} {x : Nat} {a : Int32} : mW ro mTab 240 1082 [l0, l1, l2, l3, l4, l5, l6, l7] (.int a :: st) h x = if a = 0 then mW ro mTab 240 1089 [l0, l1, l2, l3, l4, l5, l6, l7] st h x else mW ro mTab 240 1085 [l0, l1, l2, l3, l4, l5, l6, l7] st h x := g_if_eq rfl rfl rfl
set_option maxRecDepth 100000 in
theorem e240_1085 {ro : Nat → Nat × (Nat → Int32)} {l0 l1 l2 l3 l4 l5 l6 l7 : Option Value} {st : List Value} {h : List mCel} {x : Nat}  : mW ro mTab 240 1085 [l0, l1, l2, l3, l4, l5, l6, l7] st h x = mW ro mTab 240 1086 [l0, l1, l2, l3, l4, l5, l6, l7] (.int 1 :: st) h x := (g_step rfl rfl rfl rfl).trans rfl
set_option maxRecDepth 100000 in
theorem e240_1086 {ro : Nat → Nat × (Nat → Int32)} {l0 l1 l2 l3 l4 l5 l6 l7 : Option Value} {st : List Value} {h : List mCel} {x : Nat}  : mW ro mTab 240 1086 [l0, l1, l2, l3, l4, l5, l6, l7] st h x = mW ro mTab 240 1090 [l0, l1, l2, l3, l4, l5, l6, l7] st h x := (g_step rfl rfl rfl rfl).trans rfl
set_option maxRecDepth 100000 in
theorem e240_1089 {ro : Nat → Nat × (Nat → Int32)} {l0 l1 l2 l3 l4 l5 l6 l7 : Option Value} {st : List Value} {h : List mCel} {x : Nat}  : mW ro mTab 240 1089 [l0, l1, l2, l3, l4, l5, l6, l7] st h x = mW ro mTab 240 1090 [l0, l1, l2, l3, l4, l5, l6, l7] (.int 0 :: st) h x := (g_step rfl rfl rfl rfl).trans rfl
set_option maxRecDepth 100000 in
theorem e240_1090 {ro : Nat → Nat × (Nat → Int32)} {l0 l1 l2 l3 l4 l5 l6 l7 : Option Value} {st : List Value} {h : List mCel} {x : Nat} {a0 : Nat} {a1 : Int32} {a2 : Int32} {a3 : Int32} {a4 : Int32} {a5 : Int32} {a6 : Int32} {a7 : Int32} (hr : kR (mCell h a0) 11 = true) (hs : (st.map Value.category).sum ≤ 8) : mW ro mTab 240 1090 [l0, l1, l2, l3, l4, l5, l6, l7] (.int a7 :: .int a6 :: .int a5 :: .int a4 :: .int a3 :: .int a2 :: .int a1 :: .ref a0 :: st) h x = mAft (mW ro mTab) (mHd mM_240) 240 1090 [l0, l1, l2, l3, l4, l5, l6, l7] st (mW ro mTab 78 0 [some (.ref a0), some (.int a1), some (.int a2), some (.int a3), some (.int a4), some (.int a5), some (.int a6), some (.int a7)] [] h x) := g_call rfl rfl rfl rfl rfl rfl (g_rcv rfl hr) hs
set_option maxRecDepth 100000 in
theorem e240_1093 {ro : Nat → Nat × (Nat → Int32)} {l0 l1 l2 l3 l4 l5 l6 l7 : Option Value} {st : List Value} {h : List mCel} {x : Nat} {v : Int32} : mW ro mTab 240 1093 [l0, l1, l2, l3, l4, l5, l6, l7] (.int v :: st) h x = mW ro mTab 240 1095 [l0, l1, l2, l3, l4, l5, l6, (some (.int v))] st h x := (g_step rfl rfl rfl rfl).trans rfl
set_option maxRecDepth 100000 in
theorem e240_1095 {ro : Nat → Nat × (Nat → Int32)} {l0 l1 l3 l4 l5 l6 l7 : Option Value} {st : List Value} {h : List mCel} {x : Nat} {v : Nat} : mW ro mTab 240 1095 [l0, l1, (some (.ref v)), l3, l4, l5, l6, l7] st h x = mW ro mTab 240 1096 [l0, l1, (some (.ref v)), l3, l4, l5, l6, l7] (.ref v :: st) h x := (g_step rfl rfl rfl rfl).trans rfl
set_option maxRecDepth 100000 in
theorem e240_1096 {ro : Nat → Nat × (Nat → Int32)} {l0 l1 l2 l3 l4 l5 l6 l7 : Option Value} {st : List Value} {h : List mCel} {x : Nat} {a0 : Nat} (hr : kR (mCell h a0) 11 = true) (hs : (st.map Value.category).sum ≤ 8) : mW ro mTab 240 1096 [l0, l1, l2, l3, l4, l5, l6, l7] (.ref a0 :: st) h x = mAft (mW ro mTab) (mHd mM_240) 240 1096 [l0, l1, l2, l3, l4, l5, l6, l7] st (mW ro mTab 137 0 [some (.ref a0)] [] h x) := g_call rfl rfl rfl rfl rfl rfl (g_rcv rfl hr) hs
set_option maxRecDepth 100000 in
theorem e240_1099 {ro : Nat → Nat × (Nat → Int32)} {l0 l1 l2 l3 l4 l5 l7 : Option Value} {st : List Value} {h : List mCel} {x : Nat} {v : Int32} : mW ro mTab 240 1099 [l0, l1, l2, l3, l4, l5, (some (.int v)), l7] st h x = mW ro mTab 240 1101 [l0, l1, l2, l3, l4, l5, (some (.int v)), l7] (.int v :: st) h x := (g_step rfl rfl rfl rfl).trans rfl
set_option maxRecDepth 100000 in
theorem e240_1101 {ro : Nat → Nat × (Nat → Int32)} {l0 l1 l2 l3 l4 l5 l6 l7 : Option Value} {st : List Value} {h : List mCel} {x : Nat} {a b : Int32} : mW ro mTab 240 1101 [l0, l1, l2, l3, l4, l5, l6, l7] (.int b :: .int a :: st) h x = if a = b then mW ro mTab 240 1106 [l0, l1, l2, l3, l4, l5, l6, l7] st h x else mW ro mTab 240 1104 [l0, l1, l2, l3, l4, l5, l6, l7] st h x := g_icmp_eq rfl rfl rfl
set_option maxRecDepth 100000 in
theorem e240_1104 {ro : Nat → Nat × (Nat → Int32)} {l0 l1 l2 l3 l4 l5 l6 l7 : Option Value} {st : List Value} {h : List mCel} {x : Nat}  : mW ro mTab 240 1104 [l0, l1, l2, l3, l4, l5, l6, l7] st h x = mW ro mTab 240 1105 [l0, l1, l2, l3, l4, l5, l6, l7] (.int 0 :: st) h x := (g_step rfl rfl rfl rfl).trans rfl
set_option maxRecDepth 100000 in
theorem e240_1105 {ro : Nat → Nat × (Nat → Int32)} {l0 l1 l2 l3 l4 l5 l6 l7 : Option Value} {h : List mCel} {x : Nat} {v : Int32} (hv : v = 0 ∨ v = 1) : mW ro mTab 240 1105 [l0, l1, l2, l3, l4, l5, l6, l7] [.int v] h x = some (.inl (some (.int v)), h, x) := g_zret rfl rfl rfl hv
set_option maxRecDepth 100000 in
theorem e240_1106 {ro : Nat → Nat × (Nat → Int32)} {l0 l1 l2 l3 l4 l5 l7 : Option Value} {st : List Value} {h : List mCel} {x : Nat} {v : Int32} : mW ro mTab 240 1106 [l0, l1, l2, l3, l4, l5, (some (.int v)), l7] st h x = mW ro mTab 240 1108 [l0, l1, l2, l3, l4, l5, (some (.int v)), l7] (.int v :: st) h x := (g_step rfl rfl rfl rfl).trans rfl
set_option maxRecDepth 100000 in
theorem e240_1108 {ro : Nat → Nat × (Nat → Int32)} {l0 l1 l2 l3 l4 l5 l6 l7 : Option Value} {st : List Value} {h : List mCel} {x : Nat} {a : Int32} : mW ro mTab 240 1108 [l0, l1, l2, l3, l4, l5, l6, l7] (.int a :: st) h x = if ¬ a = 0 then mW ro mTab 240 1123 [l0, l1, l2, l3, l4, l5, l6, l7] st h x else mW ro mTab 240 1111 [l0, l1, l2, l3, l4, l5, l6, l7] st h x := g_if_ne rfl rfl rfl
set_option maxRecDepth 100000 in
theorem e240_1111 {ro : Nat → Nat × (Nat → Int32)} {l0 l1 l2 l4 l5 l6 l7 : Option Value} {st : List Value} {h : List mCel} {x : Nat} {v : Nat} : mW ro mTab 240 1111 [l0, l1, l2, (some (.ref v)), l4, l5, l6, l7] st h x = mW ro mTab 240 1112 [l0, l1, l2, (some (.ref v)), l4, l5, l6, l7] (.ref v :: st) h x := (g_step rfl rfl rfl rfl).trans rfl
set_option maxRecDepth 100000 in
theorem e240_1112 {ro : Nat → Nat × (Nat → Int32)} {l0 l1 l2 l3 l4 l5 l6 l7 : Option Value} {st : List Value} {h : List mCel} {x : Nat}  : mW ro mTab 240 1112 [l0, l1, l2, l3, l4, l5, l6, l7] st h x = mW ro mTab 240 1113 [l0, l1, l2, l3, l4, l5, l6, l7] (.int 0 :: st) h x := (g_step rfl rfl rfl rfl).trans rfl
set_option maxRecDepth 100000 in
theorem e240_1113 {ro : Nat → Nat × (Nat → Int32)} {l0 l1 l2 l3 l4 l5 l6 l7 : Option Value} {st : List Value} {h : List mCel} {x : Nat} {a : Nat} {j : Int32} : mW ro mTab 240 1113 [l0, l1, l2, l3, l4, l5, l6, l7] (.int j :: .ref a :: st) h x = kLA h a j fun v => mW ro mTab 240 1114 [l0, l1, l2, l3, l4, l5, l6, l7] (.long v :: st) h x := g_laload rfl rfl
set_option maxRecDepth 100000 in
theorem e240_1114 {ro : Nat → Nat × (Nat → Int32)} {l0 l1 l2 l3 l4 l5 l6 : Option Value} {st : List Value} {h : List mCel} {x : Nat} {v : Int32} : mW ro mTab 240 1114 [l0, l1, l2, l3, l4, l5, l6, (some (.int v))] st h x = mW ro mTab 240 1116 [l0, l1, l2, l3, l4, l5, l6, (some (.int v))] (.int v :: st) h x := (g_step rfl rfl rfl rfl).trans rfl
set_option maxRecDepth 100000 in
theorem e240_1116 {ro : Nat → Nat × (Nat → Int32)} {l0 l1 l2 l3 l4 l5 l6 l7 : Option Value} {st : List Value} {h : List mCel} {x : Nat} {a : Int32} : mW ro mTab 240 1116 [l0, l1, l2, l3, l4, l5, l6, l7] (.int a :: st) h x = mW ro mTab 240 1117 [l0, l1, l2, l3, l4, l5, l6, l7] (.long a.toInt64 :: st) h x := (g_step rfl rfl rfl rfl).trans rfl
set_option maxRecDepth 100000 in
theorem e240_1117 {ro : Nat → Nat × (Nat → Int32)} {l0 l1 l2 l3 l4 l5 l6 l7 : Option Value} {st : List Value} {h : List mCel} {x : Nat} {a b : Int64} : mW ro mTab 240 1117 [l0, l1, l2, l3, l4, l5, l6, l7] (.long b :: .long a :: st) h x = mW ro mTab 240 1118 [l0, l1, l2, l3, l4, l5, l6, l7] (.int (lg_cmp a b) :: st) h x := (g_step rfl rfl rfl rfl).trans rfl
set_option maxRecDepth 100000 in
theorem e240_1118 {ro : Nat → Nat × (Nat → Int32)} {l0 l1 l2 l3 l4 l5 l6 l7 : Option Value} {st : List Value} {h : List mCel} {x : Nat} {a : Int32} : mW ro mTab 240 1118 [l0, l1, l2, l3, l4, l5, l6, l7] (.int a :: st) h x = if a = 0 then mW ro mTab 240 1123 [l0, l1, l2, l3, l4, l5, l6, l7] st h x else mW ro mTab 240 1121 [l0, l1, l2, l3, l4, l5, l6, l7] st h x := g_if_eq rfl rfl rfl
set_option maxRecDepth 100000 in
theorem e240_1121 {ro : Nat → Nat × (Nat → Int32)} {l0 l1 l2 l3 l4 l5 l6 l7 : Option Value} {st : List Value} {h : List mCel} {x : Nat}  : mW ro mTab 240 1121 [l0, l1, l2, l3, l4, l5, l6, l7] st h x = mW ro mTab 240 1122 [l0, l1, l2, l3, l4, l5, l6, l7] (.int 0 :: st) h x := (g_step rfl rfl rfl rfl).trans rfl
set_option maxRecDepth 100000 in
theorem e240_1122 {ro : Nat → Nat × (Nat → Int32)} {l0 l1 l2 l3 l4 l5 l6 l7 : Option Value} {h : List mCel} {x : Nat} {v : Int32} (hv : v = 0 ∨ v = 1) : mW ro mTab 240 1122 [l0, l1, l2, l3, l4, l5, l6, l7] [.int v] h x = some (.inl (some (.int v)), h, x) := g_zret rfl rfl rfl hv
set_option maxRecDepth 100000 in
theorem e240_1123 {ro : Nat → Nat × (Nat → Int32)} {l0 l1 l2 l3 l4 l5 l6 l7 : Option Value} {st : List Value} {h : List mCel} {x : Nat}  : mW ro mTab 240 1123 [l0, l1, l2, l3, l4, l5, l6, l7] st h x = mW ro mTab 240 1980 [l0, l1, l2, l3, l4, l5, l6, l7] st h x := (g_step rfl rfl rfl rfl).trans rfl
set_option maxRecDepth 100000 in
theorem e240_1126 {ro : Nat → Nat × (Nat → Int32)} {l0 l2 l3 l4 l5 l6 l7 : Option Value} {st : List Value} {h : List mCel} {x : Nat} {v : Nat} : mW ro mTab 240 1126 [l0, (some (.ref v)), l2, l3, l4, l5, l6, l7] st h x = mW ro mTab 240 1127 [l0, (some (.ref v)), l2, l3, l4, l5, l6, l7] (.ref v :: st) h x := (g_step rfl rfl rfl rfl).trans rfl
set_option maxRecDepth 100000 in
theorem e240_1127 {ro : Nat → Nat × (Nat → Int32)} {l1 l2 l3 l4 l5 l6 l7 : Option Value} {st : List Value} {h : List mCel} {x : Nat} {v : Nat} : mW ro mTab 240 1127 [(some (.ref v)), l1, l2, l3, l4, l5, l6, l7] st h x = mW ro mTab 240 1128 [(some (.ref v)), l1, l2, l3, l4, l5, l6, l7] (.ref v :: st) h x := (g_step rfl rfl rfl rfl).trans rfl
set_option maxRecDepth 100000 in
theorem e240_1128 {ro : Nat → Nat × (Nat → Int32)} {l0 l1 l2 l3 l4 l6 l7 : Option Value} {st : List Value} {h : List mCel} {x : Nat} {v : Int32} : mW ro mTab 240 1128 [l0, l1, l2, l3, l4, (some (.int v)), l6, l7] st h x = mW ro mTab 240 1130 [l0, l1, l2, l3, l4, (some (.int v)), l6, l7] (.int v :: st) h x := (g_step rfl rfl rfl rfl).trans rfl
set_option maxRecDepth 100000 in
theorem e240_1130 {ro : Nat → Nat × (Nat → Int32)} {l0 l1 l2 l3 l4 l5 l6 l7 : Option Value} {st : List Value} {h : List mCel} {x : Nat}  : mW ro mTab 240 1130 [l0, l1, l2, l3, l4, l5, l6, l7] st h x = mW ro mTab 240 1131 [l0, l1, l2, l3, l4, l5, l6, l7] (.int 1 :: st) h x := (g_step rfl rfl rfl rfl).trans rfl
set_option maxRecDepth 100000 in
theorem e240_1131 {ro : Nat → Nat × (Nat → Int32)} {l0 l1 l2 l3 l4 l5 l6 l7 : Option Value} {st : List Value} {h : List mCel} {x : Nat} {a b : Int32} : mW ro mTab 240 1131 [l0, l1, l2, l3, l4, l5, l6, l7] (.int b :: .int a :: st) h x = mW ro mTab 240 1132 [l0, l1, l2, l3, l4, l5, l6, l7] (.int (a + b) :: st) h x := (g_step rfl rfl rfl rfl).trans rfl
set_option maxRecDepth 100000 in
theorem e240_1132 {ro : Nat → Nat × (Nat → Int32)} {l0 l1 l2 l3 l4 l5 l6 l7 : Option Value} {st : List Value} {h : List mCel} {x : Nat} {a : Nat} {j : Int32} : mW ro mTab 240 1132 [l0, l1, l2, l3, l4, l5, l6, l7] (.int j :: .ref a :: st) h x = kIA ro h a j fun v => mW ro mTab 240 1133 [l0, l1, l2, l3, l4, l5, l6, l7] (.int v :: st) h x := g_iaload rfl rfl
set_option maxRecDepth 100000 in
theorem e240_1133 {ro : Nat → Nat × (Nat → Int32)} {l1 l2 l3 l4 l5 l6 l7 : Option Value} {st : List Value} {h : List mCel} {x : Nat} {v : Nat} : mW ro mTab 240 1133 [(some (.ref v)), l1, l2, l3, l4, l5, l6, l7] st h x = mW ro mTab 240 1134 [(some (.ref v)), l1, l2, l3, l4, l5, l6, l7] (.ref v :: st) h x := (g_step rfl rfl rfl rfl).trans rfl
set_option maxRecDepth 100000 in
theorem e240_1134 {ro : Nat → Nat × (Nat → Int32)} {l0 l1 l2 l3 l4 l6 l7 : Option Value} {st : List Value} {h : List mCel} {x : Nat} {v : Int32} : mW ro mTab 240 1134 [l0, l1, l2, l3, l4, (some (.int v)), l6, l7] st h x = mW ro mTab 240 1136 [l0, l1, l2, l3, l4, (some (.int v)), l6, l7] (.int v :: st) h x := (g_step rfl rfl rfl rfl).trans rfl
set_option maxRecDepth 100000 in
theorem e240_1136 {ro : Nat → Nat × (Nat → Int32)} {l0 l1 l2 l3 l4 l5 l6 l7 : Option Value} {st : List Value} {h : List mCel} {x : Nat}  : mW ro mTab 240 1136 [l0, l1, l2, l3, l4, l5, l6, l7] st h x = mW ro mTab 240 1137 [l0, l1, l2, l3, l4, l5, l6, l7] (.int 2 :: st) h x := (g_step rfl rfl rfl rfl).trans rfl
set_option maxRecDepth 100000 in
theorem e240_1137 {ro : Nat → Nat × (Nat → Int32)} {l0 l1 l2 l3 l4 l5 l6 l7 : Option Value} {st : List Value} {h : List mCel} {x : Nat} {a b : Int32} : mW ro mTab 240 1137 [l0, l1, l2, l3, l4, l5, l6, l7] (.int b :: .int a :: st) h x = mW ro mTab 240 1138 [l0, l1, l2, l3, l4, l5, l6, l7] (.int (a + b) :: st) h x := (g_step rfl rfl rfl rfl).trans rfl
set_option maxRecDepth 100000 in
theorem e240_1138 {ro : Nat → Nat × (Nat → Int32)} {l0 l1 l2 l3 l4 l5 l6 l7 : Option Value} {st : List Value} {h : List mCel} {x : Nat} {a : Nat} {j : Int32} : mW ro mTab 240 1138 [l0, l1, l2, l3, l4, l5, l6, l7] (.int j :: .ref a :: st) h x = kIA ro h a j fun v => mW ro mTab 240 1139 [l0, l1, l2, l3, l4, l5, l6, l7] (.int v :: st) h x := g_iaload rfl rfl
set_option maxRecDepth 100000 in
theorem e240_1139 {ro : Nat → Nat × (Nat → Int32)} {l1 l2 l3 l4 l5 l6 l7 : Option Value} {st : List Value} {h : List mCel} {x : Nat} {v : Nat} : mW ro mTab 240 1139 [(some (.ref v)), l1, l2, l3, l4, l5, l6, l7] st h x = mW ro mTab 240 1140 [(some (.ref v)), l1, l2, l3, l4, l5, l6, l7] (.ref v :: st) h x := (g_step rfl rfl rfl rfl).trans rfl
set_option maxRecDepth 100000 in
theorem e240_1140 {ro : Nat → Nat × (Nat → Int32)} {l0 l1 l2 l3 l4 l6 l7 : Option Value} {st : List Value} {h : List mCel} {x : Nat} {v : Int32} : mW ro mTab 240 1140 [l0, l1, l2, l3, l4, (some (.int v)), l6, l7] st h x = mW ro mTab 240 1142 [l0, l1, l2, l3, l4, (some (.int v)), l6, l7] (.int v :: st) h x := (g_step rfl rfl rfl rfl).trans rfl
set_option maxRecDepth 100000 in
theorem e240_1142 {ro : Nat → Nat × (Nat → Int32)} {l0 l1 l2 l3 l4 l5 l6 l7 : Option Value} {st : List Value} {h : List mCel} {x : Nat}  : mW ro mTab 240 1142 [l0, l1, l2, l3, l4, l5, l6, l7] st h x = mW ro mTab 240 1143 [l0, l1, l2, l3, l4, l5, l6, l7] (.int 3 :: st) h x := (g_step rfl rfl rfl rfl).trans rfl
set_option maxRecDepth 100000 in
theorem e240_1143 {ro : Nat → Nat × (Nat → Int32)} {l0 l1 l2 l3 l4 l5 l6 l7 : Option Value} {st : List Value} {h : List mCel} {x : Nat} {a b : Int32} : mW ro mTab 240 1143 [l0, l1, l2, l3, l4, l5, l6, l7] (.int b :: .int a :: st) h x = mW ro mTab 240 1144 [l0, l1, l2, l3, l4, l5, l6, l7] (.int (a + b) :: st) h x := (g_step rfl rfl rfl rfl).trans rfl
set_option maxRecDepth 100000 in
theorem e240_1144 {ro : Nat → Nat × (Nat → Int32)} {l0 l1 l2 l3 l4 l5 l6 l7 : Option Value} {st : List Value} {h : List mCel} {x : Nat} {a : Nat} {j : Int32} : mW ro mTab 240 1144 [l0, l1, l2, l3, l4, l5, l6, l7] (.int j :: .ref a :: st) h x = kIA ro h a j fun v => mW ro mTab 240 1145 [l0, l1, l2, l3, l4, l5, l6, l7] (.int v :: st) h x := g_iaload rfl rfl
set_option maxRecDepth 100000 in
theorem e240_1145 {ro : Nat → Nat × (Nat → Int32)} {l1 l2 l3 l4 l5 l6 l7 : Option Value} {st : List Value} {h : List mCel} {x : Nat} {v : Nat} : mW ro mTab 240 1145 [(some (.ref v)), l1, l2, l3, l4, l5, l6, l7] st h x = mW ro mTab 240 1146 [(some (.ref v)), l1, l2, l3, l4, l5, l6, l7] (.ref v :: st) h x := (g_step rfl rfl rfl rfl).trans rfl
set_option maxRecDepth 100000 in
theorem e240_1146 {ro : Nat → Nat × (Nat → Int32)} {l0 l1 l2 l3 l4 l6 l7 : Option Value} {st : List Value} {h : List mCel} {x : Nat} {v : Int32} : mW ro mTab 240 1146 [l0, l1, l2, l3, l4, (some (.int v)), l6, l7] st h x = mW ro mTab 240 1148 [l0, l1, l2, l3, l4, (some (.int v)), l6, l7] (.int v :: st) h x := (g_step rfl rfl rfl rfl).trans rfl
set_option maxRecDepth 100000 in
theorem e240_1148 {ro : Nat → Nat × (Nat → Int32)} {l0 l1 l2 l3 l4 l5 l6 l7 : Option Value} {st : List Value} {h : List mCel} {x : Nat}  : mW ro mTab 240 1148 [l0, l1, l2, l3, l4, l5, l6, l7] st h x = mW ro mTab 240 1149 [l0, l1, l2, l3, l4, l5, l6, l7] (.int 4 :: st) h x := (g_step rfl rfl rfl rfl).trans rfl
set_option maxRecDepth 100000 in
theorem e240_1149 {ro : Nat → Nat × (Nat → Int32)} {l0 l1 l2 l3 l4 l5 l6 l7 : Option Value} {st : List Value} {h : List mCel} {x : Nat} {a b : Int32} : mW ro mTab 240 1149 [l0, l1, l2, l3, l4, l5, l6, l7] (.int b :: .int a :: st) h x = mW ro mTab 240 1150 [l0, l1, l2, l3, l4, l5, l6, l7] (.int (a + b) :: st) h x := (g_step rfl rfl rfl rfl).trans rfl
set_option maxRecDepth 100000 in
theorem e240_1150 {ro : Nat → Nat × (Nat → Int32)} {l0 l1 l2 l3 l4 l5 l6 l7 : Option Value} {st : List Value} {h : List mCel} {x : Nat} {a : Nat} {j : Int32} : mW ro mTab 240 1150 [l0, l1, l2, l3, l4, l5, l6, l7] (.int j :: .ref a :: st) h x = kIA ro h a j fun v => mW ro mTab 240 1151 [l0, l1, l2, l3, l4, l5, l6, l7] (.int v :: st) h x := g_iaload rfl rfl
set_option maxRecDepth 100000 in
theorem e240_1151 {ro : Nat → Nat × (Nat → Int32)} {l1 l2 l3 l4 l5 l6 l7 : Option Value} {st : List Value} {h : List mCel} {x : Nat} {v : Nat} : mW ro mTab 240 1151 [(some (.ref v)), l1, l2, l3, l4, l5, l6, l7] st h x = mW ro mTab 240 1152 [(some (.ref v)), l1, l2, l3, l4, l5, l6, l7] (.ref v :: st) h x := (g_step rfl rfl rfl rfl).trans rfl
set_option maxRecDepth 100000 in
theorem e240_1152 {ro : Nat → Nat × (Nat → Int32)} {l0 l1 l2 l3 l4 l6 l7 : Option Value} {st : List Value} {h : List mCel} {x : Nat} {v : Int32} : mW ro mTab 240 1152 [l0, l1, l2, l3, l4, (some (.int v)), l6, l7] st h x = mW ro mTab 240 1154 [l0, l1, l2, l3, l4, (some (.int v)), l6, l7] (.int v :: st) h x := (g_step rfl rfl rfl rfl).trans rfl
set_option maxRecDepth 100000 in
theorem e240_1154 {ro : Nat → Nat × (Nat → Int32)} {l0 l1 l2 l3 l4 l5 l6 l7 : Option Value} {st : List Value} {h : List mCel} {x : Nat}  : mW ro mTab 240 1154 [l0, l1, l2, l3, l4, l5, l6, l7] st h x = mW ro mTab 240 1155 [l0, l1, l2, l3, l4, l5, l6, l7] (.int 5 :: st) h x := (g_step rfl rfl rfl rfl).trans rfl
set_option maxRecDepth 100000 in
theorem e240_1155 {ro : Nat → Nat × (Nat → Int32)} {l0 l1 l2 l3 l4 l5 l6 l7 : Option Value} {st : List Value} {h : List mCel} {x : Nat} {a b : Int32} : mW ro mTab 240 1155 [l0, l1, l2, l3, l4, l5, l6, l7] (.int b :: .int a :: st) h x = mW ro mTab 240 1156 [l0, l1, l2, l3, l4, l5, l6, l7] (.int (a + b) :: st) h x := (g_step rfl rfl rfl rfl).trans rfl
set_option maxRecDepth 100000 in
theorem e240_1156 {ro : Nat → Nat × (Nat → Int32)} {l0 l1 l2 l3 l4 l5 l6 l7 : Option Value} {st : List Value} {h : List mCel} {x : Nat} {a : Nat} {j : Int32} : mW ro mTab 240 1156 [l0, l1, l2, l3, l4, l5, l6, l7] (.int j :: .ref a :: st) h x = kIA ro h a j fun v => mW ro mTab 240 1157 [l0, l1, l2, l3, l4, l5, l6, l7] (.int v :: st) h x := g_iaload rfl rfl
set_option maxRecDepth 100000 in
theorem e240_1157 {ro : Nat → Nat × (Nat → Int32)} {l1 l2 l3 l4 l5 l6 l7 : Option Value} {st : List Value} {h : List mCel} {x : Nat} {v : Nat} : mW ro mTab 240 1157 [(some (.ref v)), l1, l2, l3, l4, l5, l6, l7] st h x = mW ro mTab 240 1158 [(some (.ref v)), l1, l2, l3, l4, l5, l6, l7] (.ref v :: st) h x := (g_step rfl rfl rfl rfl).trans rfl
set_option maxRecDepth 100000 in
theorem e240_1158 {ro : Nat → Nat × (Nat → Int32)} {l0 l1 l2 l3 l4 l6 l7 : Option Value} {st : List Value} {h : List mCel} {x : Nat} {v : Int32} : mW ro mTab 240 1158 [l0, l1, l2, l3, l4, (some (.int v)), l6, l7] st h x = mW ro mTab 240 1160 [l0, l1, l2, l3, l4, (some (.int v)), l6, l7] (.int v :: st) h x := (g_step rfl rfl rfl rfl).trans rfl
set_option maxRecDepth 100000 in
theorem e240_1160 {ro : Nat → Nat × (Nat → Int32)} {l0 l1 l2 l3 l4 l5 l6 l7 : Option Value} {st : List Value} {h : List mCel} {x : Nat}  : mW ro mTab 240 1160 [l0, l1, l2, l3, l4, l5, l6, l7] st h x = mW ro mTab 240 1162 [l0, l1, l2, l3, l4, l5, l6, l7] (.int 6 :: st) h x := (g_step rfl rfl rfl rfl).trans rfl
set_option maxRecDepth 100000 in
theorem e240_1162 {ro : Nat → Nat × (Nat → Int32)} {l0 l1 l2 l3 l4 l5 l6 l7 : Option Value} {st : List Value} {h : List mCel} {x : Nat} {a b : Int32} : mW ro mTab 240 1162 [l0, l1, l2, l3, l4, l5, l6, l7] (.int b :: .int a :: st) h x = mW ro mTab 240 1163 [l0, l1, l2, l3, l4, l5, l6, l7] (.int (a + b) :: st) h x := (g_step rfl rfl rfl rfl).trans rfl
set_option maxRecDepth 100000 in
theorem e240_1163 {ro : Nat → Nat × (Nat → Int32)} {l0 l1 l2 l3 l4 l5 l6 l7 : Option Value} {st : List Value} {h : List mCel} {x : Nat} {a : Nat} {j : Int32} : mW ro mTab 240 1163 [l0, l1, l2, l3, l4, l5, l6, l7] (.int j :: .ref a :: st) h x = kIA ro h a j fun v => mW ro mTab 240 1164 [l0, l1, l2, l3, l4, l5, l6, l7] (.int v :: st) h x := g_iaload rfl rfl
set_option maxRecDepth 100000 in
theorem e240_1164 {ro : Nat → Nat × (Nat → Int32)} {l1 l2 l3 l4 l5 l6 l7 : Option Value} {st : List Value} {h : List mCel} {x : Nat} {v : Nat} : mW ro mTab 240 1164 [(some (.ref v)), l1, l2, l3, l4, l5, l6, l7] st h x = mW ro mTab 240 1165 [(some (.ref v)), l1, l2, l3, l4, l5, l6, l7] (.ref v :: st) h x := (g_step rfl rfl rfl rfl).trans rfl
set_option maxRecDepth 100000 in
theorem e240_1165 {ro : Nat → Nat × (Nat → Int32)} {l0 l1 l2 l3 l4 l6 l7 : Option Value} {st : List Value} {h : List mCel} {x : Nat} {v : Int32} : mW ro mTab 240 1165 [l0, l1, l2, l3, l4, (some (.int v)), l6, l7] st h x = mW ro mTab 240 1167 [l0, l1, l2, l3, l4, (some (.int v)), l6, l7] (.int v :: st) h x := (g_step rfl rfl rfl rfl).trans rfl
set_option maxRecDepth 100000 in
theorem e240_1167 {ro : Nat → Nat × (Nat → Int32)} {l0 l1 l2 l3 l4 l5 l6 l7 : Option Value} {st : List Value} {h : List mCel} {x : Nat}  : mW ro mTab 240 1167 [l0, l1, l2, l3, l4, l5, l6, l7] st h x = mW ro mTab 240 1169 [l0, l1, l2, l3, l4, l5, l6, l7] (.int 7 :: st) h x := (g_step rfl rfl rfl rfl).trans rfl
set_option maxRecDepth 100000 in
theorem e240_1169 {ro : Nat → Nat × (Nat → Int32)} {l0 l1 l2 l3 l4 l5 l6 l7 : Option Value} {st : List Value} {h : List mCel} {x : Nat} {a b : Int32} : mW ro mTab 240 1169 [l0, l1, l2, l3, l4, l5, l6, l7] (.int b :: .int a :: st) h x = mW ro mTab 240 1170 [l0, l1, l2, l3, l4, l5, l6, l7] (.int (a + b) :: st) h x := (g_step rfl rfl rfl rfl).trans rfl
set_option maxRecDepth 100000 in
theorem e240_1170 {ro : Nat → Nat × (Nat → Int32)} {l0 l1 l2 l3 l4 l5 l6 l7 : Option Value} {st : List Value} {h : List mCel} {x : Nat} {a : Nat} {j : Int32} : mW ro mTab 240 1170 [l0, l1, l2, l3, l4, l5, l6, l7] (.int j :: .ref a :: st) h x = kIA ro h a j fun v => mW ro mTab 240 1171 [l0, l1, l2, l3, l4, l5, l6, l7] (.int v :: st) h x := g_iaload rfl rfl
set_option maxRecDepth 100000 in
theorem e240_1171 {ro : Nat → Nat × (Nat → Int32)} {l0 l1 l2 l3 l4 l5 l6 l7 : Option Value} {st : List Value} {h : List mCel} {x : Nat} {a : Int32} : mW ro mTab 240 1171 [l0, l1, l2, l3, l4, l5, l6, l7] (.int a :: st) h x = if a = 0 then mW ro mTab 240 1178 [l0, l1, l2, l3, l4, l5, l6, l7] st h x else mW ro mTab 240 1174 [l0, l1, l2, l3, l4, l5, l6, l7] st h x := g_if_eq rfl rfl rfl
set_option maxRecDepth 100000 in
theorem e240_1174 {ro : Nat → Nat × (Nat → Int32)} {l0 l1 l2 l3 l4 l5 l6 l7 : Option Value} {st : List Value} {h : List mCel} {x : Nat}  : mW ro mTab 240 1174 [l0, l1, l2, l3, l4, l5, l6, l7] st h x = mW ro mTab 240 1175 [l0, l1, l2, l3, l4, l5, l6, l7] (.int 1 :: st) h x := (g_step rfl rfl rfl rfl).trans rfl
set_option maxRecDepth 100000 in
theorem e240_1175 {ro : Nat → Nat × (Nat → Int32)} {l0 l1 l2 l3 l4 l5 l6 l7 : Option Value} {st : List Value} {h : List mCel} {x : Nat}  : mW ro mTab 240 1175 [l0, l1, l2, l3, l4, l5, l6, l7] st h x = mW ro mTab 240 1179 [l0, l1, l2, l3, l4, l5, l6, l7] st h x := (g_step rfl rfl rfl rfl).trans rfl
set_option maxRecDepth 100000 in
theorem e240_1178 {ro : Nat → Nat × (Nat → Int32)} {l0 l1 l2 l3 l4 l5 l6 l7 : Option Value} {st : List Value} {h : List mCel} {x : Nat}  : mW ro mTab 240 1178 [l0, l1, l2, l3, l4, l5, l6, l7] st h x = mW ro mTab 240 1179 [l0, l1, l2, l3, l4, l5, l6, l7] (.int 0 :: st) h x := (g_step rfl rfl rfl rfl).trans rfl
set_option maxRecDepth 100000 in
theorem e240_1179 {ro : Nat → Nat × (Nat → Int32)} {l0 l1 l2 l4 l5 l6 l7 : Option Value} {st : List Value} {h : List mCel} {x : Nat} {v : Nat} : mW ro mTab 240 1179 [l0, l1, l2, (some (.ref v)), l4, l5, l6, l7] st h x = mW ro mTab 240 1180 [l0, l1, l2, (some (.ref v)), l4, l5, l6, l7] (.ref v :: st) h x := (g_step rfl rfl rfl rfl).trans rfl
set_option maxRecDepth 100000 in
theorem e240_1180 {ro : Nat → Nat × (Nat → Int32)} {l0 l1 l2 l3 l4 l5 l6 l7 : Option Value} {st : List Value} {h : List mCel} {x : Nat} {a0 : Nat} {a1 : Int32} {a2 : Int32} {a3 : Int32} {a4 : Int32} {a5 : Int32} {a6 : Int32} {a7 : Int32} {a8 : Nat} (hs : (st.map Value.category).sum ≤ 8) : mW ro mTab 240 1180 [l0, l1, l2, l3, l4, l5, l6, l7] (.ref a8 :: .int a7 :: .int a6 :: .int a5 :: .int a4 :: .int a3 :: .int a2 :: .int a1 :: .ref a0 :: st) h x = mAft (mW ro mTab) (mHd mM_240) 240 1180 [l0, l1, l2, l3, l4, l5, l6, l7] st (mW ro mTab 244 0 [some (.ref a0), some (.int a1), some (.int a2), some (.int a3), some (.int a4), some (.int a5), some (.int a6), some (.int a7), some (.ref a8), none] [] h x) := g_call rfl rfl rfl rfl rfl rfl rfl hs
set_option maxRecDepth 100000 in
theorem e240_1183 {ro : Nat → Nat × (Nat → Int32)} {l0 l1 l2 l3 l4 l5 l6 l7 : Option Value} {st : List Value} {h : List mCel} {x : Nat} {v : Int32} : mW ro mTab 240 1183 [l0, l1, l2, l3, l4, l5, l6, l7] (.int v :: st) h x = mW ro mTab 240 1185 [l0, l1, l2, l3, l4, l5, (some (.int v)), l7] st h x := (g_step rfl rfl rfl rfl).trans rfl
set_option maxRecDepth 100000 in
theorem e240_1185 {ro : Nat → Nat × (Nat → Int32)} {l0 l1 l3 l4 l5 l6 l7 : Option Value} {st : List Value} {h : List mCel} {x : Nat} {v : Nat} : mW ro mTab 240 1185 [l0, l1, (some (.ref v)), l3, l4, l5, l6, l7] st h x = mW ro mTab 240 1186 [l0, l1, (some (.ref v)), l3, l4, l5, l6, l7] (.ref v :: st) h x := (g_step rfl rfl rfl rfl).trans rfl
set_option maxRecDepth 100000 in
theorem e240_1186 {ro : Nat → Nat × (Nat → Int32)} {l1 l2 l3 l4 l5 l6 l7 : Option Value} {st : List Value} {h : List mCel} {x : Nat} {v : Nat} : mW ro mTab 240 1186 [(some (.ref v)), l1, l2, l3, l4, l5, l6, l7] st h x = mW ro mTab 240 1187 [(some (.ref v)), l1, l2, l3, l4, l5, l6, l7] (.ref v :: st) h x := (g_step rfl rfl rfl rfl).trans rfl
set_option maxRecDepth 100000 in
theorem e240_1187 {ro : Nat → Nat × (Nat → Int32)} {l0 l1 l2 l3 l4 l6 l7 : Option Value} {st : List Value} {h : List mCel} {x : Nat} {v : Int32} : mW ro mTab 240 1187 [l0, l1, l2, l3, l4, (some (.int v)), l6, l7] st h x = mW ro mTab 240 1189 [l0, l1, l2, l3, l4, (some (.int v)), l6, l7] (.int v :: st) h x := (g_step rfl rfl rfl rfl).trans rfl
set_option maxRecDepth 100000 in
theorem e240_1189 {ro : Nat → Nat × (Nat → Int32)} {l0 l1 l2 l3 l4 l5 l6 l7 : Option Value} {st : List Value} {h : List mCel} {x : Nat}  : mW ro mTab 240 1189 [l0, l1, l2, l3, l4, l5, l6, l7] st h x = mW ro mTab 240 1190 [l0, l1, l2, l3, l4, l5, l6, l7] (.int 1 :: st) h x := (g_step rfl rfl rfl rfl).trans rfl
set_option maxRecDepth 100000 in
theorem e240_1190 {ro : Nat → Nat × (Nat → Int32)} {l0 l1 l2 l3 l4 l5 l6 l7 : Option Value} {st : List Value} {h : List mCel} {x : Nat} {a b : Int32} : mW ro mTab 240 1190 [l0, l1, l2, l3, l4, l5, l6, l7] (.int b :: .int a :: st) h x = mW ro mTab 240 1191 [l0, l1, l2, l3, l4, l5, l6, l7] (.int (a + b) :: st) h x := (g_step rfl rfl rfl rfl).trans rfl
set_option maxRecDepth 100000 in
theorem e240_1191 {ro : Nat → Nat × (Nat → Int32)} {l0 l1 l2 l3 l4 l5 l6 l7 : Option Value} {st : List Value} {h : List mCel} {x : Nat} {a : Nat} {j : Int32} : mW ro mTab 240 1191 [l0, l1, l2, l3, l4, l5, l6, l7] (.int j :: .ref a :: st) h x = kIA ro h a j fun v => mW ro mTab 240 1192 [l0, l1, l2, l3, l4, l5, l6, l7] (.int v :: st) h x := g_iaload rfl rfl
set_option maxRecDepth 100000 in
theorem e240_1192 {ro : Nat → Nat × (Nat → Int32)} {l1 l2 l3 l4 l5 l6 l7 : Option Value} {st : List Value} {h : List mCel} {x : Nat} {v : Nat} : mW ro mTab 240 1192 [(some (.ref v)), l1, l2, l3, l4, l5, l6, l7] st h x = mW ro mTab 240 1193 [(some (.ref v)), l1, l2, l3, l4, l5, l6, l7] (.ref v :: st) h x := (g_step rfl rfl rfl rfl).trans rfl
set_option maxRecDepth 100000 in
theorem e240_1193 {ro : Nat → Nat × (Nat → Int32)} {l0 l1 l2 l3 l4 l6 l7 : Option Value} {st : List Value} {h : List mCel} {x : Nat} {v : Int32} : mW ro mTab 240 1193 [l0, l1, l2, l3, l4, (some (.int v)), l6, l7] st h x = mW ro mTab 240 1195 [l0, l1, l2, l3, l4, (some (.int v)), l6, l7] (.int v :: st) h x := (g_step rfl rfl rfl rfl).trans rfl
set_option maxRecDepth 100000 in
theorem e240_1195 {ro : Nat → Nat × (Nat → Int32)} {l0 l1 l2 l3 l4 l5 l6 l7 : Option Value} {st : List Value} {h : List mCel} {x : Nat}  : mW ro mTab 240 1195 [l0, l1, l2, l3, l4, l5, l6, l7] st h x = mW ro mTab 240 1196 [l0, l1, l2, l3, l4, l5, l6, l7] (.int 2 :: st) h x := (g_step rfl rfl rfl rfl).trans rfl
set_option maxRecDepth 100000 in
theorem e240_1196 {ro : Nat → Nat × (Nat → Int32)} {l0 l1 l2 l3 l4 l5 l6 l7 : Option Value} {st : List Value} {h : List mCel} {x : Nat} {a b : Int32} : mW ro mTab 240 1196 [l0, l1, l2, l3, l4, l5, l6, l7] (.int b :: .int a :: st) h x = mW ro mTab 240 1197 [l0, l1, l2, l3, l4, l5, l6, l7] (.int (a + b) :: st) h x := (g_step rfl rfl rfl rfl).trans rfl
set_option maxRecDepth 100000 in
theorem e240_1197 {ro : Nat → Nat × (Nat → Int32)} {l0 l1 l2 l3 l4 l5 l6 l7 : Option Value} {st : List Value} {h : List mCel} {x : Nat} {a : Nat} {j : Int32} : mW ro mTab 240 1197 [l0, l1, l2, l3, l4, l5, l6, l7] (.int j :: .ref a :: st) h x = kIA ro h a j fun v => mW ro mTab 240 1198 [l0, l1, l2, l3, l4, l5, l6, l7] (.int v :: st) h x := g_iaload rfl rfl
set_option maxRecDepth 100000 in
theorem e240_1198 {ro : Nat → Nat × (Nat → Int32)} {l1 l2 l3 l4 l5 l6 l7 : Option Value} {st : List Value} {h : List mCel} {x : Nat} {v : Nat} : mW ro mTab 240 1198 [(some (.ref v)), l1, l2, l3, l4, l5, l6, l7] st h x = mW ro mTab 240 1199 [(some (.ref v)), l1, l2, l3, l4, l5, l6, l7] (.ref v :: st) h x := (g_step rfl rfl rfl rfl).trans rfl
set_option maxRecDepth 100000 in
theorem e240_1199 {ro : Nat → Nat × (Nat → Int32)} {l0 l1 l2 l3 l4 l6 l7 : Option Value} {st : List Value} {h : List mCel} {x : Nat} {v : Int32} : mW ro mTab 240 1199 [l0, l1, l2, l3, l4, (some (.int v)), l6, l7] st h x = mW ro mTab 240 1201 [l0, l1, l2, l3, l4, (some (.int v)), l6, l7] (.int v :: st) h x := (g_step rfl rfl rfl rfl).trans rfl
set_option maxRecDepth 100000 in
theorem e240_1201 {ro : Nat → Nat × (Nat → Int32)} {l0 l1 l2 l3 l4 l5 l6 l7 : Option Value} {st : List Value} {h : List mCel} {x : Nat}  : mW ro mTab 240 1201 [l0, l1, l2, l3, l4, l5, l6, l7] st h x = mW ro mTab 240 1202 [l0, l1, l2, l3, l4, l5, l6, l7] (.int 3 :: st) h x := (g_step rfl rfl rfl rfl).trans rfl
set_option maxRecDepth 100000 in
theorem e240_1202 {ro : Nat → Nat × (Nat → Int32)} {l0 l1 l2 l3 l4 l5 l6 l7 : Option Value} {st : List Value} {h : List mCel} {x : Nat} {a b : Int32} : mW ro mTab 240 1202 [l0, l1, l2, l3, l4, l5, l6, l7] (.int b :: .int a :: st) h x = mW ro mTab 240 1203 [l0, l1, l2, l3, l4, l5, l6, l7] (.int (a + b) :: st) h x := (g_step rfl rfl rfl rfl).trans rfl
set_option maxRecDepth 100000 in
theorem e240_1203 {ro : Nat → Nat × (Nat → Int32)} {l0 l1 l2 l3 l4 l5 l6 l7 : Option Value} {st : List Value} {h : List mCel} {x : Nat} {a : Nat} {j : Int32} : mW ro mTab 240 1203 [l0, l1, l2, l3, l4, l5, l6, l7] (.int j :: .ref a :: st) h x = kIA ro h a j fun v => mW ro mTab 240 1204 [l0, l1, l2, l3, l4, l5, l6, l7] (.int v :: st) h x := g_iaload rfl rfl
set_option maxRecDepth 100000 in
theorem e240_1204 {ro : Nat → Nat × (Nat → Int32)} {l1 l2 l3 l4 l5 l6 l7 : Option Value} {st : List Value} {h : List mCel} {x : Nat} {v : Nat} : mW ro mTab 240 1204 [(some (.ref v)), l1, l2, l3, l4, l5, l6, l7] st h x = mW ro mTab 240 1205 [(some (.ref v)), l1, l2, l3, l4, l5, l6, l7] (.ref v :: st) h x := (g_step rfl rfl rfl rfl).trans rfl
set_option maxRecDepth 100000 in
theorem e240_1205 {ro : Nat → Nat × (Nat → Int32)} {l0 l1 l2 l3 l4 l6 l7 : Option Value} {st : List Value} {h : List mCel} {x : Nat} {v : Int32} : mW ro mTab 240 1205 [l0, l1, l2, l3, l4, (some (.int v)), l6, l7] st h x = mW ro mTab 240 1207 [l0, l1, l2, l3, l4, (some (.int v)), l6, l7] (.int v :: st) h x := (g_step rfl rfl rfl rfl).trans rfl
set_option maxRecDepth 100000 in
theorem e240_1207 {ro : Nat → Nat × (Nat → Int32)} {l0 l1 l2 l3 l4 l5 l6 l7 : Option Value} {st : List Value} {h : List mCel} {x : Nat}  : mW ro mTab 240 1207 [l0, l1, l2, l3, l4, l5, l6, l7] st h x = mW ro mTab 240 1208 [l0, l1, l2, l3, l4, l5, l6, l7] (.int 4 :: st) h x := (g_step rfl rfl rfl rfl).trans rfl
set_option maxRecDepth 100000 in
theorem e240_1208 {ro : Nat → Nat × (Nat → Int32)} {l0 l1 l2 l3 l4 l5 l6 l7 : Option Value} {st : List Value} {h : List mCel} {x : Nat} {a b : Int32} : mW ro mTab 240 1208 [l0, l1, l2, l3, l4, l5, l6, l7] (.int b :: .int a :: st) h x = mW ro mTab 240 1209 [l0, l1, l2, l3, l4, l5, l6, l7] (.int (a + b) :: st) h x := (g_step rfl rfl rfl rfl).trans rfl
set_option maxRecDepth 100000 in
theorem e240_1209 {ro : Nat → Nat × (Nat → Int32)} {l0 l1 l2 l3 l4 l5 l6 l7 : Option Value} {st : List Value} {h : List mCel} {x : Nat} {a : Nat} {j : Int32} : mW ro mTab 240 1209 [l0, l1, l2, l3, l4, l5, l6, l7] (.int j :: .ref a :: st) h x = kIA ro h a j fun v => mW ro mTab 240 1210 [l0, l1, l2, l3, l4, l5, l6, l7] (.int v :: st) h x := g_iaload rfl rfl
set_option maxRecDepth 100000 in
theorem e240_1210 {ro : Nat → Nat × (Nat → Int32)} {l1 l2 l3 l4 l5 l6 l7 : Option Value} {st : List Value} {h : List mCel} {x : Nat} {v : Nat} : mW ro mTab 240 1210 [(some (.ref v)), l1, l2, l3, l4, l5, l6, l7] st h x = mW ro mTab 240 1211 [(some (.ref v)), l1, l2, l3, l4, l5, l6, l7] (.ref v :: st) h x := (g_step rfl rfl rfl rfl).trans rfl
set_option maxRecDepth 100000 in
theorem e240_1211 {ro : Nat → Nat × (Nat → Int32)} {l0 l1 l2 l3 l4 l6 l7 : Option Value} {st : List Value} {h : List mCel} {x : Nat} {v : Int32} : mW ro mTab 240 1211 [l0, l1, l2, l3, l4, (some (.int v)), l6, l7] st h x = mW ro mTab 240 1213 [l0, l1, l2, l3, l4, (some (.int v)), l6, l7] (.int v :: st) h x := (g_step rfl rfl rfl rfl).trans rfl
set_option maxRecDepth 100000 in
theorem e240_1213 {ro : Nat → Nat × (Nat → Int32)} {l0 l1 l2 l3 l4 l5 l6 l7 : Option Value} {st : List Value} {h : List mCel} {x : Nat}  : mW ro mTab 240 1213 [l0, l1, l2, l3, l4, l5, l6, l7] st h x = mW ro mTab 240 1214 [l0, l1, l2, l3, l4, l5, l6, l7] (.int 5 :: st) h x := (g_step rfl rfl rfl rfl).trans rfl
set_option maxRecDepth 100000 in
theorem e240_1214 {ro : Nat → Nat × (Nat → Int32)} {l0 l1 l2 l3 l4 l5 l6 l7 : Option Value} {st : List Value} {h : List mCel} {x : Nat} {a b : Int32} : mW ro mTab 240 1214 [l0, l1, l2, l3, l4, l5, l6, l7] (.int b :: .int a :: st) h x = mW ro mTab 240 1215 [l0, l1, l2, l3, l4, l5, l6, l7] (.int (a + b) :: st) h x := (g_step rfl rfl rfl rfl).trans rfl
set_option maxRecDepth 100000 in
theorem e240_1215 {ro : Nat → Nat × (Nat → Int32)} {l0 l1 l2 l3 l4 l5 l6 l7 : Option Value} {st : List Value} {h : List mCel} {x : Nat} {a : Nat} {j : Int32} : mW ro mTab 240 1215 [l0, l1, l2, l3, l4, l5, l6, l7] (.int j :: .ref a :: st) h x = kIA ro h a j fun v => mW ro mTab 240 1216 [l0, l1, l2, l3, l4, l5, l6, l7] (.int v :: st) h x := g_iaload rfl rfl
set_option maxRecDepth 100000 in
theorem e240_1216 {ro : Nat → Nat × (Nat → Int32)} {l1 l2 l3 l4 l5 l6 l7 : Option Value} {st : List Value} {h : List mCel} {x : Nat} {v : Nat} : mW ro mTab 240 1216 [(some (.ref v)), l1, l2, l3, l4, l5, l6, l7] st h x = mW ro mTab 240 1217 [(some (.ref v)), l1, l2, l3, l4, l5, l6, l7] (.ref v :: st) h x := (g_step rfl rfl rfl rfl).trans rfl
set_option maxRecDepth 100000 in
theorem e240_1217 {ro : Nat → Nat × (Nat → Int32)} {l0 l1 l2 l3 l4 l6 l7 : Option Value} {st : List Value} {h : List mCel} {x : Nat} {v : Int32} : mW ro mTab 240 1217 [l0, l1, l2, l3, l4, (some (.int v)), l6, l7] st h x = mW ro mTab 240 1219 [l0, l1, l2, l3, l4, (some (.int v)), l6, l7] (.int v :: st) h x := (g_step rfl rfl rfl rfl).trans rfl
set_option maxRecDepth 100000 in
theorem e240_1219 {ro : Nat → Nat × (Nat → Int32)} {l0 l1 l2 l3 l4 l5 l6 l7 : Option Value} {st : List Value} {h : List mCel} {x : Nat}  : mW ro mTab 240 1219 [l0, l1, l2, l3, l4, l5, l6, l7] st h x = mW ro mTab 240 1221 [l0, l1, l2, l3, l4, l5, l6, l7] (.int 6 :: st) h x := (g_step rfl rfl rfl rfl).trans rfl
set_option maxRecDepth 100000 in
theorem e240_1221 {ro : Nat → Nat × (Nat → Int32)} {l0 l1 l2 l3 l4 l5 l6 l7 : Option Value} {st : List Value} {h : List mCel} {x : Nat} {a b : Int32} : mW ro mTab 240 1221 [l0, l1, l2, l3, l4, l5, l6, l7] (.int b :: .int a :: st) h x = mW ro mTab 240 1222 [l0, l1, l2, l3, l4, l5, l6, l7] (.int (a + b) :: st) h x := (g_step rfl rfl rfl rfl).trans rfl
set_option maxRecDepth 100000 in
theorem e240_1222 {ro : Nat → Nat × (Nat → Int32)} {l0 l1 l2 l3 l4 l5 l6 l7 : Option Value} {st : List Value} {h : List mCel} {x : Nat} {a : Nat} {j : Int32} : mW ro mTab 240 1222 [l0, l1, l2, l3, l4, l5, l6, l7] (.int j :: .ref a :: st) h x = kIA ro h a j fun v => mW ro mTab 240 1223 [l0, l1, l2, l3, l4, l5, l6, l7] (.int v :: st) h x := g_iaload rfl rfl
set_option maxRecDepth 100000 in
theorem e240_1223 {ro : Nat → Nat × (Nat → Int32)} {l1 l2 l3 l4 l5 l6 l7 : Option Value} {st : List Value} {h : List mCel} {x : Nat} {v : Nat} : mW ro mTab 240 1223 [(some (.ref v)), l1, l2, l3, l4, l5, l6, l7] st h x = mW ro mTab 240 1224 [(some (.ref v)), l1, l2, l3, l4, l5, l6, l7] (.ref v :: st) h x := (g_step rfl rfl rfl rfl).trans rfl
set_option maxRecDepth 100000 in
theorem e240_1224 {ro : Nat → Nat × (Nat → Int32)} {l0 l1 l2 l3 l4 l6 l7 : Option Value} {st : List Value} {h : List mCel} {x : Nat} {v : Int32} : mW ro mTab 240 1224 [l0, l1, l2, l3, l4, (some (.int v)), l6, l7] st h x = mW ro mTab 240 1226 [l0, l1, l2, l3, l4, (some (.int v)), l6, l7] (.int v :: st) h x := (g_step rfl rfl rfl rfl).trans rfl
set_option maxRecDepth 100000 in
theorem e240_1226 {ro : Nat → Nat × (Nat → Int32)} {l0 l1 l2 l3 l4 l5 l6 l7 : Option Value} {st : List Value} {h : List mCel} {x : Nat}  : mW ro mTab 240 1226 [l0, l1, l2, l3, l4, l5, l6, l7] st h x = mW ro mTab 240 1228 [l0, l1, l2, l3, l4, l5, l6, l7] (.int 7 :: st) h x := (g_step rfl rfl rfl rfl).trans rfl
set_option maxRecDepth 100000 in
theorem e240_1228 {ro : Nat → Nat × (Nat → Int32)} {l0 l1 l2 l3 l4 l5 l6 l7 : Option Value} {st : List Value} {h : List mCel} {x : Nat} {a b : Int32} : mW ro mTab 240 1228 [l0, l1, l2, l3, l4, l5, l6, l7] (.int b :: .int a :: st) h x = mW ro mTab 240 1229 [l0, l1, l2, l3, l4, l5, l6, l7] (.int (a + b) :: st) h x := (g_step rfl rfl rfl rfl).trans rfl
set_option maxRecDepth 100000 in
theorem e240_1229 {ro : Nat → Nat × (Nat → Int32)} {l0 l1 l2 l3 l4 l5 l6 l7 : Option Value} {st : List Value} {h : List mCel} {x : Nat} {a : Nat} {j : Int32} : mW ro mTab 240 1229 [l0, l1, l2, l3, l4, l5, l6, l7] (.int j :: .ref a :: st) h x = kIA ro h a j fun v => mW ro mTab 240 1230 [l0, l1, l2, l3, l4, l5, l6, l7] (.int v :: st) h x := g_iaload rfl rfl
set_option maxRecDepth 100000 in
theorem e240_1230 {ro : Nat → Nat × (Nat → Int32)} {l0 l1 l2 l3 l4 l5 l6 l7 : Option Value} {st : List Value} {h : List mCel} {x : Nat} {a : Int32} : mW ro mTab 240 1230 [l0, l1, l2, l3, l4, l5, l6, l7] (.int a :: st) h x = if a = 0 then mW ro mTab 240 1237 [l0, l1, l2, l3, l4, l5, l6, l7] st h x else mW ro mTab 240 1233 [l0, l1, l2, l3, l4, l5, l6, l7] st h x := g_if_eq rfl rfl rfl
set_option maxRecDepth 100000 in
theorem e240_1233 {ro : Nat → Nat × (Nat → Int32)} {l0 l1 l2 l3 l4 l5 l6 l7 : Option Value} {st : List Value} {h : List mCel} {x : Nat}  : mW ro mTab 240 1233 [l0, l1, l2, l3, l4, l5, l6, l7] st h x = mW ro mTab 240 1234 [l0, l1, l2, l3, l4, l5, l6, l7] (.int 1 :: st) h x := (g_step rfl rfl rfl rfl).trans rfl
set_option maxRecDepth 100000 in
theorem e240_1234 {ro : Nat → Nat × (Nat → Int32)} {l0 l1 l2 l3 l4 l5 l6 l7 : Option Value} {st : List Value} {h : List mCel} {x : Nat}  : mW ro mTab 240 1234 [l0, l1, l2, l3, l4, l5, l6, l7] st h x = mW ro mTab 240 1238 [l0, l1, l2, l3, l4, l5, l6, l7] st h x := (g_step rfl rfl rfl rfl).trans rfl
set_option maxRecDepth 100000 in
theorem e240_1237 {ro : Nat → Nat × (Nat → Int32)} {l0 l1 l2 l3 l4 l5 l6 l7 : Option Value} {st : List Value} {h : List mCel} {x : Nat}  : mW ro mTab 240 1237 [l0, l1, l2, l3, l4, l5, l6, l7] st h x = mW ro mTab 240 1238 [l0, l1, l2, l3, l4, l5, l6, l7] (.int 0 :: st) h x := (g_step rfl rfl rfl rfl).trans rfl
set_option maxRecDepth 100000 in
theorem e240_1238 {ro : Nat → Nat × (Nat → Int32)} {l0 l1 l2 l3 l4 l5 l6 l7 : Option Value} {st : List Value} {h : List mCel} {x : Nat} {a0 : Nat} {a1 : Int32} {a2 : Int32} {a3 : Int32} {a4 : Int32} {a5 : Int32} {a6 : Int32} {a7 : Int32} (hr : kR (mCell h a0) 11 = true) (hs : (st.map Value.category).sum ≤ 8) : mW ro mTab 240 1238 [l0, l1, l2, l3, l4, l5, l6, l7] (.int a7 :: .int a6 :: .int a5 :: .int a4 :: .int a3 :: .int a2 :: .int a1 :: .ref a0 :: st) h x = mAft (mW ro mTab) (mHd mM_240) 240 1238 [l0, l1, l2, l3, l4, l5, l6, l7] st (mW ro mTab 121 0 [some (.ref a0), some (.int a1), some (.int a2), some (.int a3), some (.int a4), some (.int a5), some (.int a6), some (.int a7), none, none, none, none] [] h x) := g_call rfl rfl rfl rfl rfl rfl (g_rcv rfl hr) hs
set_option maxRecDepth 100000 in
theorem e240_1241 {ro : Nat → Nat × (Nat → Int32)} {l0 l1 l2 l3 l4 l5 l6 l7 : Option Value} {st : List Value} {h : List mCel} {x : Nat} {v : Int32} : mW ro mTab 240 1241 [l0, l1, l2, l3, l4, l5, l6, l7] (.int v :: st) h x = mW ro mTab 240 1243 [l0, l1, l2, l3, l4, l5, l6, (some (.int v))] st h x := (g_step rfl rfl rfl rfl).trans rfl
set_option maxRecDepth 100000 in
theorem e240_1243 {ro : Nat → Nat × (Nat → Int32)} {l0 l1 l3 l4 l5 l6 l7 : Option Value} {st : List Value} {h : List mCel} {x : Nat} {v : Nat} : mW ro mTab 240 1243 [l0, l1, (some (.ref v)), l3, l4, l5, l6, l7] st h x = mW ro mTab 240 1244 [l0, l1, (some (.ref v)), l3, l4, l5, l6, l7] (.ref v :: st) h x := (g_step rfl rfl rfl rfl).trans rfl
set_option maxRecDepth 100000 in
theorem e240_1244 {ro : Nat → Nat × (Nat → Int32)} {l0 l1 l2 l3 l4 l5 l6 l7 : Option Value} {st : List Value} {h : List mCel} {x : Nat} {a0 : Nat} (hr : kR (mCell h a0) 11 = true) (hs : (st.map Value.category).sum ≤ 8) : mW ro mTab 240 1244 [l0, l1, l2, l3, l4, l5, l6, l7] (.ref a0 :: st) h x = mAft (mW ro mTab) (mHd mM_240) 240 1244 [l0, l1, l2, l3, l4, l5, l6, l7] st (mW ro mTab 137 0 [some (.ref a0)] [] h x) := g_call rfl rfl rfl rfl rfl rfl (g_rcv rfl hr) hs
set_option maxRecDepth 100000 in
theorem e240_1247 {ro : Nat → Nat × (Nat → Int32)} {l0 l1 l2 l3 l4 l5 l7 : Option Value} {st : List Value} {h : List mCel} {x : Nat} {v : Int32} : mW ro mTab 240 1247 [l0, l1, l2, l3, l4, l5, (some (.int v)), l7] st h x = mW ro mTab 240 1249 [l0, l1, l2, l3, l4, l5, (some (.int v)), l7] (.int v :: st) h x := (g_step rfl rfl rfl rfl).trans rfl
set_option maxRecDepth 100000 in
theorem e240_1249 {ro : Nat → Nat × (Nat → Int32)} {l0 l1 l2 l3 l4 l5 l6 l7 : Option Value} {st : List Value} {h : List mCel} {x : Nat} {a b : Int32} : mW ro mTab 240 1249 [l0, l1, l2, l3, l4, l5, l6, l7] (.int b :: .int a :: st) h x = if a = b then mW ro mTab 240 1254 [l0, l1, l2, l3, l4, l5, l6, l7] st h x else mW ro mTab 240 1252 [l0, l1, l2, l3, l4, l5, l6, l7] st h x := g_icmp_eq rfl rfl rfl
set_option maxRecDepth 100000 in
theorem e240_1252 {ro : Nat → Nat × (Nat → Int32)} {l0 l1 l2 l3 l4 l5 l6 l7 : Option Value} {st : List Value} {h : List mCel} {x : Nat}  : mW ro mTab 240 1252 [l0, l1, l2, l3, l4, l5, l6, l7] st h x = mW ro mTab 240 1253 [l0, l1, l2, l3, l4, l5, l6, l7] (.int 0 :: st) h x := (g_step rfl rfl rfl rfl).trans rfl
set_option maxRecDepth 100000 in
theorem e240_1253 {ro : Nat → Nat × (Nat → Int32)} {l0 l1 l2 l3 l4 l5 l6 l7 : Option Value} {h : List mCel} {x : Nat} {v : Int32} (hv : v = 0 ∨ v = 1) : mW ro mTab 240 1253 [l0, l1, l2, l3, l4, l5, l6, l7] [.int v] h x = some (.inl (some (.int v)), h, x) := g_zret rfl rfl rfl hv
set_option maxRecDepth 100000 in
theorem e240_1254 {ro : Nat → Nat × (Nat → Int32)} {l0 l1 l2 l3 l4 l5 l7 : Option Value} {st : List Value} {h : List mCel} {x : Nat} {v : Int32} : mW ro mTab 240 1254 [l0, l1, l2, l3, l4, l5, (some (.int v)), l7] st h x = mW ro mTab 240 1256 [l0, l1, l2, l3, l4, l5, (some (.int v)), l7] (.int v :: st) h x := (g_step rfl rfl rfl rfl).trans rfl
set_option maxRecDepth 100000 in
theorem e240_1256 {ro : Nat → Nat × (Nat → Int32)} {l0 l1 l2 l3 l4 l5 l6 l7 : Option Value} {st : List Value} {h : List mCel} {x : Nat} {a : Int32} : mW ro mTab 240 1256 [l0, l1, l2, l3, l4, l5, l6, l7] (.int a :: st) h x = if ¬ a = 0 then mW ro mTab 240 1271 [l0, l1, l2, l3, l4, l5, l6, l7] st h x else mW ro mTab 240 1259 [l0, l1, l2, l3, l4, l5, l6, l7] st h x := g_if_ne rfl rfl rfl
set_option maxRecDepth 100000 in
theorem e240_1259 {ro : Nat → Nat × (Nat → Int32)} {l0 l1 l2 l4 l5 l6 l7 : Option Value} {st : List Value} {h : List mCel} {x : Nat} {v : Nat} : mW ro mTab 240 1259 [l0, l1, l2, (some (.ref v)), l4, l5, l6, l7] st h x = mW ro mTab 240 1260 [l0, l1, l2, (some (.ref v)), l4, l5, l6, l7] (.ref v :: st) h x := (g_step rfl rfl rfl rfl).trans rfl
set_option maxRecDepth 100000 in
theorem e240_1260 {ro : Nat → Nat × (Nat → Int32)} {l0 l1 l2 l3 l4 l5 l6 l7 : Option Value} {st : List Value} {h : List mCel} {x : Nat}  : mW ro mTab 240 1260 [l0, l1, l2, l3, l4, l5, l6, l7] st h x = mW ro mTab 240 1261 [l0, l1, l2, l3, l4, l5, l6, l7] (.int 0 :: st) h x := (g_step rfl rfl rfl rfl).trans rfl
set_option maxRecDepth 100000 in
theorem e240_1261 {ro : Nat → Nat × (Nat → Int32)} {l0 l1 l2 l3 l4 l5 l6 l7 : Option Value} {st : List Value} {h : List mCel} {x : Nat} {a : Nat} {j : Int32} : mW ro mTab 240 1261 [l0, l1, l2, l3, l4, l5, l6, l7] (.int j :: .ref a :: st) h x = kLA h a j fun v => mW ro mTab 240 1262 [l0, l1, l2, l3, l4, l5, l6, l7] (.long v :: st) h x := g_laload rfl rfl
set_option maxRecDepth 100000 in
theorem e240_1262 {ro : Nat → Nat × (Nat → Int32)} {l0 l1 l2 l3 l4 l5 l6 : Option Value} {st : List Value} {h : List mCel} {x : Nat} {v : Int32} : mW ro mTab 240 1262 [l0, l1, l2, l3, l4, l5, l6, (some (.int v))] st h x = mW ro mTab 240 1264 [l0, l1, l2, l3, l4, l5, l6, (some (.int v))] (.int v :: st) h x := (g_step rfl rfl rfl rfl).trans rfl
set_option maxRecDepth 100000 in
theorem e240_1264 {ro : Nat → Nat × (Nat → Int32)} {l0 l1 l2 l3 l4 l5 l6 l7 : Option Value} {st : List Value} {h : List mCel} {x : Nat} {a : Int32} : mW ro mTab 240 1264 [l0, l1, l2, l3, l4, l5, l6, l7] (.int a :: st) h x = mW ro mTab 240 1265 [l0, l1, l2, l3, l4, l5, l6, l7] (.long a.toInt64 :: st) h x := (g_step rfl rfl rfl rfl).trans rfl
set_option maxRecDepth 100000 in
theorem e240_1265 {ro : Nat → Nat × (Nat → Int32)} {l0 l1 l2 l3 l4 l5 l6 l7 : Option Value} {st : List Value} {h : List mCel} {x : Nat} {a b : Int64} : mW ro mTab 240 1265 [l0, l1, l2, l3, l4, l5, l6, l7] (.long b :: .long a :: st) h x = mW ro mTab 240 1266 [l0, l1, l2, l3, l4, l5, l6, l7] (.int (lg_cmp a b) :: st) h x := (g_step rfl rfl rfl rfl).trans rfl
set_option maxRecDepth 100000 in
theorem e240_1266 {ro : Nat → Nat × (Nat → Int32)} {l0 l1 l2 l3 l4 l5 l6 l7 : Option Value} {st : List Value} {h : List mCel} {x : Nat} {a : Int32} : mW ro mTab 240 1266 [l0, l1, l2, l3, l4, l5, l6, l7] (.int a :: st) h x = if a = 0 then mW ro mTab 240 1271 [l0, l1, l2, l3, l4, l5, l6, l7] st h x else mW ro mTab 240 1269 [l0, l1, l2, l3, l4, l5, l6, l7] st h x := g_if_eq rfl rfl rfl
set_option maxRecDepth 100000 in
theorem e240_1269 {ro : Nat → Nat × (Nat → Int32)} {l0 l1 l2 l3 l4 l5 l6 l7 : Option Value} {st : List Value} {h : List mCel} {x : Nat}  : mW ro mTab 240 1269 [l0, l1, l2, l3, l4, l5, l6, l7] st h x = mW ro mTab 240 1270 [l0, l1, l2, l3, l4, l5, l6, l7] (.int 0 :: st) h x := (g_step rfl rfl rfl rfl).trans rfl
set_option maxRecDepth 100000 in
theorem e240_1270 {ro : Nat → Nat × (Nat → Int32)} {l0 l1 l2 l3 l4 l5 l6 l7 : Option Value} {h : List mCel} {x : Nat} {v : Int32} (hv : v = 0 ∨ v = 1) : mW ro mTab 240 1270 [l0, l1, l2, l3, l4, l5, l6, l7] [.int v] h x = some (.inl (some (.int v)), h, x) := g_zret rfl rfl rfl hv
set_option maxRecDepth 100000 in
theorem e240_1271 {ro : Nat → Nat × (Nat → Int32)} {l0 l1 l2 l3 l4 l5 l6 l7 : Option Value} {st : List Value} {h : List mCel} {x : Nat}  : mW ro mTab 240 1271 [l0, l1, l2, l3, l4, l5, l6, l7] st h x = mW ro mTab 240 1980 [l0, l1, l2, l3, l4, l5, l6, l7] st h x := (g_step rfl rfl rfl rfl).trans rfl
set_option maxRecDepth 100000 in
theorem e240_1274 {ro : Nat → Nat × (Nat → Int32)} {l0 l2 l3 l4 l5 l6 l7 : Option Value} {st : List Value} {h : List mCel} {x : Nat} {v : Nat} : mW ro mTab 240 1274 [l0, (some (.ref v)), l2, l3, l4, l5, l6, l7] st h x = mW ro mTab 240 1275 [l0, (some (.ref v)), l2, l3, l4, l5, l6, l7] (.ref v :: st) h x := (g_step rfl rfl rfl rfl).trans rfl
set_option maxRecDepth 100000 in
theorem e240_1275 {ro : Nat → Nat × (Nat → Int32)} {l1 l2 l3 l4 l5 l6 l7 : Option Value} {st : List Value} {h : List mCel} {x : Nat} {v : Nat} : mW ro mTab 240 1275 [(some (.ref v)), l1, l2, l3, l4, l5, l6, l7] st h x = mW ro mTab 240 1276 [(some (.ref v)), l1, l2, l3, l4, l5, l6, l7] (.ref v :: st) h x := (g_step rfl rfl rfl rfl).trans rfl
set_option maxRecDepth 100000 in
theorem e240_1276 {ro : Nat → Nat × (Nat → Int32)} {l0 l1 l2 l3 l4 l6 l7 : Option Value} {st : List Value} {h : List mCel} {x : Nat} {v : Int32} : mW ro mTab 240 1276 [l0, l1, l2, l3, l4, (some (.int v)), l6, l7] st h x = mW ro mTab 240 1278 [l0, l1, l2, l3, l4, (some (.int v)), l6, l7] (.int v :: st) h x := (g_step rfl rfl rfl rfl).trans rfl
set_option maxRecDepth 100000 in
theorem e240_1278 {ro : Nat → Nat × (Nat → Int32)} {l0 l1 l2 l3 l4 l5 l6 l7 : Option Value} {st : List Value} {h : List mCel} {x : Nat}  : mW ro mTab 240 1278 [l0, l1, l2, l3, l4, l5, l6, l7] st h x = mW ro mTab 240 1279 [l0, l1, l2, l3, l4, l5, l6, l7] (.int 1 :: st) h x := (g_step rfl rfl rfl rfl).trans rfl
set_option maxRecDepth 100000 in
theorem e240_1279 {ro : Nat → Nat × (Nat → Int32)} {l0 l1 l2 l3 l4 l5 l6 l7 : Option Value} {st : List Value} {h : List mCel} {x : Nat} {a b : Int32} : mW ro mTab 240 1279 [l0, l1, l2, l3, l4, l5, l6, l7] (.int b :: .int a :: st) h x = mW ro mTab 240 1280 [l0, l1, l2, l3, l4, l5, l6, l7] (.int (a + b) :: st) h x := (g_step rfl rfl rfl rfl).trans rfl
set_option maxRecDepth 100000 in
theorem e240_1280 {ro : Nat → Nat × (Nat → Int32)} {l0 l1 l2 l3 l4 l5 l6 l7 : Option Value} {st : List Value} {h : List mCel} {x : Nat} {a : Nat} {j : Int32} : mW ro mTab 240 1280 [l0, l1, l2, l3, l4, l5, l6, l7] (.int j :: .ref a :: st) h x = kIA ro h a j fun v => mW ro mTab 240 1281 [l0, l1, l2, l3, l4, l5, l6, l7] (.int v :: st) h x := g_iaload rfl rfl
set_option maxRecDepth 100000 in
theorem e240_1281 {ro : Nat → Nat × (Nat → Int32)} {l1 l2 l3 l4 l5 l6 l7 : Option Value} {st : List Value} {h : List mCel} {x : Nat} {v : Nat} : mW ro mTab 240 1281 [(some (.ref v)), l1, l2, l3, l4, l5, l6, l7] st h x = mW ro mTab 240 1282 [(some (.ref v)), l1, l2, l3, l4, l5, l6, l7] (.ref v :: st) h x := (g_step rfl rfl rfl rfl).trans rfl
set_option maxRecDepth 100000 in
theorem e240_1282 {ro : Nat → Nat × (Nat → Int32)} {l0 l1 l2 l3 l4 l6 l7 : Option Value} {st : List Value} {h : List mCel} {x : Nat} {v : Int32} : mW ro mTab 240 1282 [l0, l1, l2, l3, l4, (some (.int v)), l6, l7] st h x = mW ro mTab 240 1284 [l0, l1, l2, l3, l4, (some (.int v)), l6, l7] (.int v :: st) h x := (g_step rfl rfl rfl rfl).trans rfl
set_option maxRecDepth 100000 in
theorem e240_1284 {ro : Nat → Nat × (Nat → Int32)} {l0 l1 l2 l3 l4 l5 l6 l7 : Option Value} {st : List Value} {h : List mCel} {x : Nat}  : mW ro mTab 240 1284 [l0, l1, l2, l3, l4, l5, l6, l7] st h x = mW ro mTab 240 1285 [l0, l1, l2, l3, l4, l5, l6, l7] (.int 2 :: st) h x := (g_step rfl rfl rfl rfl).trans rfl
set_option maxRecDepth 100000 in
theorem e240_1285 {ro : Nat → Nat × (Nat → Int32)} {l0 l1 l2 l3 l4 l5 l6 l7 : Option Value} {st : List Value} {h : List mCel} {x : Nat} {a b : Int32} : mW ro mTab 240 1285 [l0, l1, l2, l3, l4, l5, l6, l7] (.int b :: .int a :: st) h x = mW ro mTab 240 1286 [l0, l1, l2, l3, l4, l5, l6, l7] (.int (a + b) :: st) h x := (g_step rfl rfl rfl rfl).trans rfl
set_option maxRecDepth 100000 in
theorem e240_1286 {ro : Nat → Nat × (Nat → Int32)} {l0 l1 l2 l3 l4 l5 l6 l7 : Option Value} {st : List Value} {h : List mCel} {x : Nat} {a : Nat} {j : Int32} : mW ro mTab 240 1286 [l0, l1, l2, l3, l4, l5, l6, l7] (.int j :: .ref a :: st) h x = kIA ro h a j fun v => mW ro mTab 240 1287 [l0, l1, l2, l3, l4, l5, l6, l7] (.int v :: st) h x := g_iaload rfl rfl
set_option maxRecDepth 100000 in
theorem e240_1287 {ro : Nat → Nat × (Nat → Int32)} {l1 l2 l3 l4 l5 l6 l7 : Option Value} {st : List Value} {h : List mCel} {x : Nat} {v : Nat} : mW ro mTab 240 1287 [(some (.ref v)), l1, l2, l3, l4, l5, l6, l7] st h x = mW ro mTab 240 1288 [(some (.ref v)), l1, l2, l3, l4, l5, l6, l7] (.ref v :: st) h x := (g_step rfl rfl rfl rfl).trans rfl
set_option maxRecDepth 100000 in
theorem e240_1288 {ro : Nat → Nat × (Nat → Int32)} {l0 l1 l2 l3 l4 l6 l7 : Option Value} {st : List Value} {h : List mCel} {x : Nat} {v : Int32} : mW ro mTab 240 1288 [l0, l1, l2, l3, l4, (some (.int v)), l6, l7] st h x = mW ro mTab 240 1290 [l0, l1, l2, l3, l4, (some (.int v)), l6, l7] (.int v :: st) h x := (g_step rfl rfl rfl rfl).trans rfl
set_option maxRecDepth 100000 in
theorem e240_1290 {ro : Nat → Nat × (Nat → Int32)} {l0 l1 l2 l3 l4 l5 l6 l7 : Option Value} {st : List Value} {h : List mCel} {x : Nat}  : mW ro mTab 240 1290 [l0, l1, l2, l3, l4, l5, l6, l7] st h x = mW ro mTab 240 1291 [l0, l1, l2, l3, l4, l5, l6, l7] (.int 3 :: st) h x := (g_step rfl rfl rfl rfl).trans rfl
set_option maxRecDepth 100000 in
theorem e240_1291 {ro : Nat → Nat × (Nat → Int32)} {l0 l1 l2 l3 l4 l5 l6 l7 : Option Value} {st : List Value} {h : List mCel} {x : Nat} {a b : Int32} : mW ro mTab 240 1291 [l0, l1, l2, l3, l4, l5, l6, l7] (.int b :: .int a :: st) h x = mW ro mTab 240 1292 [l0, l1, l2, l3, l4, l5, l6, l7] (.int (a + b) :: st) h x := (g_step rfl rfl rfl rfl).trans rfl
set_option maxRecDepth 100000 in
theorem e240_1292 {ro : Nat → Nat × (Nat → Int32)} {l0 l1 l2 l3 l4 l5 l6 l7 : Option Value} {st : List Value} {h : List mCel} {x : Nat} {a : Nat} {j : Int32} : mW ro mTab 240 1292 [l0, l1, l2, l3, l4, l5, l6, l7] (.int j :: .ref a :: st) h x = kIA ro h a j fun v => mW ro mTab 240 1293 [l0, l1, l2, l3, l4, l5, l6, l7] (.int v :: st) h x := g_iaload rfl rfl
set_option maxRecDepth 100000 in
theorem e240_1293 {ro : Nat → Nat × (Nat → Int32)} {l0 l1 l2 l3 l4 l5 l6 l7 : Option Value} {st : List Value} {h : List mCel} {x : Nat} {a0 : Nat} {a1 : Int32} {a2 : Int32} {a3 : Int32} (hs : (st.map Value.category).sum ≤ 8) : mW ro mTab 240 1293 [l0, l1, l2, l3, l4, l5, l6, l7] (.int a3 :: .int a2 :: .int a1 :: .ref a0 :: st) h x = mAft (mW ro mTab) (mHd mM_240) 240 1293 [l0, l1, l2, l3, l4, l5, l6, l7] st (mW ro mTab 230 0 [some (.ref a0), some (.int a1), some (.int a2), some (.int a3), none] [] h x) := g_call rfl rfl rfl rfl rfl rfl rfl hs
set_option maxRecDepth 100000 in
theorem e240_1296 {ro : Nat → Nat × (Nat → Int32)} {l0 l1 l2 l3 l4 l5 l6 l7 : Option Value} {st : List Value} {h : List mCel} {x : Nat} {v : Int32} : mW ro mTab 240 1296 [l0, l1, l2, l3, l4, l5, l6, l7] (.int v :: st) h x = mW ro mTab 240 1298 [l0, l1, l2, l3, l4, l5, (some (.int v)), l7] st h x := (g_step rfl rfl rfl rfl).trans rfl
set_option maxRecDepth 100000 in
theorem e240_1298 {ro : Nat → Nat × (Nat → Int32)} {l0 l1 l3 l4 l5 l6 l7 : Option Value} {st : List Value} {h : List mCel} {x : Nat} {v : Nat} : mW ro mTab 240 1298 [l0, l1, (some (.ref v)), l3, l4, l5, l6, l7] st h x = mW ro mTab 240 1299 [l0, l1, (some (.ref v)), l3, l4, l5, l6, l7] (.ref v :: st) h x := (g_step rfl rfl rfl rfl).trans rfl
set_option maxRecDepth 100000 in
theorem e240_1299 {ro : Nat → Nat × (Nat → Int32)} {l1 l2 l3 l4 l5 l6 l7 : Option Value} {st : List Value} {h : List mCel} {x : Nat} {v : Nat} : mW ro mTab 240 1299 [(some (.ref v)), l1, l2, l3, l4, l5, l6, l7] st h x = mW ro mTab 240 1300 [(some (.ref v)), l1, l2, l3, l4, l5, l6, l7] (.ref v :: st) h x := (g_step rfl rfl rfl rfl).trans rfl
set_option maxRecDepth 100000 in
theorem e240_1300 {ro : Nat → Nat × (Nat → Int32)} {l0 l1 l2 l3 l4 l6 l7 : Option Value} {st : List Value} {h : List mCel} {x : Nat} {v : Int32} : mW ro mTab 240 1300 [l0, l1, l2, l3, l4, (some (.int v)), l6, l7] st h x = mW ro mTab 240 1302 [l0, l1, l2, l3, l4, (some (.int v)), l6, l7] (.int v :: st) h x := (g_step rfl rfl rfl rfl).trans rfl
set_option maxRecDepth 100000 in
theorem e240_1302 {ro : Nat → Nat × (Nat → Int32)} {l0 l1 l2 l3 l4 l5 l6 l7 : Option Value} {st : List Value} {h : List mCel} {x : Nat}  : mW ro mTab 240 1302 [l0, l1, l2, l3, l4, l5, l6, l7] st h x = mW ro mTab 240 1303 [l0, l1, l2, l3, l4, l5, l6, l7] (.int 1 :: st) h x := (g_step rfl rfl rfl rfl).trans rfl
set_option maxRecDepth 100000 in
theorem e240_1303 {ro : Nat → Nat × (Nat → Int32)} {l0 l1 l2 l3 l4 l5 l6 l7 : Option Value} {st : List Value} {h : List mCel} {x : Nat} {a b : Int32} : mW ro mTab 240 1303 [l0, l1, l2, l3, l4, l5, l6, l7] (.int b :: .int a :: st) h x = mW ro mTab 240 1304 [l0, l1, l2, l3, l4, l5, l6, l7] (.int (a + b) :: st) h x := (g_step rfl rfl rfl rfl).trans rfl
set_option maxRecDepth 100000 in
theorem e240_1304 {ro : Nat → Nat × (Nat → Int32)} {l0 l1 l2 l3 l4 l5 l6 l7 : Option Value} {st : List Value} {h : List mCel} {x : Nat} {a : Nat} {j : Int32} : mW ro mTab 240 1304 [l0, l1, l2, l3, l4, l5, l6, l7] (.int j :: .ref a :: st) h x = kIA ro h a j fun v => mW ro mTab 240 1305 [l0, l1, l2, l3, l4, l5, l6, l7] (.int v :: st) h x := g_iaload rfl rfl
set_option maxRecDepth 100000 in
theorem e240_1305 {ro : Nat → Nat × (Nat → Int32)} {l1 l2 l3 l4 l5 l6 l7 : Option Value} {st : List Value} {h : List mCel} {x : Nat} {v : Nat} : mW ro mTab 240 1305 [(some (.ref v)), l1, l2, l3, l4, l5, l6, l7] st h x = mW ro mTab 240 1306 [(some (.ref v)), l1, l2, l3, l4, l5, l6, l7] (.ref v :: st) h x := (g_step rfl rfl rfl rfl).trans rfl
set_option maxRecDepth 100000 in
theorem e240_1306 {ro : Nat → Nat × (Nat → Int32)} {l0 l1 l2 l3 l4 l6 l7 : Option Value} {st : List Value} {h : List mCel} {x : Nat} {v : Int32} : mW ro mTab 240 1306 [l0, l1, l2, l3, l4, (some (.int v)), l6, l7] st h x = mW ro mTab 240 1308 [l0, l1, l2, l3, l4, (some (.int v)), l6, l7] (.int v :: st) h x := (g_step rfl rfl rfl rfl).trans rfl
set_option maxRecDepth 100000 in
theorem e240_1308 {ro : Nat → Nat × (Nat → Int32)} {l0 l1 l2 l3 l4 l5 l6 l7 : Option Value} {st : List Value} {h : List mCel} {x : Nat}  : mW ro mTab 240 1308 [l0, l1, l2, l3, l4, l5, l6, l7] st h x = mW ro mTab 240 1309 [l0, l1, l2, l3, l4, l5, l6, l7] (.int 2 :: st) h x := (g_step rfl rfl rfl rfl).trans rfl
set_option maxRecDepth 100000 in
theorem e240_1309 {ro : Nat → Nat × (Nat → Int32)} {l0 l1 l2 l3 l4 l5 l6 l7 : Option Value} {st : List Value} {h : List mCel} {x : Nat} {a b : Int32} : mW ro mTab 240 1309 [l0, l1, l2, l3, l4, l5, l6, l7] (.int b :: .int a :: st) h x = mW ro mTab 240 1310 [l0, l1, l2, l3, l4, l5, l6, l7] (.int (a + b) :: st) h x := (g_step rfl rfl rfl rfl).trans rfl
set_option maxRecDepth 100000 in
theorem e240_1310 {ro : Nat → Nat × (Nat → Int32)} {l0 l1 l2 l3 l4 l5 l6 l7 : Option Value} {st : List Value} {h : List mCel} {x : Nat} {a : Nat} {j : Int32} : mW ro mTab 240 1310 [l0, l1, l2, l3, l4, l5, l6, l7] (.int j :: .ref a :: st) h x = kIA ro h a j fun v => mW ro mTab 240 1311 [l0, l1, l2, l3, l4, l5, l6, l7] (.int v :: st) h x := g_iaload rfl rfl
set_option maxRecDepth 100000 in
theorem e240_1311 {ro : Nat → Nat × (Nat → Int32)} {l1 l2 l3 l4 l5 l6 l7 : Option Value} {st : List Value} {h : List mCel} {x : Nat} {v : Nat} : mW ro mTab 240 1311 [(some (.ref v)), l1, l2, l3, l4, l5, l6, l7] st h x = mW ro mTab 240 1312 [(some (.ref v)), l1, l2, l3, l4, l5, l6, l7] (.ref v :: st) h x := (g_step rfl rfl rfl rfl).trans rfl
set_option maxRecDepth 100000 in
theorem e240_1312 {ro : Nat → Nat × (Nat → Int32)} {l0 l1 l2 l3 l4 l6 l7 : Option Value} {st : List Value} {h : List mCel} {x : Nat} {v : Int32} : mW ro mTab 240 1312 [l0, l1, l2, l3, l4, (some (.int v)), l6, l7] st h x = mW ro mTab 240 1314 [l0, l1, l2, l3, l4, (some (.int v)), l6, l7] (.int v :: st) h x := (g_step rfl rfl rfl rfl).trans rfl
set_option maxRecDepth 100000 in
theorem e240_1314 {ro : Nat → Nat × (Nat → Int32)} {l0 l1 l2 l3 l4 l5 l6 l7 : Option Value} {st : List Value} {h : List mCel} {x : Nat}  : mW ro mTab 240 1314 [l0, l1, l2, l3, l4, l5, l6, l7] st h x = mW ro mTab 240 1315 [l0, l1, l2, l3, l4, l5, l6, l7] (.int 3 :: st) h x := (g_step rfl rfl rfl rfl).trans rfl
set_option maxRecDepth 100000 in
theorem e240_1315 {ro : Nat → Nat × (Nat → Int32)} {l0 l1 l2 l3 l4 l5 l6 l7 : Option Value} {st : List Value} {h : List mCel} {x : Nat} {a b : Int32} : mW ro mTab 240 1315 [l0, l1, l2, l3, l4, l5, l6, l7] (.int b :: .int a :: st) h x = mW ro mTab 240 1316 [l0, l1, l2, l3, l4, l5, l6, l7] (.int (a + b) :: st) h x := (g_step rfl rfl rfl rfl).trans rfl
set_option maxRecDepth 100000 in
theorem e240_1316 {ro : Nat → Nat × (Nat → Int32)} {l0 l1 l2 l3 l4 l5 l6 l7 : Option Value} {st : List Value} {h : List mCel} {x : Nat} {a : Nat} {j : Int32} : mW ro mTab 240 1316 [l0, l1, l2, l3, l4, l5, l6, l7] (.int j :: .ref a :: st) h x = kIA ro h a j fun v => mW ro mTab 240 1317 [l0, l1, l2, l3, l4, l5, l6, l7] (.int v :: st) h x := g_iaload rfl rfl
set_option maxRecDepth 100000 in
theorem e240_1317 {ro : Nat → Nat × (Nat → Int32)} {l0 l1 l2 l3 l4 l5 l6 l7 : Option Value} {st : List Value} {h : List mCel} {x : Nat} {a0 : Nat} {a1 : Int32} {a2 : Int32} {a3 : Int32} (hr : kR (mCell h a0) 11 = true) (hs : (st.map Value.category).sum ≤ 8) : mW ro mTab 240 1317 [l0, l1, l2, l3, l4, l5, l6, l7] (.int a3 :: .int a2 :: .int a1 :: .ref a0 :: st) h x = mAft (mW ro mTab) (mHd mM_240) 240 1317 [l0, l1, l2, l3, l4, l5, l6, l7] st (mW ro mTab 72 0 [some (.ref a0), some (.int a1), some (.int a2), some (.int a3), none] [] h x) := g_call rfl rfl rfl rfl rfl rfl (g_rcv rfl hr) hs
set_option maxRecDepth 100000 in
theorem e240_1320 {ro : Nat → Nat × (Nat → Int32)} {l0 l1 l3 l4 l5 l6 l7 : Option Value} {st : List Value} {h : List mCel} {x : Nat} {v : Nat} : mW ro mTab 240 1320 [l0, l1, (some (.ref v)), l3, l4, l5, l6, l7] st h x = mW ro mTab 240 1321 [l0, l1, (some (.ref v)), l3, l4, l5, l6, l7] (.ref v :: st) h x := (g_step rfl rfl rfl rfl).trans rfl
set_option maxRecDepth 100000 in
theorem e240_1321 {ro : Nat → Nat × (Nat → Int32)} {l0 l1 l2 l3 l4 l5 l6 l7 : Option Value} {st : List Value} {h : List mCel} {x : Nat} {a0 : Nat} (hr : kR (mCell h a0) 11 = true) (hs : (st.map Value.category).sum ≤ 8) : mW ro mTab 240 1321 [l0, l1, l2, l3, l4, l5, l6, l7] (.ref a0 :: st) h x = mAft (mW ro mTab) (mHd mM_240) 240 1321 [l0, l1, l2, l3, l4, l5, l6, l7] st (mW ro mTab 137 0 [some (.ref a0)] [] h x) := g_call rfl rfl rfl rfl rfl rfl (g_rcv rfl hr) hs
set_option maxRecDepth 100000 in
theorem e240_1324 {ro : Nat → Nat × (Nat → Int32)} {l0 l1 l2 l3 l4 l5 l7 : Option Value} {st : List Value} {h : List mCel} {x : Nat} {v : Int32} : mW ro mTab 240 1324 [l0, l1, l2, l3, l4, l5, (some (.int v)), l7] st h x = mW ro mTab 240 1326 [l0, l1, l2, l3, l4, l5, (some (.int v)), l7] (.int v :: st) h x := (g_step rfl rfl rfl rfl).trans rfl
set_option maxRecDepth 100000 in
theorem e240_1326 {ro : Nat → Nat × (Nat → Int32)} {l0 l1 l2 l3 l4 l5 l6 l7 : Option Value} {st : List Value} {h : List mCel} {x : Nat} {a b : Int32} : mW ro mTab 240 1326 [l0, l1, l2, l3, l4, l5, l6, l7] (.int b :: .int a :: st) h x = if a = b then mW ro mTab 240 1331 [l0, l1, l2, l3, l4, l5, l6, l7] st h x else mW ro mTab 240 1329 [l0, l1, l2, l3, l4, l5, l6, l7] st h x := g_icmp_eq rfl rfl rfl
set_option maxRecDepth 100000 in
theorem e240_1329 {ro : Nat → Nat × (Nat → Int32)} {l0 l1 l2 l3 l4 l5 l6 l7 : Option Value} {st : List Value} {h : List mCel} {x : Nat}  : mW ro mTab 240 1329 [l0, l1, l2, l3, l4, l5, l6, l7] st h x = mW ro mTab 240 1330 [l0, l1, l2, l3, l4, l5, l6, l7] (.int 0 :: st) h x := (g_step rfl rfl rfl rfl).trans rfl
set_option maxRecDepth 100000 in
theorem e240_1330 {ro : Nat → Nat × (Nat → Int32)} {l0 l1 l2 l3 l4 l5 l6 l7 : Option Value} {h : List mCel} {x : Nat} {v : Int32} (hv : v = 0 ∨ v = 1) : mW ro mTab 240 1330 [l0, l1, l2, l3, l4, l5, l6, l7] [.int v] h x = some (.inl (some (.int v)), h, x) := g_zret rfl rfl rfl hv
set_option maxRecDepth 100000 in
theorem e240_1331 {ro : Nat → Nat × (Nat → Int32)} {l0 l1 l2 l3 l4 l5 l6 l7 : Option Value} {st : List Value} {h : List mCel} {x : Nat}  : mW ro mTab 240 1331 [l0, l1, l2, l3, l4, l5, l6, l7] st h x = mW ro mTab 240 1980 [l0, l1, l2, l3, l4, l5, l6, l7] st h x := (g_step rfl rfl rfl rfl).trans rfl
set_option maxRecDepth 100000 in
theorem e240_1334 {ro : Nat → Nat × (Nat → Int32)} {l0 l2 l3 l4 l5 l6 l7 : Option Value} {st : List Value} {h : List mCel} {x : Nat} {v : Nat} : mW ro mTab 240 1334 [l0, (some (.ref v)), l2, l3, l4, l5, l6, l7] st h x = mW ro mTab 240 1335 [l0, (some (.ref v)), l2, l3, l4, l5, l6, l7] (.ref v :: st) h x := (g_step rfl rfl rfl rfl).trans rfl
set_option maxRecDepth 100000 in
theorem e240_1335 {ro : Nat → Nat × (Nat → Int32)} {l1 l2 l3 l4 l5 l6 l7 : Option Value} {st : List Value} {h : List mCel} {x : Nat} {v : Nat} : mW ro mTab 240 1335 [(some (.ref v)), l1, l2, l3, l4, l5, l6, l7] st h x = mW ro mTab 240 1336 [(some (.ref v)), l1, l2, l3, l4, l5, l6, l7] (.ref v :: st) h x := (g_step rfl rfl rfl rfl).trans rfl
set_option maxRecDepth 100000 in
theorem e240_1336 {ro : Nat → Nat × (Nat → Int32)} {l0 l1 l2 l3 l4 l6 l7 : Option Value} {st : List Value} {h : List mCel} {x : Nat} {v : Int32} : mW ro mTab 240 1336 [l0, l1, l2, l3, l4, (some (.int v)), l6, l7] st h x = mW ro mTab 240 1338 [l0, l1, l2, l3, l4, (some (.int v)), l6, l7] (.int v :: st) h x := (g_step rfl rfl rfl rfl).trans rfl
set_option maxRecDepth 100000 in
theorem e240_1338 {ro : Nat → Nat × (Nat → Int32)} {l0 l1 l2 l3 l4 l5 l6 l7 : Option Value} {st : List Value} {h : List mCel} {x : Nat}  : mW ro mTab 240 1338 [l0, l1, l2, l3, l4, l5, l6, l7] st h x = mW ro mTab 240 1339 [l0, l1, l2, l3, l4, l5, l6, l7] (.int 1 :: st) h x := (g_step rfl rfl rfl rfl).trans rfl
set_option maxRecDepth 100000 in
theorem e240_1339 {ro : Nat → Nat × (Nat → Int32)} {l0 l1 l2 l3 l4 l5 l6 l7 : Option Value} {st : List Value} {h : List mCel} {x : Nat} {a b : Int32} : mW ro mTab 240 1339 [l0, l1, l2, l3, l4, l5, l6, l7] (.int b :: .int a :: st) h x = mW ro mTab 240 1340 [l0, l1, l2, l3, l4, l5, l6, l7] (.int (a + b) :: st) h x := (g_step rfl rfl rfl rfl).trans rfl
set_option maxRecDepth 100000 in
theorem e240_1340 {ro : Nat → Nat × (Nat → Int32)} {l0 l1 l2 l3 l4 l5 l6 l7 : Option Value} {st : List Value} {h : List mCel} {x : Nat} {a : Nat} {j : Int32} : mW ro mTab 240 1340 [l0, l1, l2, l3, l4, l5, l6, l7] (.int j :: .ref a :: st) h x = kIA ro h a j fun v => mW ro mTab 240 1341 [l0, l1, l2, l3, l4, l5, l6, l7] (.int v :: st) h x := g_iaload rfl rfl
set_option maxRecDepth 100000 in
theorem e240_1341 {ro : Nat → Nat × (Nat → Int32)} {l0 l1 l2 l4 l5 l6 l7 : Option Value} {st : List Value} {h : List mCel} {x : Nat} {v : Nat} : mW ro mTab 240 1341 [l0, l1, l2, (some (.ref v)), l4, l5, l6, l7] st h x = mW ro mTab 240 1342 [l0, l1, l2, (some (.ref v)), l4, l5, l6, l7] (.ref v :: st) h x := (g_step rfl rfl rfl rfl).trans rfl
set_option maxRecDepth 100000 in
theorem e240_1342 {ro : Nat → Nat × (Nat → Int32)} {l0 l1 l2 l3 l4 l5 l6 l7 : Option Value} {st : List Value} {h : List mCel} {x : Nat} {a0 : Nat} {a1 : Int32} {a2 : Nat} (hs : (st.map Value.category).sum ≤ 8) : mW ro mTab 240 1342 [l0, l1, l2, l3, l4, l5, l6, l7] (.ref a2 :: .int a1 :: .ref a0 :: st) h x = mAft (mW ro mTab) (mHd mM_240) 240 1342 [l0, l1, l2, l3, l4, l5, l6, l7] st (mW ro mTab 236 0 [some (.ref a0), some (.int a1), some (.ref a2), none] [] h x) := g_call rfl rfl rfl rfl rfl rfl rfl hs
set_option maxRecDepth 100000 in
theorem e240_1345 {ro : Nat → Nat × (Nat → Int32)} {l0 l1 l2 l3 l4 l5 l6 l7 : Option Value} {st : List Value} {h : List mCel} {x : Nat} {v : Int32} : mW ro mTab 240 1345 [l0, l1, l2, l3, l4, l5, l6, l7] (.int v :: st) h x = mW ro mTab 240 1347 [l0, l1, l2, l3, l4, l5, (some (.int v)), l7] st h x := (g_step rfl rfl rfl rfl).trans rfl
set_option maxRecDepth 100000 in
theorem e240_1347 {ro : Nat → Nat × (Nat → Int32)} {l0 l1 l3 l4 l5 l6 l7 : Option Value} {st : List Value} {h : List mCel} {x : Nat} {v : Nat} : mW ro mTab 240 1347 [l0, l1, (some (.ref v)), l3, l4, l5, l6, l7] st h x = mW ro mTab 240 1348 [l0, l1, (some (.ref v)), l3, l4, l5, l6, l7] (.ref v :: st) h x := (g_step rfl rfl rfl rfl).trans rfl
set_option maxRecDepth 100000 in
theorem e240_1348 {ro : Nat → Nat × (Nat → Int32)} {l1 l2 l3 l4 l5 l6 l7 : Option Value} {st : List Value} {h : List mCel} {x : Nat} {v : Nat} : mW ro mTab 240 1348 [(some (.ref v)), l1, l2, l3, l4, l5, l6, l7] st h x = mW ro mTab 240 1349 [(some (.ref v)), l1, l2, l3, l4, l5, l6, l7] (.ref v :: st) h x := (g_step rfl rfl rfl rfl).trans rfl
set_option maxRecDepth 100000 in
theorem e240_1349 {ro : Nat → Nat × (Nat → Int32)} {l0 l1 l2 l3 l4 l6 l7 : Option Value} {st : List Value} {h : List mCel} {x : Nat} {v : Int32} : mW ro mTab 240 1349 [l0, l1, l2, l3, l4, (some (.int v)), l6, l7] st h x = mW ro mTab 240 1351 [l0, l1, l2, l3, l4, (some (.int v)), l6, l7] (.int v :: st) h x := (g_step rfl rfl rfl rfl).trans rfl
set_option maxRecDepth 100000 in
theorem e240_1351 {ro : Nat → Nat × (Nat → Int32)} {l0 l1 l2 l3 l4 l5 l6 l7 : Option Value} {st : List Value} {h : List mCel} {x : Nat}  : mW ro mTab 240 1351 [l0, l1, l2, l3, l4, l5, l6, l7] st h x = mW ro mTab 240 1352 [l0, l1, l2, l3, l4, l5, l6, l7] (.int 1 :: st) h x := (g_step rfl rfl rfl rfl).trans rfl
set_option maxRecDepth 100000 in
theorem e240_1352 {ro : Nat → Nat × (Nat → Int32)} {l0 l1 l2 l3 l4 l5 l6 l7 : Option Value} {st : List Value} {h : List mCel} {x : Nat} {a b : Int32} : mW ro mTab 240 1352 [l0, l1, l2, l3, l4, l5, l6, l7] (.int b :: .int a :: st) h x = mW ro mTab 240 1353 [l0, l1, l2, l3, l4, l5, l6, l7] (.int (a + b) :: st) h x := (g_step rfl rfl rfl rfl).trans rfl
set_option maxRecDepth 100000 in
theorem e240_1353 {ro : Nat → Nat × (Nat → Int32)} {l0 l1 l2 l3 l4 l5 l6 l7 : Option Value} {st : List Value} {h : List mCel} {x : Nat} {a : Nat} {j : Int32} : mW ro mTab 240 1353 [l0, l1, l2, l3, l4, l5, l6, l7] (.int j :: .ref a :: st) h x = kIA ro h a j fun v => mW ro mTab 240 1354 [l0, l1, l2, l3, l4, l5, l6, l7] (.int v :: st) h x := g_iaload rfl rfl
set_option maxRecDepth 100000 in
theorem e240_1354 {ro : Nat → Nat × (Nat → Int32)} {l0 l1 l2 l3 l4 l5 l6 l7 : Option Value} {st : List Value} {h : List mCel} {x : Nat} {a0 : Nat} {a1 : Int32} (hr : kR (mCell h a0) 11 = true) (hs : (st.map Value.category).sum ≤ 8) : mW ro mTab 240 1354 [l0, l1, l2, l3, l4, l5, l6, l7] (.int a1 :: .ref a0 :: st) h x = mAft (mW ro mTab) (mHd mM_240) 240 1354 [l0, l1, l2, l3, l4, l5, l6, l7] st (mW ro mTab 86 0 [some (.ref a0), some (.int a1), none] [] h x) := g_call rfl rfl rfl rfl rfl rfl (g_rcv rfl hr) hs
set_option maxRecDepth 100000 in
theorem e240_1357 {ro : Nat → Nat × (Nat → Int32)} {l0 l1 l2 l3 l4 l5 l6 l7 : Option Value} {st : List Value} {h : List mCel} {x : Nat} {v : Int32} : mW ro mTab 240 1357 [l0, l1, l2, l3, l4, l5, l6, l7] (.int v :: st) h x = mW ro mTab 240 1359 [l0, l1, l2, l3, l4, l5, l6, (some (.int v))] st h x := (g_step rfl rfl rfl rfl).trans rfl
set_option maxRecDepth 100000 in
theorem e240_1359 {ro : Nat → Nat × (Nat → Int32)} {l0 l1 l3 l4 l5 l6 l7 : Option Value} {st : List Value} {h : List mCel} {x : Nat} {v : Nat} : mW ro mTab 240 1359 [l0, l1, (some (.ref v)), l3, l4, l5, l6, l7] st h x = mW ro mTab 240 1360 [l0, l1, (some (.ref v)), l3, l4, l5, l6, l7] (.ref v :: st) h x := (g_step rfl rfl rfl rfl).trans rfl
set_option maxRecDepth 100000 in
theorem e240_1360 {ro : Nat → Nat × (Nat → Int32)} {l0 l1 l2 l3 l4 l5 l6 l7 : Option Value} {st : List Value} {h : List mCel} {x : Nat} {a0 : Nat} (hr : kR (mCell h a0) 11 = true) (hs : (st.map Value.category).sum ≤ 8) : mW ro mTab 240 1360 [l0, l1, l2, l3, l4, l5, l6, l7] (.ref a0 :: st) h x = mAft (mW ro mTab) (mHd mM_240) 240 1360 [l0, l1, l2, l3, l4, l5, l6, l7] st (mW ro mTab 137 0 [some (.ref a0)] [] h x) := g_call rfl rfl rfl rfl rfl rfl (g_rcv rfl hr) hs
set_option maxRecDepth 100000 in
theorem e240_1363 {ro : Nat → Nat × (Nat → Int32)} {l0 l1 l2 l3 l4 l5 l7 : Option Value} {st : List Value} {h : List mCel} {x : Nat} {v : Int32} : mW ro mTab 240 1363 [l0, l1, l2, l3, l4, l5, (some (.int v)), l7] st h x = mW ro mTab 240 1365 [l0, l1, l2, l3, l4, l5, (some (.int v)), l7] (.int v :: st) h x := (g_step rfl rfl rfl rfl).trans rfl
set_option maxRecDepth 100000 in
theorem e240_1365 {ro : Nat → Nat × (Nat → Int32)} {l0 l1 l2 l3 l4 l5 l6 l7 : Option Value} {st : List Value} {h : List mCel} {x : Nat} {a b : Int32} : mW ro mTab 240 1365 [l0, l1, l2, l3, l4, l5, l6, l7] (.int b :: .int a :: st) h x = if a = b then mW ro mTab 240 1370 [l0, l1, l2, l3, l4, l5, l6, l7] st h x else mW ro mTab 240 1368 [l0, l1, l2, l3, l4, l5, l6, l7] st h x := g_icmp_eq rfl rfl rfl
set_option maxRecDepth 100000 in
theorem e240_1368 {ro : Nat → Nat × (Nat → Int32)} {l0 l1 l2 l3 l4 l5 l6 l7 : Option Value} {st : List Value} {h : List mCel} {x : Nat}  : mW ro mTab 240 1368 [l0, l1, l2, l3, l4, l5, l6, l7] st h x = mW ro mTab 240 1369 [l0, l1, l2, l3, l4, l5, l6, l7] (.int 0 :: st) h x := (g_step rfl rfl rfl rfl).trans rfl
set_option maxRecDepth 100000 in
theorem e240_1369 {ro : Nat → Nat × (Nat → Int32)} {l0 l1 l2 l3 l4 l5 l6 l7 : Option Value} {h : List mCel} {x : Nat} {v : Int32} (hv : v = 0 ∨ v = 1) : mW ro mTab 240 1369 [l0, l1, l2, l3, l4, l5, l6, l7] [.int v] h x = some (.inl (some (.int v)), h, x) := g_zret rfl rfl rfl hv
set_option maxRecDepth 100000 in
theorem e240_1370 {ro : Nat → Nat × (Nat → Int32)} {l0 l1 l2 l3 l4 l5 l7 : Option Value} {st : List Value} {h : List mCel} {x : Nat} {v : Int32} : mW ro mTab 240 1370 [l0, l1, l2, l3, l4, l5, (some (.int v)), l7] st h x = mW ro mTab 240 1372 [l0, l1, l2, l3, l4, l5, (some (.int v)), l7] (.int v :: st) h x := (g_step rfl rfl rfl rfl).trans rfl
set_option maxRecDepth 100000 in
theorem e240_1372 {ro : Nat → Nat × (Nat → Int32)} {l0 l1 l2 l3 l4 l5 l6 l7 : Option Value} {st : List Value} {h : List mCel} {x : Nat} {a : Int32} : mW ro mTab 240 1372 [l0, l1, l2, l3, l4, l5, l6, l7] (.int a :: st) h x = if ¬ a = 0 then mW ro mTab 240 1387 [l0, l1, l2, l3, l4, l5, l6, l7] st h x else mW ro mTab 240 1375 [l0, l1, l2, l3, l4, l5, l6, l7] st h x := g_if_ne rfl rfl rfl
set_option maxRecDepth 100000 in
theorem e240_1375 {ro : Nat → Nat × (Nat → Int32)} {l0 l1 l2 l4 l5 l6 l7 : Option Value} {st : List Value} {h : List mCel} {x : Nat} {v : Nat} : mW ro mTab 240 1375 [l0, l1, l2, (some (.ref v)), l4, l5, l6, l7] st h x = mW ro mTab 240 1376 [l0, l1, l2, (some (.ref v)), l4, l5, l6, l7] (.ref v :: st) h x := (g_step rfl rfl rfl rfl).trans rfl
set_option maxRecDepth 100000 in
theorem e240_1376 {ro : Nat → Nat × (Nat → Int32)} {l0 l1 l2 l3 l4 l5 l6 l7 : Option Value} {st : List Value} {h : List mCel} {x : Nat}  : mW ro mTab 240 1376 [l0, l1, l2, l3, l4, l5, l6, l7] st h x = mW ro mTab 240 1377 [l0, l1, l2, l3, l4, l5, l6, l7] (.int 0 :: st) h x := (g_step rfl rfl rfl rfl).trans rfl
set_option maxRecDepth 100000 in
theorem e240_1377 {ro : Nat → Nat × (Nat → Int32)} {l0 l1 l2 l3 l4 l5 l6 l7 : Option Value} {st : List Value} {h : List mCel} {x : Nat} {a : Nat} {j : Int32} : mW ro mTab 240 1377 [l0, l1, l2, l3, l4, l5, l6, l7] (.int j :: .ref a :: st) h x = kLA h a j fun v => mW ro mTab 240 1378 [l0, l1, l2, l3, l4, l5, l6, l7] (.long v :: st) h x := g_laload rfl rfl
set_option maxRecDepth 100000 in
theorem e240_1378 {ro : Nat → Nat × (Nat → Int32)} {l0 l1 l2 l3 l4 l5 l6 : Option Value} {st : List Value} {h : List mCel} {x : Nat} {v : Int32} : mW ro mTab 240 1378 [l0, l1, l2, l3, l4, l5, l6, (some (.int v))] st h x = mW ro mTab 240 1380 [l0, l1, l2, l3, l4, l5, l6, (some (.int v))] (.int v :: st) h x := (g_step rfl rfl rfl rfl).trans rfl
set_option maxRecDepth 100000 in
theorem e240_1380 {ro : Nat → Nat × (Nat → Int32)} {l0 l1 l2 l3 l4 l5 l6 l7 : Option Value} {st : List Value} {h : List mCel} {x : Nat} {a : Int32} : mW ro mTab 240 1380 [l0, l1, l2, l3, l4, l5, l6, l7] (.int a :: st) h x = mW ro mTab 240 1381 [l0, l1, l2, l3, l4, l5, l6, l7] (.long a.toInt64 :: st) h x := (g_step rfl rfl rfl rfl).trans rfl
set_option maxRecDepth 100000 in
theorem e240_1381 {ro : Nat → Nat × (Nat → Int32)} {l0 l1 l2 l3 l4 l5 l6 l7 : Option Value} {st : List Value} {h : List mCel} {x : Nat} {a b : Int64} : mW ro mTab 240 1381 [l0, l1, l2, l3, l4, l5, l6, l7] (.long b :: .long a :: st) h x = mW ro mTab 240 1382 [l0, l1, l2, l3, l4, l5, l6, l7] (.int (lg_cmp a b) :: st) h x := (g_step rfl rfl rfl rfl).trans rfl
set_option maxRecDepth 100000 in
theorem e240_1382 {ro : Nat → Nat × (Nat → Int32)} {l0 l1 l2 l3 l4 l5 l6 l7 : Option Value} {st : List Value} {h : List mCel} {x : Nat} {a : Int32} : mW ro mTab 240 1382 [l0, l1, l2, l3, l4, l5, l6, l7] (.int a :: st) h x = if a = 0 then mW ro mTab 240 1387 [l0, l1, l2, l3, l4, l5, l6, l7] st h x else mW ro mTab 240 1385 [l0, l1, l2, l3, l4, l5, l6, l7] st h x := g_if_eq rfl rfl rfl
set_option maxRecDepth 100000 in
theorem e240_1385 {ro : Nat → Nat × (Nat → Int32)} {l0 l1 l2 l3 l4 l5 l6 l7 : Option Value} {st : List Value} {h : List mCel} {x : Nat}  : mW ro mTab 240 1385 [l0, l1, l2, l3, l4, l5, l6, l7] st h x = mW ro mTab 240 1386 [l0, l1, l2, l3, l4, l5, l6, l7] (.int 0 :: st) h x := (g_step rfl rfl rfl rfl).trans rfl
set_option maxRecDepth 100000 in
theorem e240_1386 {ro : Nat → Nat × (Nat → Int32)} {l0 l1 l2 l3 l4 l5 l6 l7 : Option Value} {h : List mCel} {x : Nat} {v : Int32} (hv : v = 0 ∨ v = 1) : mW ro mTab 240 1386 [l0, l1, l2, l3, l4, l5, l6, l7] [.int v] h x = some (.inl (some (.int v)), h, x) := g_zret rfl rfl rfl hv
set_option maxRecDepth 100000 in
theorem e240_1387 {ro : Nat → Nat × (Nat → Int32)} {l0 l1 l2 l3 l4 l5 l6 l7 : Option Value} {st : List Value} {h : List mCel} {x : Nat}  : mW ro mTab 240 1387 [l0, l1, l2, l3, l4, l5, l6, l7] st h x = mW ro mTab 240 1980 [l0, l1, l2, l3, l4, l5, l6, l7] st h x := (g_step rfl rfl rfl rfl).trans rfl
set_option maxRecDepth 100000 in
theorem e240_1390 {ro : Nat → Nat × (Nat → Int32)} {l0 l2 l3 l4 l5 l6 l7 : Option Value} {st : List Value} {h : List mCel} {x : Nat} {v : Nat} : mW ro mTab 240 1390 [l0, (some (.ref v)), l2, l3, l4, l5, l6, l7] st h x = mW ro mTab 240 1391 [l0, (some (.ref v)), l2, l3, l4, l5, l6, l7] (.ref v :: st) h x := (g_step rfl rfl rfl rfl).trans rfl
set_option maxRecDepth 100000 in
theorem e240_1391 {ro : Nat → Nat × (Nat → Int32)} {l0 l1 l2 l4 l5 l6 l7 : Option Value} {st : List Value} {h : List mCel} {x : Nat} {v : Nat} : mW ro mTab 240 1391 [l0, l1, l2, (some (.ref v)), l4, l5, l6, l7] st h x = mW ro mTab 240 1392 [l0, l1, l2, (some (.ref v)), l4, l5, l6, l7] (.ref v :: st) h x := (g_step rfl rfl rfl rfl).trans rfl
set_option maxRecDepth 100000 in
theorem e240_1392 {ro : Nat → Nat × (Nat → Int32)} {l0 l1 l2 l3 l4 l5 l6 l7 : Option Value} {st : List Value} {h : List mCel} {x : Nat} {a0 : Nat} {a1 : Nat} (hs : (st.map Value.category).sum ≤ 8) : mW ro mTab 240 1392 [l0, l1, l2, l3, l4, l5, l6, l7] (.ref a1 :: .ref a0 :: st) h x = mAft (mW ro mTab) (mHd mM_240) 240 1392 [l0, l1, l2, l3, l4, l5, l6, l7] st (mW ro mTab 239 0 [some (.ref a0), some (.ref a1), none] [] h x) := g_call rfl rfl rfl rfl rfl rfl rfl hs
set_option maxRecDepth 100000 in
theorem e240_1395 {ro : Nat → Nat × (Nat → Int32)} {l0 l1 l2 l3 l4 l5 l6 l7 : Option Value} {st : List Value} {h : List mCel} {x : Nat} {v : Int32} : mW ro mTab 240 1395 [l0, l1, l2, l3, l4, l5, l6, l7] (.int v :: st) h x = mW ro mTab 240 1397 [l0, l1, l2, l3, l4, l5, (some (.int v)), l7] st h x := (g_step rfl rfl rfl rfl).trans rfl
set_option maxRecDepth 100000 in
theorem e240_1397 {ro : Nat → Nat × (Nat → Int32)} {l0 l1 l3 l4 l5 l6 l7 : Option Value} {st : List Value} {h : List mCel} {x : Nat} {v : Nat} : mW ro mTab 240 1397 [l0, l1, (some (.ref v)), l3, l4, l5, l6, l7] st h x = mW ro mTab 240 1398 [l0, l1, (some (.ref v)), l3, l4, l5, l6, l7] (.ref v :: st) h x := (g_step rfl rfl rfl rfl).trans rfl
set_option maxRecDepth 100000 in
theorem e240_1398 {ro : Nat → Nat × (Nat → Int32)} {l0 l1 l2 l3 l4 l5 l6 l7 : Option Value} {st : List Value} {h : List mCel} {x : Nat} {a0 : Nat} (hr : kR (mCell h a0) 11 = true) (hs : (st.map Value.category).sum ≤ 8) : mW ro mTab 240 1398 [l0, l1, l2, l3, l4, l5, l6, l7] (.ref a0 :: st) h x = mAft (mW ro mTab) (mHd mM_240) 240 1398 [l0, l1, l2, l3, l4, l5, l6, l7] st (mW ro mTab 111 0 [some (.ref a0), none] [] h x) := g_call rfl rfl rfl rfl rfl rfl (g_rcv rfl hr) hs
set_option maxRecDepth 100000 in
theorem e240_1401 {ro : Nat → Nat × (Nat → Int32)} {l0 l1 l2 l3 l4 l5 l6 l7 : Option Value} {st : List Value} {h : List mCel} {x : Nat} {v : Int32} : mW ro mTab 240 1401 [l0, l1, l2, l3, l4, l5, l6, l7] (.int v :: st) h x = mW ro mTab 240 1403 [l0, l1, l2, l3, l4, l5, l6, (some (.int v))] st h x := (g_step rfl rfl rfl rfl).trans rfl
set_option maxRecDepth 100000 in
theorem e240_1403 {ro : Nat → Nat × (Nat → Int32)} {l0 l1 l3 l4 l5 l6 l7 : Option Value} {st : List Value} {h : List mCel} {x : Nat} {v : Nat} : mW ro mTab 240 1403 [l0, l1, (some (.ref v)), l3, l4, l5, l6, l7] st h x = mW ro mTab 240 1404 [l0, l1, (some (.ref v)), l3, l4, l5, l6, l7] (.ref v :: st) h x := (g_step rfl rfl rfl rfl).trans rfl
set_option maxRecDepth 100000 in
theorem e240_1404 {ro : Nat → Nat × (Nat → Int32)} {l0 l1 l2 l3 l4 l5 l6 l7 : Option Value} {st : List Value} {h : List mCel} {x : Nat} {a0 : Nat} (hr : kR (mCell h a0) 11 = true) (hs : (st.map Value.category).sum ≤ 8) : mW ro mTab 240 1404 [l0, l1, l2, l3, l4, l5, l6, l7] (.ref a0 :: st) h x = mAft (mW ro mTab) (mHd mM_240) 240 1404 [l0, l1, l2, l3, l4, l5, l6, l7] st (mW ro mTab 137 0 [some (.ref a0)] [] h x) := g_call rfl rfl rfl rfl rfl rfl (g_rcv rfl hr) hs
set_option maxRecDepth 100000 in
theorem e240_1407 {ro : Nat → Nat × (Nat → Int32)} {l0 l1 l2 l3 l4 l5 l7 : Option Value} {st : List Value} {h : List mCel} {x : Nat} {v : Int32} : mW ro mTab 240 1407 [l0, l1, l2, l3, l4, l5, (some (.int v)), l7] st h x = mW ro mTab 240 1409 [l0, l1, l2, l3, l4, l5, (some (.int v)), l7] (.int v :: st) h x := (g_step rfl rfl rfl rfl).trans rfl
set_option maxRecDepth 100000 in
theorem e240_1409 {ro : Nat → Nat × (Nat → Int32)} {l0 l1 l2 l3 l4 l5 l6 l7 : Option Value} {st : List Value} {h : List mCel} {x : Nat} {a b : Int32} : mW ro mTab 240 1409 [l0, l1, l2, l3, l4, l5, l6, l7] (.int b :: .int a :: st) h x = if a = b then mW ro mTab 240 1414 [l0, l1, l2, l3, l4, l5, l6, l7] st h x else mW ro mTab 240 1412 [l0, l1, l2, l3, l4, l5, l6, l7] st h x := g_icmp_eq rfl rfl rfl
set_option maxRecDepth 100000 in
theorem e240_1412 {ro : Nat → Nat × (Nat → Int32)} {l0 l1 l2 l3 l4 l5 l6 l7 : Option Value} {st : List Value} {h : List mCel} {x : Nat}  : mW ro mTab 240 1412 [l0, l1, l2, l3, l4, l5, l6, l7] st h x = mW ro mTab 240 1413 [l0, l1, l2, l3, l4, l5, l6, l7] (.int 0 :: st) h x := (g_step rfl rfl rfl rfl).trans rfl
set_option maxRecDepth 100000 in
theorem e240_1413 {ro : Nat → Nat × (Nat → Int32)} {l0 l1 l2 l3 l4 l5 l6 l7 : Option Value} {h : List mCel} {x : Nat} {v : Int32} (hv : v = 0 ∨ v = 1) : mW ro mTab 240 1413 [l0, l1, l2, l3, l4, l5, l6, l7] [.int v] h x = some (.inl (some (.int v)), h, x) := g_zret rfl rfl rfl hv
set_option maxRecDepth 100000 in
theorem e240_1414 {ro : Nat → Nat × (Nat → Int32)} {l0 l1 l2 l3 l4 l5 l7 : Option Value} {st : List Value} {h : List mCel} {x : Nat} {v : Int32} : mW ro mTab 240 1414 [l0, l1, l2, l3, l4, l5, (some (.int v)), l7] st h x = mW ro mTab 240 1416 [l0, l1, l2, l3, l4, l5, (some (.int v)), l7] (.int v :: st) h x := (g_step rfl rfl rfl rfl).trans rfl
set_option maxRecDepth 100000 in
theorem e240_1416 {ro : Nat → Nat × (Nat → Int32)} {l0 l1 l2 l3 l4 l5 l6 l7 : Option Value} {st : List Value} {h : List mCel} {x : Nat} {a : Int32} : mW ro mTab 240 1416 [l0, l1, l2, l3, l4, l5, l6, l7] (.int a :: st) h x = if ¬ a = 0 then mW ro mTab 240 1431 [l0, l1, l2, l3, l4, l5, l6, l7] st h x else mW ro mTab 240 1419 [l0, l1, l2, l3, l4, l5, l6, l7] st h x := g_if_ne rfl rfl rfl
set_option maxRecDepth 100000 in
theorem e240_1419 {ro : Nat → Nat × (Nat → Int32)} {l0 l1 l2 l4 l5 l6 l7 : Option Value} {st : List Value} {h : List mCel} {x : Nat} {v : Nat} : mW ro mTab 240 1419 [l0, l1, l2, (some (.ref v)), l4, l5, l6, l7] st h x = mW ro mTab 240 1420 [l0, l1, l2, (some (.ref v)), l4, l5, l6, l7] (.ref v :: st) h x := (g_step rfl rfl rfl rfl).trans rfl
set_option maxRecDepth 100000 in
theorem e240_1420 {ro : Nat → Nat × (Nat → Int32)} {l0 l1 l2 l3 l4 l5 l6 l7 : Option Value} {st : List Value} {h : List mCel} {x : Nat}  : mW ro mTab 240 1420 [l0, l1, l2, l3, l4, l5, l6, l7] st h x = mW ro mTab 240 1421 [l0, l1, l2, l3, l4, l5, l6, l7] (.int 0 :: st) h x := (g_step rfl rfl rfl rfl).trans rfl
set_option maxRecDepth 100000 in
theorem e240_1421 {ro : Nat → Nat × (Nat → Int32)} {l0 l1 l2 l3 l4 l5 l6 l7 : Option Value} {st : List Value} {h : List mCel} {x : Nat} {a : Nat} {j : Int32} : mW ro mTab 240 1421 [l0, l1, l2, l3, l4, l5, l6, l7] (.int j :: .ref a :: st) h x = kLA h a j fun v => mW ro mTab 240 1422 [l0, l1, l2, l3, l4, l5, l6, l7] (.long v :: st) h x := g_laload rfl rfl
set_option maxRecDepth 100000 in
theorem e240_1422 {ro : Nat → Nat × (Nat → Int32)} {l0 l1 l2 l3 l4 l5 l6 : Option Value} {st : List Value} {h : List mCel} {x : Nat} {v : Int32} : mW ro mTab 240 1422 [l0, l1, l2, l3, l4, l5, l6, (some (.int v))] st h x = mW ro mTab 240 1424 [l0, l1, l2, l3, l4, l5, l6, (some (.int v))] (.int v :: st) h x := (g_step rfl rfl rfl rfl).trans rfl
set_option maxRecDepth 100000 in
theorem e240_1424 {ro : Nat → Nat × (Nat → Int32)} {l0 l1 l2 l3 l4 l5 l6 l7 : Option Value} {st : List Value} {h : List mCel} {x : Nat} {a : Int32} : mW ro mTab 240 1424 [l0, l1, l2, l3, l4, l5, l6, l7] (.int a :: st) h x = mW ro mTab 240 1425 [l0, l1, l2, l3, l4, l5, l6, l7] (.long a.toInt64 :: st) h x := (g_step rfl rfl rfl rfl).trans rfl
set_option maxRecDepth 100000 in
theorem e240_1425 {ro : Nat → Nat × (Nat → Int32)} {l0 l1 l2 l3 l4 l5 l6 l7 : Option Value} {st : List Value} {h : List mCel} {x : Nat} {a b : Int64} : mW ro mTab 240 1425 [l0, l1, l2, l3, l4, l5, l6, l7] (.long b :: .long a :: st) h x = mW ro mTab 240 1426 [l0, l1, l2, l3, l4, l5, l6, l7] (.int (lg_cmp a b) :: st) h x := (g_step rfl rfl rfl rfl).trans rfl
set_option maxRecDepth 100000 in
theorem e240_1426 {ro : Nat → Nat × (Nat → Int32)} {l0 l1 l2 l3 l4 l5 l6 l7 : Option Value} {st : List Value} {h : List mCel} {x : Nat} {a : Int32} : mW ro mTab 240 1426 [l0, l1, l2, l3, l4, l5, l6, l7] (.int a :: st) h x = if a = 0 then mW ro mTab 240 1431 [l0, l1, l2, l3, l4, l5, l6, l7] st h x else mW ro mTab 240 1429 [l0, l1, l2, l3, l4, l5, l6, l7] st h x := g_if_eq rfl rfl rfl
set_option maxRecDepth 100000 in
theorem e240_1429 {ro : Nat → Nat × (Nat → Int32)} {l0 l1 l2 l3 l4 l5 l6 l7 : Option Value} {st : List Value} {h : List mCel} {x : Nat}  : mW ro mTab 240 1429 [l0, l1, l2, l3, l4, l5, l6, l7] st h x = mW ro mTab 240 1430 [l0, l1, l2, l3, l4, l5, l6, l7] (.int 0 :: st) h x := (g_step rfl rfl rfl rfl).trans rfl
set_option maxRecDepth 100000 in
theorem e240_1430 {ro : Nat → Nat × (Nat → Int32)} {l0 l1 l2 l3 l4 l5 l6 l7 : Option Value} {h : List mCel} {x : Nat} {v : Int32} (hv : v = 0 ∨ v = 1) : mW ro mTab 240 1430 [l0, l1, l2, l3, l4, l5, l6, l7] [.int v] h x = some (.inl (some (.int v)), h, x) := g_zret rfl rfl rfl hv
set_option maxRecDepth 100000 in
theorem e240_1431 {ro : Nat → Nat × (Nat → Int32)} {l0 l1 l2 l3 l4 l5 l6 l7 : Option Value} {st : List Value} {h : List mCel} {x : Nat}  : mW ro mTab 240 1431 [l0, l1, l2, l3, l4, l5, l6, l7] st h x = mW ro mTab 240 1980 [l0, l1, l2, l3, l4, l5, l6, l7] st h x := (g_step rfl rfl rfl rfl).trans rfl
set_option maxRecDepth 100000 in
theorem e240_1434 {ro : Nat → Nat × (Nat → Int32)} {l0 l2 l3 l4 l5 l6 l7 : Option Value} {st : List Value} {h : List mCel} {x : Nat} {v : Nat} : mW ro mTab 240 1434 [l0, (some (.ref v)), l2, l3, l4, l5, l6, l7] st h x = mW ro mTab 240 1435 [l0, (some (.ref v)), l2, l3, l4, l5, l6, l7] (.ref v :: st) h x := (g_step rfl rfl rfl rfl).trans rfl
set_option maxRecDepth 100000 in
theorem e240_1435 {ro : Nat → Nat × (Nat → Int32)} {l1 l2 l3 l4 l5 l6 l7 : Option Value} {st : List Value} {h : List mCel} {x : Nat} {v : Nat} : mW ro mTab 240 1435 [(some (.ref v)), l1, l2, l3, l4, l5, l6, l7] st h x = mW ro mTab 240 1436 [(some (.ref v)), l1, l2, l3, l4, l5, l6, l7] (.ref v :: st) h x := (g_step rfl rfl rfl rfl).trans rfl
set_option maxRecDepth 100000 in
theorem e240_1436 {ro : Nat → Nat × (Nat → Int32)} {l0 l1 l2 l3 l4 l6 l7 : Option Value} {st : List Value} {h : List mCel} {x : Nat} {v : Int32} : mW ro mTab 240 1436 [l0, l1, l2, l3, l4, (some (.int v)), l6, l7] st h x = mW ro mTab 240 1438 [l0, l1, l2, l3, l4, (some (.int v)), l6, l7] (.int v :: st) h x := (g_step rfl rfl rfl rfl).trans rfl
set_option maxRecDepth 100000 in
theorem e240_1438 {ro : Nat → Nat × (Nat → Int32)} {l0 l1 l2 l3 l4 l5 l6 l7 : Option Value} {st : List Value} {h : List mCel} {x : Nat}  : mW ro mTab 240 1438 [l0, l1, l2, l3, l4, l5, l6, l7] st h x = mW ro mTab 240 1439 [l0, l1, l2, l3, l4, l5, l6, l7] (.int 1 :: st) h x := (g_step rfl rfl rfl rfl).trans rfl
set_option maxRecDepth 100000 in
theorem e240_1439 {ro : Nat → Nat × (Nat → Int32)} {l0 l1 l2 l3 l4 l5 l6 l7 : Option Value} {st : List Value} {h : List mCel} {x : Nat} {a b : Int32} : mW ro mTab 240 1439 [l0, l1, l2, l3, l4, l5, l6, l7] (.int b :: .int a :: st) h x = mW ro mTab 240 1440 [l0, l1, l2, l3, l4, l5, l6, l7] (.int (a + b) :: st) h x := (g_step rfl rfl rfl rfl).trans rfl
set_option maxRecDepth 100000 in
theorem e240_1440 {ro : Nat → Nat × (Nat → Int32)} {l0 l1 l2 l3 l4 l5 l6 l7 : Option Value} {st : List Value} {h : List mCel} {x : Nat} {a : Nat} {j : Int32} : mW ro mTab 240 1440 [l0, l1, l2, l3, l4, l5, l6, l7] (.int j :: .ref a :: st) h x = kIA ro h a j fun v => mW ro mTab 240 1441 [l0, l1, l2, l3, l4, l5, l6, l7] (.int v :: st) h x := g_iaload rfl rfl
set_option maxRecDepth 100000 in
theorem e240_1441 {ro : Nat → Nat × (Nat → Int32)} {l0 l1 l2 l4 l5 l6 l7 : Option Value} {st : List Value} {h : List mCel} {x : Nat} {v : Nat} : mW ro mTab 240 1441 [l0, l1, l2, (some (.ref v)), l4, l5, l6, l7] st h x = mW ro mTab 240 1442 [l0, l1, l2, (some (.ref v)), l4, l5, l6, l7] (.ref v :: st) h x := (g_step rfl rfl rfl rfl).trans rfl
set_option maxRecDepth 100000 in
theorem e240_1442 {ro : Nat → Nat × (Nat → Int32)} {l0 l1 l2 l3 l4 l5 l6 l7 : Option Value} {st : List Value} {h : List mCel} {x : Nat} {a0 : Nat} {a1 : Int32} {a2 : Nat} (hs : (st.map Value.category).sum ≤ 8) : mW ro mTab 240 1442 [l0, l1, l2, l3, l4, l5, l6, l7] (.ref a2 :: .int a1 :: .ref a0 :: st) h x = mAft (mW ro mTab) (mHd mM_240) 240 1442 [l0, l1, l2, l3, l4, l5, l6, l7] st (mW ro mTab 249 0 [some (.ref a0), some (.int a1), some (.ref a2), none] [] h x) := g_call rfl rfl rfl rfl rfl rfl rfl hs
set_option maxRecDepth 100000 in
theorem e240_1445 {ro : Nat → Nat × (Nat → Int32)} {l0 l1 l2 l3 l4 l5 l6 l7 : Option Value} {st : List Value} {h : List mCel} {x : Nat} {v : Int32} : mW ro mTab 240 1445 [l0, l1, l2, l3, l4, l5, l6, l7] (.int v :: st) h x = mW ro mTab 240 1447 [l0, l1, l2, l3, l4, l5, (some (.int v)), l7] st h x := (g_step rfl rfl rfl rfl).trans rfl
set_option maxRecDepth 100000 in
theorem e240_1447 {ro : Nat → Nat × (Nat → Int32)} {l0 l1 l3 l4 l5 l6 l7 : Option Value} {st : List Value} {h : List mCel} {x : Nat} {v : Nat} : mW ro mTab 240 1447 [l0, l1, (some (.ref v)), l3, l4, l5, l6, l7] st h x = mW ro mTab 240 1448 [l0, l1, (some (.ref v)), l3, l4, l5, l6, l7] (.ref v :: st) h x := (g_step rfl rfl rfl rfl).trans rfl
set_option maxRecDepth 100000 in
theorem e240_1448 {ro : Nat → Nat × (Nat → Int32)} {l1 l2 l3 l4 l5 l6 l7 : Option Value} {st : List Value} {h : List mCel} {x : Nat} {v : Nat} : mW ro mTab 240 1448 [(some (.ref v)), l1, l2, l3, l4, l5, l6, l7] st h x = mW ro mTab 240 1449 [(some (.ref v)), l1, l2, l3, l4, l5, l6, l7] (.ref v :: st) h x := (g_step rfl rfl rfl rfl).trans rfl
set_option maxRecDepth 100000 in
theorem e240_1449 {ro : Nat → Nat × (Nat → Int32)} {l0 l1 l2 l3 l4 l6 l7 : Option Value} {st : List Value} {h : List mCel} {x : Nat} {v : Int32} : mW ro mTab 240 1449 [l0, l1, l2, l3, l4, (some (.int v)), l6, l7] st h x = mW ro mTab 240 1451 [l0, l1, l2, l3, l4, (some (.int v)), l6, l7] (.int v :: st) h x := (g_step rfl rfl rfl rfl).trans rfl
set_option maxRecDepth 100000 in
theorem e240_1451 {ro : Nat → Nat × (Nat → Int32)} {l0 l1 l2 l3 l4 l5 l6 l7 : Option Value} {st : List Value} {h : List mCel} {x : Nat}  : mW ro mTab 240 1451 [l0, l1, l2, l3, l4, l5, l6, l7] st h x = mW ro mTab 240 1452 [l0, l1, l2, l3, l4, l5, l6, l7] (.int 1 :: st) h x := (g_step rfl rfl rfl rfl).trans rfl
set_option maxRecDepth 100000 in
theorem e240_1452 {ro : Nat → Nat × (Nat → Int32)} {l0 l1 l2 l3 l4 l5 l6 l7 : Option Value} {st : List Value} {h : List mCel} {x : Nat} {a b : Int32} : mW ro mTab 240 1452 [l0, l1, l2, l3, l4, l5, l6, l7] (.int b :: .int a :: st) h x = mW ro mTab 240 1453 [l0, l1, l2, l3, l4, l5, l6, l7] (.int (a + b) :: st) h x := (g_step rfl rfl rfl rfl).trans rfl
set_option maxRecDepth 100000 in
theorem e240_1453 {ro : Nat → Nat × (Nat → Int32)} {l0 l1 l2 l3 l4 l5 l6 l7 : Option Value} {st : List Value} {h : List mCel} {x : Nat} {a : Nat} {j : Int32} : mW ro mTab 240 1453 [l0, l1, l2, l3, l4, l5, l6, l7] (.int j :: .ref a :: st) h x = kIA ro h a j fun v => mW ro mTab 240 1454 [l0, l1, l2, l3, l4, l5, l6, l7] (.int v :: st) h x := g_iaload rfl rfl
set_option maxRecDepth 100000 in
theorem e240_1454 {ro : Nat → Nat × (Nat → Int32)} {l0 l1 l2 l3 l4 l5 l6 l7 : Option Value} {st : List Value} {h : List mCel} {x : Nat} {a0 : Nat} {a1 : Int32} (hr : kR (mCell h a0) 11 = true) (hs : (st.map Value.category).sum ≤ 8) : mW ro mTab 240 1454 [l0, l1, l2, l3, l4, l5, l6, l7] (.int a1 :: .ref a0 :: st) h x = mAft (mW ro mTab) (mHd mM_240) 240 1454 [l0, l1, l2, l3, l4, l5, l6, l7] st (mW ro mTab 129 0 [some (.ref a0), some (.int a1), none, none, none] [] h x) := g_call rfl rfl rfl rfl rfl rfl (g_rcv rfl hr) hs
set_option maxRecDepth 100000 in
theorem e240_1457 {ro : Nat → Nat × (Nat → Int32)} {l0 l1 l2 l3 l4 l5 l6 l7 : Option Value} {st : List Value} {h : List mCel} {x : Nat} {v : Int32} : mW ro mTab 240 1457 [l0, l1, l2, l3, l4, l5, l6, l7] (.int v :: st) h x = mW ro mTab 240 1459 [l0, l1, l2, l3, l4, l5, l6, (some (.int v))] st h x := (g_step rfl rfl rfl rfl).trans rfl
set_option maxRecDepth 100000 in
theorem e240_1459 {ro : Nat → Nat × (Nat → Int32)} {l0 l1 l3 l4 l5 l6 l7 : Option Value} {st : List Value} {h : List mCel} {x : Nat} {v : Nat} : mW ro mTab 240 1459 [l0, l1, (some (.ref v)), l3, l4, l5, l6, l7] st h x = mW ro mTab 240 1460 [l0, l1, (some (.ref v)), l3, l4, l5, l6, l7] (.ref v :: st) h x := (g_step rfl rfl rfl rfl).trans rfl
set_option maxRecDepth 100000 in
theorem e240_1460 {ro : Nat → Nat × (Nat → Int32)} {l0 l1 l2 l3 l4 l5 l6 l7 : Option Value} {st : List Value} {h : List mCel} {x : Nat} {a0 : Nat} (hr : kR (mCell h a0) 11 = true) (hs : (st.map Value.category).sum ≤ 8) : mW ro mTab 240 1460 [l0, l1, l2, l3, l4, l5, l6, l7] (.ref a0 :: st) h x = mAft (mW ro mTab) (mHd mM_240) 240 1460 [l0, l1, l2, l3, l4, l5, l6, l7] st (mW ro mTab 137 0 [some (.ref a0)] [] h x) := g_call rfl rfl rfl rfl rfl rfl (g_rcv rfl hr) hs
set_option maxRecDepth 100000 in
theorem e240_1463 {ro : Nat → Nat × (Nat → Int32)} {l0 l1 l2 l3 l4 l5 l7 : Option Value} {st : List Value} {h : List mCel} {x : Nat} {v : Int32} : mW ro mTab 240 1463 [l0, l1, l2, l3, l4, l5, (some (.int v)), l7] st h x = mW ro mTab 240 1465 [l0, l1, l2, l3, l4, l5, (some (.int v)), l7] (.int v :: st) h x := (g_step rfl rfl rfl rfl).trans rfl
set_option maxRecDepth 100000 in
theorem e240_1465 {ro : Nat → Nat × (Nat → Int32)} {l0 l1 l2 l3 l4 l5 l6 l7 : Option Value} {st : List Value} {h : List mCel} {x : Nat} {a b : Int32} : mW ro mTab 240 1465 [l0, l1, l2, l3, l4, l5, l6, l7] (.int b :: .int a :: st) h x = if a = b then mW ro mTab 240 1470 [l0, l1, l2, l3, l4, l5, l6, l7] st h x else mW ro mTab 240 1468 [l0, l1, l2, l3, l4, l5, l6, l7] st h x := g_icmp_eq rfl rfl rfl
set_option maxRecDepth 100000 in
theorem e240_1468 {ro : Nat → Nat × (Nat → Int32)} {l0 l1 l2 l3 l4 l5 l6 l7 : Option Value} {st : List Value} {h : List mCel} {x : Nat}  : mW ro mTab 240 1468 [l0, l1, l2, l3, l4, l5, l6, l7] st h x = mW ro mTab 240 1469 [l0, l1, l2, l3, l4, l5, l6, l7] (.int 0 :: st) h x := (g_step rfl rfl rfl rfl).trans rfl
set_option maxRecDepth 100000 in
theorem e240_1469 {ro : Nat → Nat × (Nat → Int32)} {l0 l1 l2 l3 l4 l5 l6 l7 : Option Value} {h : List mCel} {x : Nat} {v : Int32} (hv : v = 0 ∨ v = 1) : mW ro mTab 240 1469 [l0, l1, l2, l3, l4, l5, l6, l7] [.int v] h x = some (.inl (some (.int v)), h, x) := g_zret rfl rfl rfl hv
set_option maxRecDepth 100000 in
theorem e240_1470 {ro : Nat → Nat × (Nat → Int32)} {l0 l1 l2 l3 l4 l5 l7 : Option Value} {st : List Value} {h : List mCel} {x : Nat} {v : Int32} : mW ro mTab 240 1470 [l0, l1, l2, l3, l4, l5, (some (.int v)), l7] st h x = mW ro mTab 240 1472 [l0, l1, l2, l3, l4, l5, (some (.int v)), l7] (.int v :: st) h x := (g_step rfl rfl rfl rfl).trans rfl
set_option maxRecDepth 100000 in
theorem e240_1472 {ro : Nat → Nat × (Nat → Int32)} {l0 l1 l2 l3 l4 l5 l6 l7 : Option Value} {st : List Value} {h : List mCel} {x : Nat} {a : Int32} : mW ro mTab 240 1472 [l0, l1, l2, l3, l4, l5, l6, l7] (.int a :: st) h x = if ¬ a = 0 then mW ro mTab 240 1487 [l0, l1, l2, l3, l4, l5, l6, l7] st h x else mW ro mTab 240 1475 [l0, l1, l2, l3, l4, l5, l6, l7] st h x := g_if_ne rfl rfl rfl
set_option maxRecDepth 100000 in
theorem e240_1475 {ro : Nat → Nat × (Nat → Int32)} {l0 l1 l2 l4 l5 l6 l7 : Option Value} {st : List Value} {h : List mCel} {x : Nat} {v : Nat} : mW ro mTab 240 1475 [l0, l1, l2, (some (.ref v)), l4, l5, l6, l7] st h x = mW ro mTab 240 1476 [l0, l1, l2, (some (.ref v)), l4, l5, l6, l7] (.ref v :: st) h x := (g_step rfl rfl rfl rfl).trans rfl
set_option maxRecDepth 100000 in
theorem e240_1476 {ro : Nat → Nat × (Nat → Int32)} {l0 l1 l2 l3 l4 l5 l6 l7 : Option Value} {st : List Value} {h : List mCel} {x : Nat}  : mW ro mTab 240 1476 [l0, l1, l2, l3, l4, l5, l6, l7] st h x = mW ro mTab 240 1477 [l0, l1, l2, l3, l4, l5, l6, l7] (.int 0 :: st) h x := (g_step rfl rfl rfl rfl).trans rfl
set_option maxRecDepth 100000 in
theorem e240_1477 {ro : Nat → Nat × (Nat → Int32)} {l0 l1 l2 l3 l4 l5 l6 l7 : Option Value} {st : List Value} {h : List mCel} {x : Nat} {a : Nat} {j : Int32} : mW ro mTab 240 1477 [l0, l1, l2, l3, l4, l5, l6, l7] (.int j :: .ref a :: st) h x = kLA h a j fun v => mW ro mTab 240 1478 [l0, l1, l2, l3, l4, l5, l6, l7] (.long v :: st) h x := g_laload rfl rfl
set_option maxRecDepth 100000 in
theorem e240_1478 {ro : Nat → Nat × (Nat → Int32)} {l0 l1 l2 l3 l4 l5 l6 : Option Value} {st : List Value} {h : List mCel} {x : Nat} {v : Int32} : mW ro mTab 240 1478 [l0, l1, l2, l3, l4, l5, l6, (some (.int v))] st h x = mW ro mTab 240 1480 [l0, l1, l2, l3, l4, l5, l6, (some (.int v))] (.int v :: st) h x := (g_step rfl rfl rfl rfl).trans rfl
set_option maxRecDepth 100000 in
theorem e240_1480 {ro : Nat → Nat × (Nat → Int32)} {l0 l1 l2 l3 l4 l5 l6 l7 : Option Value} {st : List Value} {h : List mCel} {x : Nat} {a : Int32} : mW ro mTab 240 1480 [l0, l1, l2, l3, l4, l5, l6, l7] (.int a :: st) h x = mW ro mTab 240 1481 [l0, l1, l2, l3, l4, l5, l6, l7] (.long a.toInt64 :: st) h x := (g_step rfl rfl rfl rfl).trans rfl
set_option maxRecDepth 100000 in
theorem e240_1481 {ro : Nat → Nat × (Nat → Int32)} {l0 l1 l2 l3 l4 l5 l6 l7 : Option Value} {st : List Value} {h : List mCel} {x : Nat} {a b : Int64} : mW ro mTab 240 1481 [l0, l1, l2, l3, l4, l5, l6, l7] (.long b :: .long a :: st) h x = mW ro mTab 240 1482 [l0, l1, l2, l3, l4, l5, l6, l7] (.int (lg_cmp a b) :: st) h x := (g_step rfl rfl rfl rfl).trans rfl
set_option maxRecDepth 100000 in
theorem e240_1482 {ro : Nat → Nat × (Nat → Int32)} {l0 l1 l2 l3 l4 l5 l6 l7 : Option Value} {st : List Value} {h : List mCel} {x : Nat} {a : Int32} : mW ro mTab 240 1482 [l0, l1, l2, l3, l4, l5, l6, l7] (.int a :: st) h x = if a = 0 then mW ro mTab 240 1487 [l0, l1, l2, l3, l4, l5, l6, l7] st h x else mW ro mTab 240 1485 [l0, l1, l2, l3, l4, l5, l6, l7] st h x := g_if_eq rfl rfl rfl
set_option maxRecDepth 100000 in
theorem e240_1485 {ro : Nat → Nat × (Nat → Int32)} {l0 l1 l2 l3 l4 l5 l6 l7 : Option Value} {st : List Value} {h : List mCel} {x : Nat}  : mW ro mTab 240 1485 [l0, l1, l2, l3, l4, l5, l6, l7] st h x = mW ro mTab 240 1486 [l0, l1, l2, l3, l4, l5, l6, l7] (.int 0 :: st) h x := (g_step rfl rfl rfl rfl).trans rfl
set_option maxRecDepth 100000 in
theorem e240_1486 {ro : Nat → Nat × (Nat → Int32)} {l0 l1 l2 l3 l4 l5 l6 l7 : Option Value} {h : List mCel} {x : Nat} {v : Int32} (hv : v = 0 ∨ v = 1) : mW ro mTab 240 1486 [l0, l1, l2, l3, l4, l5, l6, l7] [.int v] h x = some (.inl (some (.int v)), h, x) := g_zret rfl rfl rfl hv
set_option maxRecDepth 100000 in
theorem e240_1487 {ro : Nat → Nat × (Nat → Int32)} {l0 l1 l2 l3 l4 l5 l6 l7 : Option Value} {st : List Value} {h : List mCel} {x : Nat}  : mW ro mTab 240 1487 [l0, l1, l2, l3, l4, l5, l6, l7] st h x = mW ro mTab 240 1980 [l0, l1, l2, l3, l4, l5, l6, l7] st h x := (g_step rfl rfl rfl rfl).trans rfl
set_option maxRecDepth 100000 in
theorem e240_1490 {ro : Nat → Nat × (Nat → Int32)} {l0 l2 l3 l4 l5 l6 l7 : Option Value} {st : List Value} {h : List mCel} {x : Nat} {v : Nat} : mW ro mTab 240 1490 [l0, (some (.ref v)), l2, l3, l4, l5, l6, l7] st h x = mW ro mTab 240 1491 [l0, (some (.ref v)), l2, l3, l4, l5, l6, l7] (.ref v :: st) h x := (g_step rfl rfl rfl rfl).trans rfl
set_option maxRecDepth 100000 in
theorem e240_1491 {ro : Nat → Nat × (Nat → Int32)} {l1 l2 l3 l4 l5 l6 l7 : Option Value} {st : List Value} {h : List mCel} {x : Nat} {v : Nat} : mW ro mTab 240 1491 [(some (.ref v)), l1, l2, l3, l4, l5, l6, l7] st h x = mW ro mTab 240 1492 [(some (.ref v)), l1, l2, l3, l4, l5, l6, l7] (.ref v :: st) h x := (g_step rfl rfl rfl rfl).trans rfl
set_option maxRecDepth 100000 in
theorem e240_1492 {ro : Nat → Nat × (Nat → Int32)} {l0 l1 l2 l3 l4 l6 l7 : Option Value} {st : List Value} {h : List mCel} {x : Nat} {v : Int32} : mW ro mTab 240 1492 [l0, l1, l2, l3, l4, (some (.int v)), l6, l7] st h x = mW ro mTab 240 1494 [l0, l1, l2, l3, l4, (some (.int v)), l6, l7] (.int v :: st) h x := (g_step rfl rfl rfl rfl).trans rfl
set_option maxRecDepth 100000 in
theorem e240_1494 {ro : Nat → Nat × (Nat → Int32)} {l0 l1 l2 l3 l4 l5 l6 l7 : Option Value} {st : List Value} {h : List mCel} {x : Nat}  : mW ro mTab 240 1494 [l0, l1, l2, l3, l4, l5, l6, l7] st h x = mW ro mTab 240 1495 [l0, l1, l2, l3, l4, l5, l6, l7] (.int 1 :: st) h x := (g_step rfl rfl rfl rfl).trans rfl
set_option maxRecDepth 100000 in
theorem e240_1495 {ro : Nat → Nat × (Nat → Int32)} {l0 l1 l2 l3 l4 l5 l6 l7 : Option Value} {st : List Value} {h : List mCel} {x : Nat} {a b : Int32} : mW ro mTab 240 1495 [l0, l1, l2, l3, l4, l5, l6, l7] (.int b :: .int a :: st) h x = mW ro mTab 240 1496 [l0, l1, l2, l3, l4, l5, l6, l7] (.int (a + b) :: st) h x := (g_step rfl rfl rfl rfl).trans rfl
set_option maxRecDepth 100000 in
theorem e240_1496 {ro : Nat → Nat × (Nat → Int32)} {l0 l1 l2 l3 l4 l5 l6 l7 : Option Value} {st : List Value} {h : List mCel} {x : Nat} {a : Nat} {j : Int32} : mW ro mTab 240 1496 [l0, l1, l2, l3, l4, l5, l6, l7] (.int j :: .ref a :: st) h x = kIA ro h a j fun v => mW ro mTab 240 1497 [l0, l1, l2, l3, l4, l5, l6, l7] (.int v :: st) h x := g_iaload rfl rfl
set_option maxRecDepth 100000 in
theorem e240_1497 {ro : Nat → Nat × (Nat → Int32)} {l1 l2 l3 l4 l5 l6 l7 : Option Value} {st : List Value} {h : List mCel} {x : Nat} {v : Nat} : mW ro mTab 240 1497 [(some (.ref v)), l1, l2, l3, l4, l5, l6, l7] st h x = mW ro mTab 240 1498 [(some (.ref v)), l1, l2, l3, l4, l5, l6, l7] (.ref v :: st) h x := (g_step rfl rfl rfl rfl).trans rfl
set_option maxRecDepth 100000 in
theorem e240_1498 {ro : Nat → Nat × (Nat → Int32)} {l0 l1 l2 l3 l4 l6 l7 : Option Value} {st : List Value} {h : List mCel} {x : Nat} {v : Int32} : mW ro mTab 240 1498 [l0, l1, l2, l3, l4, (some (.int v)), l6, l7] st h x = mW ro mTab 240 1500 [l0, l1, l2, l3, l4, (some (.int v)), l6, l7] (.int v :: st) h x := (g_step rfl rfl rfl rfl).trans rfl
set_option maxRecDepth 100000 in
theorem e240_1500 {ro : Nat → Nat × (Nat → Int32)} {l0 l1 l2 l3 l4 l5 l6 l7 : Option Value} {st : List Value} {h : List mCel} {x : Nat}  : mW ro mTab 240 1500 [l0, l1, l2, l3, l4, l5, l6, l7] st h x = mW ro mTab 240 1501 [l0, l1, l2, l3, l4, l5, l6, l7] (.int 2 :: st) h x := (g_step rfl rfl rfl rfl).trans rfl
set_option maxRecDepth 100000 in
theorem e240_1501 {ro : Nat → Nat × (Nat → Int32)} {l0 l1 l2 l3 l4 l5 l6 l7 : Option Value} {st : List Value} {h : List mCel} {x : Nat} {a b : Int32} : mW ro mTab 240 1501 [l0, l1, l2, l3, l4, l5, l6, l7] (.int b :: .int a :: st) h x = mW ro mTab 240 1502 [l0, l1, l2, l3, l4, l5, l6, l7] (.int (a + b) :: st) h x := (g_step rfl rfl rfl rfl).trans rfl
set_option maxRecDepth 100000 in
theorem e240_1502 {ro : Nat → Nat × (Nat → Int32)} {l0 l1 l2 l3 l4 l5 l6 l7 : Option Value} {st : List Value} {h : List mCel} {x : Nat} {a : Nat} {j : Int32} : mW ro mTab 240 1502 [l0, l1, l2, l3, l4, l5, l6, l7] (.int j :: .ref a :: st) h x = kIA ro h a j fun v => mW ro mTab 240 1503 [l0, l1, l2, l3, l4, l5, l6, l7] (.int v :: st) h x := g_iaload rfl rfl
set_option maxRecDepth 100000 in
theorem e240_1503 {ro : Nat → Nat × (Nat → Int32)} {l0 l1 l2 l4 l5 l6 l7 : Option Value} {st : List Value} {h : List mCel} {x : Nat} {v : Nat} : mW ro mTab 240 1503 [l0, l1, l2, (some (.ref v)), l4, l5, l6, l7] st h x = mW ro mTab 240 1504 [l0, l1, l2, (some (.ref v)), l4, l5, l6, l7] (.ref v :: st) h x := (g_step rfl rfl rfl rfl).trans rfl
set_option maxRecDepth 100000 in
theorem e240_1504 {ro : Nat → Nat × (Nat → Int32)} {l0 l1 l2 l3 l4 l5 l6 l7 : Option Value} {st : List Value} {h : List mCel} {x : Nat} {a0 : Nat} {a1 : Int32} {a2 : Int32} {a3 : Nat} (hs : (st.map Value.category).sum ≤ 8) : mW ro mTab 240 1504 [l0, l1, l2, l3, l4, l5, l6, l7] (.ref a3 :: .int a2 :: .int a1 :: .ref a0 :: st) h x = mAft (mW ro mTab) (mHd mM_240) 240 1504 [l0, l1, l2, l3, l4, l5, l6, l7] st (mW ro mTab 245 0 [some (.ref a0), some (.int a1), some (.int a2), some (.ref a3), none] [] h x) := g_call rfl rfl rfl rfl rfl rfl rfl hs
set_option maxRecDepth 100000 in
theorem e240_1507 {ro : Nat → Nat × (Nat → Int32)} {l0 l1 l2 l3 l4 l5 l6 l7 : Option Value} {st : List Value} {h : List mCel} {x : Nat} {v : Int32} : mW ro mTab 240 1507 [l0, l1, l2, l3, l4, l5, l6, l7] (.int v :: st) h x = mW ro mTab 240 1509 [l0, l1, l2, l3, l4, l5, (some (.int v)), l7] st h x := (g_step rfl rfl rfl rfl).trans rfl
set_option maxRecDepth 100000 in
theorem e240_1509 {ro : Nat → Nat × (Nat → Int32)} {l0 l1 l3 l4 l5 l6 l7 : Option Value} {st : List Value} {h : List mCel} {x : Nat} {v : Nat} : mW ro mTab 240 1509 [l0, l1, (some (.ref v)), l3, l4, l5, l6, l7] st h x = mW ro mTab 240 1510 [l0, l1, (some (.ref v)), l3, l4, l5, l6, l7] (.ref v :: st) h x := (g_step rfl rfl rfl rfl).trans rfl
set_option maxRecDepth 100000 in
theorem e240_1510 {ro : Nat → Nat × (Nat → Int32)} {l1 l2 l3 l4 l5 l6 l7 : Option Value} {st : List Value} {h : List mCel} {x : Nat} {v : Nat} : mW ro mTab 240 1510 [(some (.ref v)), l1, l2, l3, l4, l5, l6, l7] st h x = mW ro mTab 240 1511 [(some (.ref v)), l1, l2, l3, l4, l5, l6, l7] (.ref v :: st) h x := (g_step rfl rfl rfl rfl).trans rfl
set_option maxRecDepth 100000 in
theorem e240_1511 {ro : Nat → Nat × (Nat → Int32)} {l0 l1 l2 l3 l4 l6 l7 : Option Value} {st : List Value} {h : List mCel} {x : Nat} {v : Int32} : mW ro mTab 240 1511 [l0, l1, l2, l3, l4, (some (.int v)), l6, l7] st h x = mW ro mTab 240 1513 [l0, l1, l2, l3, l4, (some (.int v)), l6, l7] (.int v :: st) h x := (g_step rfl rfl rfl rfl).trans rfl
set_option maxRecDepth 100000 in
theorem e240_1513 {ro : Nat → Nat × (Nat → Int32)} {l0 l1 l2 l3 l4 l5 l6 l7 : Option Value} {st : List Value} {h : List mCel} {x : Nat}  : mW ro mTab 240 1513 [l0, l1, l2, l3, l4, l5, l6, l7] st h x = mW ro mTab 240 1514 [l0, l1, l2, l3, l4, l5, l6, l7] (.int 1 :: st) h x := (g_step rfl rfl rfl rfl).trans rfl
set_option maxRecDepth 100000 in
theorem e240_1514 {ro : Nat → Nat × (Nat → Int32)} {l0 l1 l2 l3 l4 l5 l6 l7 : Option Value} {st : List Value} {h : List mCel} {x : Nat} {a b : Int32} : mW ro mTab 240 1514 [l0, l1, l2, l3, l4, l5, l6, l7] (.int b :: .int a :: st) h x = mW ro mTab 240 1515 [l0, l1, l2, l3, l4, l5, l6, l7] (.int (a + b) :: st) h x := (g_step rfl rfl rfl rfl).trans rfl
set_option maxRecDepth 100000 in
theorem e240_1515 {ro : Nat → Nat × (Nat → Int32)} {l0 l1 l2 l3 l4 l5 l6 l7 : Option Value} {st : List Value} {h : List mCel} {x : Nat} {a : Nat} {j : Int32} : mW ro mTab 240 1515 [l0, l1, l2, l3, l4, l5, l6, l7] (.int j :: .ref a :: st) h x = kIA ro h a j fun v => mW ro mTab 240 1516 [l0, l1, l2, l3, l4, l5, l6, l7] (.int v :: st) h x := g_iaload rfl rfl
set_option maxRecDepth 100000 in
theorem e240_1516 {ro : Nat → Nat × (Nat → Int32)} {l1 l2 l3 l4 l5 l6 l7 : Option Value} {st : List Value} {h : List mCel} {x : Nat} {v : Nat} : mW ro mTab 240 1516 [(some (.ref v)), l1, l2, l3, l4, l5, l6, l7] st h x = mW ro mTab 240 1517 [(some (.ref v)), l1, l2, l3, l4, l5, l6, l7] (.ref v :: st) h x := (g_step rfl rfl rfl rfl).trans rfl
set_option maxRecDepth 100000 in
theorem e240_1517 {ro : Nat → Nat × (Nat → Int32)} {l0 l1 l2 l3 l4 l6 l7 : Option Value} {st : List Value} {h : List mCel} {x : Nat} {v : Int32} : mW ro mTab 240 1517 [l0, l1, l2, l3, l4, (some (.int v)), l6, l7] st h x = mW ro mTab 240 1519 [l0, l1, l2, l3, l4, (some (.int v)), l6, l7] (.int v :: st) h x := (g_step rfl rfl rfl rfl).trans rfl
set_option maxRecDepth 100000 in
theorem e240_1519 {ro : Nat → Nat × (Nat → Int32)} {l0 l1 l2 l3 l4 l5 l6 l7 : Option Value} {st : List Value} {h : List mCel} {x : Nat}  : mW ro mTab 240 1519 [l0, l1, l2, l3, l4, l5, l6, l7] st h x = mW ro mTab 240 1520 [l0, l1, l2, l3, l4, l5, l6, l7] (.int 2 :: st) h x := (g_step rfl rfl rfl rfl).trans rfl
set_option maxRecDepth 100000 in
theorem e240_1520 {ro : Nat → Nat × (Nat → Int32)} {l0 l1 l2 l3 l4 l5 l6 l7 : Option Value} {st : List Value} {h : List mCel} {x : Nat} {a b : Int32} : mW ro mTab 240 1520 [l0, l1, l2, l3, l4, l5, l6, l7] (.int b :: .int a :: st) h x = mW ro mTab 240 1521 [l0, l1, l2, l3, l4, l5, l6, l7] (.int (a + b) :: st) h x := (g_step rfl rfl rfl rfl).trans rfl
set_option maxRecDepth 100000 in
theorem e240_1521 {ro : Nat → Nat × (Nat → Int32)} {l0 l1 l2 l3 l4 l5 l6 l7 : Option Value} {st : List Value} {h : List mCel} {x : Nat} {a : Nat} {j : Int32} : mW ro mTab 240 1521 [l0, l1, l2, l3, l4, l5, l6, l7] (.int j :: .ref a :: st) h x = kIA ro h a j fun v => mW ro mTab 240 1522 [l0, l1, l2, l3, l4, l5, l6, l7] (.int v :: st) h x := g_iaload rfl rfl
set_option maxRecDepth 100000 in
theorem e240_1522 {ro : Nat → Nat × (Nat → Int32)} {l0 l1 l2 l3 l4 l5 l6 l7 : Option Value} {st : List Value} {h : List mCel} {x : Nat} {a0 : Nat} {a1 : Int32} {a2 : Int32} (hr : kR (mCell h a0) 11 = true) (hs : (st.map Value.category).sum ≤ 8) : mW ro mTab 240 1522 [l0, l1, l2, l3, l4, l5, l6, l7] (.int a2 :: .int a1 :: .ref a0 :: st) h x = mAft (mW ro mTab) (mHd mM_240) 240 1522 [l0, l1, l2, l3, l4, l5, l6, l7] st (mW ro mTab 123 0 [some (.ref a0), some (.int a1), some (.int a2)] [] h x) := g_call rfl rfl rfl rfl rfl rfl (g_rcv rfl hr) hs
set_option maxRecDepth 100000 in
theorem e240_1525 {ro : Nat → Nat × (Nat → Int32)} {l0 l1 l2 l3 l4 l5 l6 l7 : Option Value} {st : List Value} {h : List mCel} {x : Nat} {v : Int32} : mW ro mTab 240 1525 [l0, l1, l2, l3, l4, l5, l6, l7] (.int v :: st) h x = mW ro mTab 240 1527 [l0, l1, l2, l3, l4, l5, l6, (some (.int v))] st h x := (g_step rfl rfl rfl rfl).trans rfl
set_option maxRecDepth 100000 in
theorem e240_1527 {ro : Nat → Nat × (Nat → Int32)} {l0 l1 l3 l4 l5 l6 l7 : Option Value} {st : List Value} {h : List mCel} {x : Nat} {v : Nat} : mW ro mTab 240 1527 [l0, l1, (some (.ref v)), l3, l4, l5, l6, l7] st h x = mW ro mTab 240 1528 [l0, l1, (some (.ref v)), l3, l4, l5, l6, l7] (.ref v :: st) h x := (g_step rfl rfl rfl rfl).trans rfl
set_option maxRecDepth 100000 in
theorem e240_1528 {ro : Nat → Nat × (Nat → Int32)} {l0 l1 l2 l3 l4 l5 l6 l7 : Option Value} {st : List Value} {h : List mCel} {x : Nat} {a0 : Nat} (hr : kR (mCell h a0) 11 = true) (hs : (st.map Value.category).sum ≤ 8) : mW ro mTab 240 1528 [l0, l1, l2, l3, l4, l5, l6, l7] (.ref a0 :: st) h x = mAft (mW ro mTab) (mHd mM_240) 240 1528 [l0, l1, l2, l3, l4, l5, l6, l7] st (mW ro mTab 137 0 [some (.ref a0)] [] h x) := g_call rfl rfl rfl rfl rfl rfl (g_rcv rfl hr) hs
set_option maxRecDepth 100000 in
theorem e240_1531 {ro : Nat → Nat × (Nat → Int32)} {l0 l1 l2 l3 l4 l5 l7 : Option Value} {st : List Value} {h : List mCel} {x : Nat} {v : Int32} : mW ro mTab 240 1531 [l0, l1, l2, l3, l4, l5, (some (.int v)), l7] st h x = mW ro mTab 240 1533 [l0, l1, l2, l3, l4, l5, (some (.int v)), l7] (.int v :: st) h x := (g_step rfl rfl rfl rfl).trans rfl
set_option maxRecDepth 100000 in
theorem e240_1533 {ro : Nat → Nat × (Nat → Int32)} {l0 l1 l2 l3 l4 l5 l6 l7 : Option Value} {st : List Value} {h : List mCel} {x : Nat} {a b : Int32} : mW ro mTab 240 1533 [l0, l1, l2, l3, l4, l5, l6, l7] (.int b :: .int a :: st) h x = if a = b then mW ro mTab 240 1538 [l0, l1, l2, l3, l4, l5, l6, l7] st h x else mW ro mTab 240 1536 [l0, l1, l2, l3, l4, l5, l6, l7] st h x := g_icmp_eq rfl rfl rfl
set_option maxRecDepth 100000 in
theorem e240_1536 {ro : Nat → Nat × (Nat → Int32)} {l0 l1 l2 l3 l4 l5 l6 l7 : Option Value} {st : List Value} {h : List mCel} {x : Nat}  : mW ro mTab 240 1536 [l0, l1, l2, l3, l4, l5, l6, l7] st h x = mW ro mTab 240 1537 [l0, l1, l2, l3, l4, l5, l6, l7] (.int 0 :: st) h x := (g_step rfl rfl rfl rfl).trans rfl
set_option maxRecDepth 100000 in
theorem e240_1537 {ro : Nat → Nat × (Nat → Int32)} {l0 l1 l2 l3 l4 l5 l6 l7 : Option Value} {h : List mCel} {x : Nat} {v : Int32} (hv : v = 0 ∨ v = 1) : mW ro mTab 240 1537 [l0, l1, l2, l3, l4, l5, l6, l7] [.int v] h x = some (.inl (some (.int v)), h, x) := g_zret rfl rfl rfl hv
set_option maxRecDepth 100000 in
theorem e240_1538 {ro : Nat → Nat × (Nat → Int32)} {l0 l1 l2 l3 l4 l5 l7 : Option Value} {st : List Value} {h : List mCel} {x : Nat} {v : Int32} : mW ro mTab 240 1538 [l0, l1, l2, l3, l4, l5, (some (.int v)), l7] st h x = mW ro mTab 240 1540 [l0, l1, l2, l3, l4, l5, (some (.int v)), l7] (.int v :: st) h x := (g_step rfl rfl rfl rfl).trans rfl
set_option maxRecDepth 100000 in
theorem e240_1540 {ro : Nat → Nat × (Nat → Int32)} {l0 l1 l2 l3 l4 l5 l6 l7 : Option Value} {st : List Value} {h : List mCel} {x : Nat} {a : Int32} : mW ro mTab 240 1540 [l0, l1, l2, l3, l4, l5, l6, l7] (.int a :: st) h x = if ¬ a = 0 then mW ro mTab 240 1555 [l0, l1, l2, l3, l4, l5, l6, l7] st h x else mW ro mTab 240 1543 [l0, l1, l2, l3, l4, l5, l6, l7] st h x := g_if_ne rfl rfl rfl
set_option maxRecDepth 100000 in
theorem e240_1543 {ro : Nat → Nat × (Nat → Int32)} {l0 l1 l2 l4 l5 l6 l7 : Option Value} {st : List Value} {h : List mCel} {x : Nat} {v : Nat} : mW ro mTab 240 1543 [l0, l1, l2, (some (.ref v)), l4, l5, l6, l7] st h x = mW ro mTab 240 1544 [l0, l1, l2, (some (.ref v)), l4, l5, l6, l7] (.ref v :: st) h x := (g_step rfl rfl rfl rfl).trans rfl
set_option maxRecDepth 100000 in
theorem e240_1544 {ro : Nat → Nat × (Nat → Int32)} {l0 l1 l2 l3 l4 l5 l6 l7 : Option Value} {st : List Value} {h : List mCel} {x : Nat}  : mW ro mTab 240 1544 [l0, l1, l2, l3, l4, l5, l6, l7] st h x = mW ro mTab 240 1545 [l0, l1, l2, l3, l4, l5, l6, l7] (.int 0 :: st) h x := (g_step rfl rfl rfl rfl).trans rfl
set_option maxRecDepth 100000 in
theorem e240_1545 {ro : Nat → Nat × (Nat → Int32)} {l0 l1 l2 l3 l4 l5 l6 l7 : Option Value} {st : List Value} {h : List mCel} {x : Nat} {a : Nat} {j : Int32} : mW ro mTab 240 1545 [l0, l1, l2, l3, l4, l5, l6, l7] (.int j :: .ref a :: st) h x = kLA h a j fun v => mW ro mTab 240 1546 [l0, l1, l2, l3, l4, l5, l6, l7] (.long v :: st) h x := g_laload rfl rfl
set_option maxRecDepth 100000 in
theorem e240_1546 {ro : Nat → Nat × (Nat → Int32)} {l0 l1 l2 l3 l4 l5 l6 : Option Value} {st : List Value} {h : List mCel} {x : Nat} {v : Int32} : mW ro mTab 240 1546 [l0, l1, l2, l3, l4, l5, l6, (some (.int v))] st h x = mW ro mTab 240 1548 [l0, l1, l2, l3, l4, l5, l6, (some (.int v))] (.int v :: st) h x := (g_step rfl rfl rfl rfl).trans rfl
set_option maxRecDepth 100000 in
theorem e240_1548 {ro : Nat → Nat × (Nat → Int32)} {l0 l1 l2 l3 l4 l5 l6 l7 : Option Value} {st : List Value} {h : List mCel} {x : Nat} {a : Int32} : mW ro mTab 240 1548 [l0, l1, l2, l3, l4, l5, l6, l7] (.int a :: st) h x = mW ro mTab 240 1549 [l0, l1, l2, l3, l4, l5, l6, l7] (.long a.toInt64 :: st) h x := (g_step rfl rfl rfl rfl).trans rfl
set_option maxRecDepth 100000 in
theorem e240_1549 {ro : Nat → Nat × (Nat → Int32)} {l0 l1 l2 l3 l4 l5 l6 l7 : Option Value} {st : List Value} {h : List mCel} {x : Nat} {a b : Int64} : mW ro mTab 240 1549 [l0, l1, l2, l3, l4, l5, l6, l7] (.long b :: .long a :: st) h x = mW ro mTab 240 1550 [l0, l1, l2, l3, l4, l5, l6, l7] (.int (lg_cmp a b) :: st) h x := (g_step rfl rfl rfl rfl).trans rfl
set_option maxRecDepth 100000 in
theorem e240_1550 {ro : Nat → Nat × (Nat → Int32)} {l0 l1 l2 l3 l4 l5 l6 l7 : Option Value} {st : List Value} {h : List mCel} {x : Nat} {a : Int32} : mW ro mTab 240 1550 [l0, l1, l2, l3, l4, l5, l6, l7] (.int a :: st) h x = if a = 0 then mW ro mTab 240 1555 [l0, l1, l2, l3, l4, l5, l6, l7] st h x else mW ro mTab 240 1553 [l0, l1, l2, l3, l4, l5, l6, l7] st h x := g_if_eq rfl rfl rfl
set_option maxRecDepth 100000 in
theorem e240_1553 {ro : Nat → Nat × (Nat → Int32)} {l0 l1 l2 l3 l4 l5 l6 l7 : Option Value} {st : List Value} {h : List mCel} {x : Nat}  : mW ro mTab 240 1553 [l0, l1, l2, l3, l4, l5, l6, l7] st h x = mW ro mTab 240 1554 [l0, l1, l2, l3, l4, l5, l6, l7] (.int 0 :: st) h x := (g_step rfl rfl rfl rfl).trans rfl
set_option maxRecDepth 100000 in
theorem e240_1554 {ro : Nat → Nat × (Nat → Int32)} {l0 l1 l2 l3 l4 l5 l6 l7 : Option Value} {h : List mCel} {x : Nat} {v : Int32} (hv : v = 0 ∨ v = 1) : mW ro mTab 240 1554 [l0, l1, l2, l3, l4, l5, l6, l7] [.int v] h x = some (.inl (some (.int v)), h, x) := g_zret rfl rfl rfl hv
set_option maxRecDepth 100000 in
theorem e240_1555 {ro : Nat → Nat × (Nat → Int32)} {l0 l1 l2 l3 l4 l5 l6 l7 : Option Value} {st : List Value} {h : List mCel} {x : Nat}  : mW ro mTab 240 1555 [l0, l1, l2, l3, l4, l5, l6, l7] st h x = mW ro mTab 240 1980 [l0, l1, l2, l3, l4, l5, l6, l7] st h x := (g_step rfl rfl rfl rfl).trans rfl
set_option maxRecDepth 100000 in
theorem e240_1558 {ro : Nat → Nat × (Nat → Int32)} {l0 l2 l3 l4 l5 l6 l7 : Option Value} {st : List Value} {h : List mCel} {x : Nat} {v : Nat} : mW ro mTab 240 1558 [l0, (some (.ref v)), l2, l3, l4, l5, l6, l7] st h x = mW ro mTab 240 1559 [l0, (some (.ref v)), l2, l3, l4, l5, l6, l7] (.ref v :: st) h x := (g_step rfl rfl rfl rfl).trans rfl
set_option maxRecDepth 100000 in
theorem e240_1559 {ro : Nat → Nat × (Nat → Int32)} {l1 l2 l3 l4 l5 l6 l7 : Option Value} {st : List Value} {h : List mCel} {x : Nat} {v : Nat} : mW ro mTab 240 1559 [(some (.ref v)), l1, l2, l3, l4, l5, l6, l7] st h x = mW ro mTab 240 1560 [(some (.ref v)), l1, l2, l3, l4, l5, l6, l7] (.ref v :: st) h x := (g_step rfl rfl rfl rfl).trans rfl
set_option maxRecDepth 100000 in
theorem e240_1560 {ro : Nat → Nat × (Nat → Int32)} {l0 l1 l2 l3 l4 l6 l7 : Option Value} {st : List Value} {h : List mCel} {x : Nat} {v : Int32} : mW ro mTab 240 1560 [l0, l1, l2, l3, l4, (some (.int v)), l6, l7] st h x = mW ro mTab 240 1562 [l0, l1, l2, l3, l4, (some (.int v)), l6, l7] (.int v :: st) h x := (g_step rfl rfl rfl rfl).trans rfl
set_option maxRecDepth 100000 in
theorem e240_1562 {ro : Nat → Nat × (Nat → Int32)} {l0 l1 l2 l3 l4 l5 l6 l7 : Option Value} {st : List Value} {h : List mCel} {x : Nat}  : mW ro mTab 240 1562 [l0, l1, l2, l3, l4, l5, l6, l7] st h x = mW ro mTab 240 1563 [l0, l1, l2, l3, l4, l5, l6, l7] (.int 1 :: st) h x := (g_step rfl rfl rfl rfl).trans rfl
set_option maxRecDepth 100000 in
theorem e240_1563 {ro : Nat → Nat × (Nat → Int32)} {l0 l1 l2 l3 l4 l5 l6 l7 : Option Value} {st : List Value} {h : List mCel} {x : Nat} {a b : Int32} : mW ro mTab 240 1563 [l0, l1, l2, l3, l4, l5, l6, l7] (.int b :: .int a :: st) h x = mW ro mTab 240 1564 [l0, l1, l2, l3, l4, l5, l6, l7] (.int (a + b) :: st) h x := (g_step rfl rfl rfl rfl).trans rfl
set_option maxRecDepth 100000 in
theorem e240_1564 {ro : Nat → Nat × (Nat → Int32)} {l0 l1 l2 l3 l4 l5 l6 l7 : Option Value} {st : List Value} {h : List mCel} {x : Nat} {a : Nat} {j : Int32} : mW ro mTab 240 1564 [l0, l1, l2, l3, l4, l5, l6, l7] (.int j :: .ref a :: st) h x = kIA ro h a j fun v => mW ro mTab 240 1565 [l0, l1, l2, l3, l4, l5, l6, l7] (.int v :: st) h x := g_iaload rfl rfl
set_option maxRecDepth 100000 in
theorem e240_1565 {ro : Nat → Nat × (Nat → Int32)} {l1 l2 l3 l4 l5 l6 l7 : Option Value} {st : List Value} {h : List mCel} {x : Nat} {v : Nat} : mW ro mTab 240 1565 [(some (.ref v)), l1, l2, l3, l4, l5, l6, l7] st h x = mW ro mTab 240 1566 [(some (.ref v)), l1, l2, l3, l4, l5, l6, l7] (.ref v :: st) h x := (g_step rfl rfl rfl rfl).trans rfl
set_option maxRecDepth 100000 in
theorem e240_1566 {ro : Nat → Nat × (Nat → Int32)} {l0 l1 l2 l3 l4 l6 l7 : Option Value} {st : List Value} {h : List mCel} {x : Nat} {v : Int32} : mW ro mTab 240 1566 [l0, l1, l2, l3, l4, (some (.int v)), l6, l7] st h x = mW ro mTab 240 1568 [l0, l1, l2, l3, l4, (some (.int v)), l6, l7] (.int v :: st) h x := (g_step rfl rfl rfl rfl).trans rfl
set_option maxRecDepth 100000 in
theorem e240_1568 {ro : Nat → Nat × (Nat → Int32)} {l0 l1 l2 l3 l4 l5 l6 l7 : Option Value} {st : List Value} {h : List mCel} {x : Nat}  : mW ro mTab 240 1568 [l0, l1, l2, l3, l4, l5, l6, l7] st h x = mW ro mTab 240 1569 [l0, l1, l2, l3, l4, l5, l6, l7] (.int 2 :: st) h x := (g_step rfl rfl rfl rfl).trans rfl
set_option maxRecDepth 100000 in
theorem e240_1569 {ro : Nat → Nat × (Nat → Int32)} {l0 l1 l2 l3 l4 l5 l6 l7 : Option Value} {st : List Value} {h : List mCel} {x : Nat} {a b : Int32} : mW ro mTab 240 1569 [l0, l1, l2, l3, l4, l5, l6, l7] (.int b :: .int a :: st) h x = mW ro mTab 240 1570 [l0, l1, l2, l3, l4, l5, l6, l7] (.int (a + b) :: st) h x := (g_step rfl rfl rfl rfl).trans rfl
set_option maxRecDepth 100000 in
theorem e240_1570 {ro : Nat → Nat × (Nat → Int32)} {l0 l1 l2 l3 l4 l5 l6 l7 : Option Value} {st : List Value} {h : List mCel} {x : Nat} {a : Nat} {j : Int32} : mW ro mTab 240 1570 [l0, l1, l2, l3, l4, l5, l6, l7] (.int j :: .ref a :: st) h x = kIA ro h a j fun v => mW ro mTab 240 1571 [l0, l1, l2, l3, l4, l5, l6, l7] (.int v :: st) h x := g_iaload rfl rfl
set_option maxRecDepth 100000 in
theorem e240_1571 {ro : Nat → Nat × (Nat → Int32)} {l0 l1 l2 l4 l5 l6 l7 : Option Value} {st : List Value} {h : List mCel} {x : Nat} {v : Nat} : mW ro mTab 240 1571 [l0, l1, l2, (some (.ref v)), l4, l5, l6, l7] st h x = mW ro mTab 240 1572 [l0, l1, l2, (some (.ref v)), l4, l5, l6, l7] (.ref v :: st) h x := (g_step rfl rfl rfl rfl).trans rfl
set_option maxRecDepth 100000 in
theorem e240_1572 {ro : Nat → Nat × (Nat → Int32)} {l0 l1 l2 l3 l4 l5 l6 l7 : Option Value} {st : List Value} {h : List mCel} {x : Nat} {a0 : Nat} {a1 : Int32} {a2 : Int32} {a3 : Nat} (hs : (st.map Value.category).sum ≤ 8) : mW ro mTab 240 1572 [l0, l1, l2, l3, l4, l5, l6, l7] (.ref a3 :: .int a2 :: .int a1 :: .ref a0 :: st) h x = mAft (mW ro mTab) (mHd mM_240) 240 1572 [l0, l1, l2, l3, l4, l5, l6, l7] st (mW ro mTab 242 0 [some (.ref a0), some (.int a1), some (.int a2), some (.ref a3), none] [] h x) := g_call rfl rfl rfl rfl rfl rfl rfl hs
set_option maxRecDepth 100000 in
theorem e240_1575 {ro : Nat → Nat × (Nat → Int32)} {l0 l1 l2 l3 l4 l5 l6 l7 : Option Value} {st : List Value} {h : List mCel} {x : Nat} {v : Int32} : mW ro mTab 240 1575 [l0, l1, l2, l3, l4, l5, l6, l7] (.int v :: st) h x = mW ro mTab 240 1577 [l0, l1, l2, l3, l4, l5, (some (.int v)), l7] st h x := (g_step rfl rfl rfl rfl).trans rfl
set_option maxRecDepth 100000 in
theorem e240_1577 {ro : Nat → Nat × (Nat → Int32)} {l0 l1 l3 l4 l5 l6 l7 : Option Value} {st : List Value} {h : List mCel} {x : Nat} {v : Nat} : mW ro mTab 240 1577 [l0, l1, (some (.ref v)), l3, l4, l5, l6, l7] st h x = mW ro mTab 240 1578 [l0, l1, (some (.ref v)), l3, l4, l5, l6, l7] (.ref v :: st) h x := (g_step rfl rfl rfl rfl).trans rfl
set_option maxRecDepth 100000 in
theorem e240_1578 {ro : Nat → Nat × (Nat → Int32)} {l1 l2 l3 l4 l5 l6 l7 : Option Value} {st : List Value} {h : List mCel} {x : Nat} {v : Nat} : mW ro mTab 240 1578 [(some (.ref v)), l1, l2, l3, l4, l5, l6, l7] st h x = mW ro mTab 240 1579 [(some (.ref v)), l1, l2, l3, l4, l5, l6, l7] (.ref v :: st) h x := (g_step rfl rfl rfl rfl).trans rfl
set_option maxRecDepth 100000 in
theorem e240_1579 {ro : Nat → Nat × (Nat → Int32)} {l0 l1 l2 l3 l4 l6 l7 : Option Value} {st : List Value} {h : List mCel} {x : Nat} {v : Int32} : mW ro mTab 240 1579 [l0, l1, l2, l3, l4, (some (.int v)), l6, l7] st h x = mW ro mTab 240 1581 [l0, l1, l2, l3, l4, (some (.int v)), l6, l7] (.int v :: st) h x := (g_step rfl rfl rfl rfl).trans rfl
set_option maxRecDepth 100000 in
theorem e240_1581 {ro : Nat → Nat × (Nat → Int32)} {l0 l1 l2 l3 l4 l5 l6 l7 : Option Value} {st : List Value} {h : List mCel} {x : Nat}  : mW ro mTab 240 1581 [l0, l1, l2, l3, l4, l5, l6, l7] st h x = mW ro mTab 240 1582 [l0, l1, l2, l3, l4, l5, l6, l7] (.int 1 :: st) h x := (g_step rfl rfl rfl rfl).trans rfl
set_option maxRecDepth 100000 in
theorem e240_1582 {ro : Nat → Nat × (Nat → Int32)} {l0 l1 l2 l3 l4 l5 l6 l7 : Option Value} {st : List Value} {h : List mCel} {x : Nat} {a b : Int32} : mW ro mTab 240 1582 [l0, l1, l2, l3, l4, l5, l6, l7] (.int b :: .int a :: st) h x = mW ro mTab 240 1583 [l0, l1, l2, l3, l4, l5, l6, l7] (.int (a + b) :: st) h x := (g_step rfl rfl rfl rfl).trans rfl
set_option maxRecDepth 100000 in
theorem e240_1583 {ro : Nat → Nat × (Nat → Int32)} {l0 l1 l2 l3 l4 l5 l6 l7 : Option Value} {st : List Value} {h : List mCel} {x : Nat} {a : Nat} {j : Int32} : mW ro mTab 240 1583 [l0, l1, l2, l3, l4, l5, l6, l7] (.int j :: .ref a :: st) h x = kIA ro h a j fun v => mW ro mTab 240 1584 [l0, l1, l2, l3, l4, l5, l6, l7] (.int v :: st) h x := g_iaload rfl rfl
set_option maxRecDepth 100000 in
theorem e240_1584 {ro : Nat → Nat × (Nat → Int32)} {l1 l2 l3 l4 l5 l6 l7 : Option Value} {st : List Value} {h : List mCel} {x : Nat} {v : Nat} : mW ro mTab 240 1584 [(some (.ref v)), l1, l2, l3, l4, l5, l6, l7] st h x = mW ro mTab 240 1585 [(some (.ref v)), l1, l2, l3, l4, l5, l6, l7] (.ref v :: st) h x := (g_step rfl rfl rfl rfl).trans rfl
set_option maxRecDepth 100000 in
theorem e240_1585 {ro : Nat → Nat × (Nat → Int32)} {l0 l1 l2 l3 l4 l6 l7 : Option Value} {st : List Value} {h : List mCel} {x : Nat} {v : Int32} : mW ro mTab 240 1585 [l0, l1, l2, l3, l4, (some (.int v)), l6, l7] st h x = mW ro mTab 240 1587 [l0, l1, l2, l3, l4, (some (.int v)), l6, l7] (.int v :: st) h x := (g_step rfl rfl rfl rfl).trans rfl
set_option maxRecDepth 100000 in
theorem e240_1587 {ro : Nat → Nat × (Nat → Int32)} {l0 l1 l2 l3 l4 l5 l6 l7 : Option Value} {st : List Value} {h : List mCel} {x : Nat}  : mW ro mTab 240 1587 [l0, l1, l2, l3, l4, l5, l6, l7] st h x = mW ro mTab 240 1588 [l0, l1, l2, l3, l4, l5, l6, l7] (.int 2 :: st) h x := (g_step rfl rfl rfl rfl).trans rfl
set_option maxRecDepth 100000 in
theorem e240_1588 {ro : Nat → Nat × (Nat → Int32)} {l0 l1 l2 l3 l4 l5 l6 l7 : Option Value} {st : List Value} {h : List mCel} {x : Nat} {a b : Int32} : mW ro mTab 240 1588 [l0, l1, l2, l3, l4, l5, l6, l7] (.int b :: .int a :: st) h x = mW ro mTab 240 1589 [l0, l1, l2, l3, l4, l5, l6, l7] (.int (a + b) :: st) h x := (g_step rfl rfl rfl rfl).trans rfl
set_option maxRecDepth 100000 in
theorem e240_1589 {ro : Nat → Nat × (Nat → Int32)} {l0 l1 l2 l3 l4 l5 l6 l7 : Option Value} {st : List Value} {h : List mCel} {x : Nat} {a : Nat} {j : Int32} : mW ro mTab 240 1589 [l0, l1, l2, l3, l4, l5, l6, l7] (.int j :: .ref a :: st) h x = kIA ro h a j fun v => mW ro mTab 240 1590 [l0, l1, l2, l3, l4, l5, l6, l7] (.int v :: st) h x := g_iaload rfl rfl
set_option maxRecDepth 100000 in
theorem e240_1590 {ro : Nat → Nat × (Nat → Int32)} {l0 l1 l2 l3 l4 l5 l6 l7 : Option Value} {st : List Value} {h : List mCel} {x : Nat} {a0 : Nat} {a1 : Int32} {a2 : Int32} (hr : kR (mCell h a0) 11 = true) (hs : (st.map Value.category).sum ≤ 8) : mW ro mTab 240 1590 [l0, l1, l2, l3, l4, l5, l6, l7] (.int a2 :: .int a1 :: .ref a0 :: st) h x = mAft (mW ro mTab) (mHd mM_240) 240 1590 [l0, l1, l2, l3, l4, l5, l6, l7] st (mW ro mTab 119 0 [some (.ref a0), some (.int a1), some (.int a2)] [] h x) := g_call rfl rfl rfl rfl rfl rfl (g_rcv rfl hr) hs
set_option maxRecDepth 100000 in
theorem e240_1593 {ro : Nat → Nat × (Nat → Int32)} {l0 l1 l2 l3 l4 l5 l6 l7 : Option Value} {st : List Value} {h : List mCel} {x : Nat} {v : Int32} : mW ro mTab 240 1593 [l0, l1, l2, l3, l4, l5, l6, l7] (.int v :: st) h x = mW ro mTab 240 1595 [l0, l1, l2, l3, l4, l5, l6, (some (.int v))] st h x := (g_step rfl rfl rfl rfl).trans rfl
set_option maxRecDepth 100000 in
theorem e240_1595 {ro : Nat → Nat × (Nat → Int32)} {l0 l1 l3 l4 l5 l6 l7 : Option Value} {st : List Value} {h : List mCel} {x : Nat} {v : Nat} : mW ro mTab 240 1595 [l0, l1, (some (.ref v)), l3, l4, l5, l6, l7] st h x = mW ro mTab 240 1596 [l0, l1, (some (.ref v)), l3, l4, l5, l6, l7] (.ref v :: st) h x := (g_step rfl rfl rfl rfl).trans rfl
set_option maxRecDepth 100000 in
theorem e240_1596 {ro : Nat → Nat × (Nat → Int32)} {l0 l1 l2 l3 l4 l5 l6 l7 : Option Value} {st : List Value} {h : List mCel} {x : Nat} {a0 : Nat} (hr : kR (mCell h a0) 11 = true) (hs : (st.map Value.category).sum ≤ 8) : mW ro mTab 240 1596 [l0, l1, l2, l3, l4, l5, l6, l7] (.ref a0 :: st) h x = mAft (mW ro mTab) (mHd mM_240) 240 1596 [l0, l1, l2, l3, l4, l5, l6, l7] st (mW ro mTab 137 0 [some (.ref a0)] [] h x) := g_call rfl rfl rfl rfl rfl rfl (g_rcv rfl hr) hs
set_option maxRecDepth 100000 in
theorem e240_1599 {ro : Nat → Nat × (Nat → Int32)} {l0 l1 l2 l3 l4 l5 l7 : Option Value} {st : List Value} {h : List mCel} {x : Nat} {v : Int32} : mW ro mTab 240 1599 [l0, l1, l2, l3, l4, l5, (some (.int v)), l7] st h x = mW ro mTab 240 1601 [l0, l1, l2, l3, l4, l5, (some (.int v)), l7] (.int v :: st) h x := (g_step rfl rfl rfl rfl).trans rfl
set_option maxRecDepth 100000 in
theorem e240_1601 {ro : Nat → Nat × (Nat → Int32)} {l0 l1 l2 l3 l4 l5 l6 l7 : Option Value} {st : List Value} {h : List mCel} {x : Nat} {a b : Int32} : mW ro mTab 240 1601 [l0, l1, l2, l3, l4, l5, l6, l7] (.int b :: .int a :: st) h x = if a = b then mW ro mTab 240 1606 [l0, l1, l2, l3, l4, l5, l6, l7] st h x else mW ro mTab 240 1604 [l0, l1, l2, l3, l4, l5, l6, l7] st h x := g_icmp_eq rfl rfl rfl
set_option maxRecDepth 100000 in
theorem e240_1604 {ro : Nat → Nat × (Nat → Int32)} {l0 l1 l2 l3 l4 l5 l6 l7 : Option Value} {st : List Value} {h : List mCel} {x : Nat}  : mW ro mTab 240 1604 [l0, l1, l2, l3, l4, l5, l6, l7] st h x = mW ro mTab 240 1605 [l0, l1, l2, l3, l4, l5, l6, l7] (.int 0 :: st) h x := (g_step rfl rfl rfl rfl).trans rfl
set_option maxRecDepth 100000 in
theorem e240_1605 {ro : Nat → Nat × (Nat → Int32)} {l0 l1 l2 l3 l4 l5 l6 l7 : Option Value} {h : List mCel} {x : Nat} {v : Int32} (hv : v = 0 ∨ v = 1) : mW ro mTab 240 1605 [l0, l1, l2, l3, l4, l5, l6, l7] [.int v] h x = some (.inl (some (.int v)), h, x) := g_zret rfl rfl rfl hv
set_option maxRecDepth 100000 in
theorem e240_1606 {ro : Nat → Nat × (Nat → Int32)} {l0 l1 l2 l3 l4 l5 l7 : Option Value} {st : List Value} {h : List mCel} {x : Nat} {v : Int32} : mW ro mTab 240 1606 [l0, l1, l2, l3, l4, l5, (some (.int v)), l7] st h x = mW ro mTab 240 1608 [l0, l1, l2, l3, l4, l5, (some (.int v)), l7] (.int v :: st) h x := (g_step rfl rfl rfl rfl).trans rfl
set_option maxRecDepth 100000 in
theorem e240_1608 {ro : Nat → Nat × (Nat → Int32)} {l0 l1 l2 l3 l4 l5 l6 l7 : Option Value} {st : List Value} {h : List mCel} {x : Nat} {a : Int32} : mW ro mTab 240 1608 [l0, l1, l2, l3, l4, l5, l6, l7] (.int a :: st) h x = if ¬ a = 0 then mW ro mTab 240 1623 [l0, l1, l2, l3, l4, l5, l6, l7] st h x else mW ro mTab 240 1611 [l0, l1, l2, l3, l4, l5, l6, l7] st h x := g_if_ne rfl rfl rfl
set_option maxRecDepth 100000 in
theorem e240_1611 {ro : Nat → Nat × (Nat → Int32)} {l0 l1 l2 l4 l5 l6 l7 : Option Value} {st : List Value} {h : List mCel} {x : Nat} {v : Nat} : mW ro mTab 240 1611 [l0, l1, l2, (some (.ref v)), l4, l5, l6, l7] st h x = mW ro mTab 240 1612 [l0, l1, l2, (some (.ref v)), l4, l5, l6, l7] (.ref v :: st) h x := (g_step rfl rfl rfl rfl).trans rfl
set_option maxRecDepth 100000 in
theorem e240_1612 {ro : Nat → Nat × (Nat → Int32)} {l0 l1 l2 l3 l4 l5 l6 l7 : Option Value} {st : List Value} {h : List mCel} {x : Nat}  : mW ro mTab 240 1612 [l0, l1, l2, l3, l4, l5, l6, l7] st h x = mW ro mTab 240 1613 [l0, l1, l2, l3, l4, l5, l6, l7] (.int 0 :: st) h x := (g_step rfl rfl rfl rfl).trans rfl
set_option maxRecDepth 100000 in
theorem e240_1613 {ro : Nat → Nat × (Nat → Int32)} {l0 l1 l2 l3 l4 l5 l6 l7 : Option Value} {st : List Value} {h : List mCel} {x : Nat} {a : Nat} {j : Int32} : mW ro mTab 240 1613 [l0, l1, l2, l3, l4, l5, l6, l7] (.int j :: .ref a :: st) h x = kLA h a j fun v => mW ro mTab 240 1614 [l0, l1, l2, l3, l4, l5, l6, l7] (.long v :: st) h x := g_laload rfl rfl
set_option maxRecDepth 100000 in
theorem e240_1614 {ro : Nat → Nat × (Nat → Int32)} {l0 l1 l2 l3 l4 l5 l6 : Option Value} {st : List Value} {h : List mCel} {x : Nat} {v : Int32} : mW ro mTab 240 1614 [l0, l1, l2, l3, l4, l5, l6, (some (.int v))] st h x = mW ro mTab 240 1616 [l0, l1, l2, l3, l4, l5, l6, (some (.int v))] (.int v :: st) h x := (g_step rfl rfl rfl rfl).trans rfl
set_option maxRecDepth 100000 in
theorem e240_1616 {ro : Nat → Nat × (Nat → Int32)} {l0 l1 l2 l3 l4 l5 l6 l7 : Option Value} {st : List Value} {h : List mCel} {x : Nat} {a : Int32} : mW ro mTab 240 1616 [l0, l1, l2, l3, l4, l5, l6, l7] (.int a :: st) h x = mW ro mTab 240 1617 [l0, l1, l2, l3, l4, l5, l6, l7] (.long a.toInt64 :: st) h x := (g_step rfl rfl rfl rfl).trans rfl
set_option maxRecDepth 100000 in
theorem e240_1617 {ro : Nat → Nat × (Nat → Int32)} {l0 l1 l2 l3 l4 l5 l6 l7 : Option Value} {st : List Value} {h : List mCel} {x : Nat} {a b : Int64} : mW ro mTab 240 1617 [l0, l1, l2, l3, l4, l5, l6, l7] (.long b :: .long a :: st) h x = mW ro mTab 240 1618 [l0, l1, l2, l3, l4, l5, l6, l7] (.int (lg_cmp a b) :: st) h x := (g_step rfl rfl rfl rfl).trans rfl
set_option maxRecDepth 100000 in
theorem e240_1618 {ro : Nat → Nat × (Nat → Int32)} {l0 l1 l2 l3 l4 l5 l6 l7 : Option Value} {st : List Value} {h : List mCel} {x : Nat} {a : Int32} : mW ro mTab 240 1618 [l0, l1, l2, l3, l4, l5, l6, l7] (.int a :: st) h x = if a = 0 then mW ro mTab 240 1623 [l0, l1, l2, l3, l4, l5, l6, l7] st h x else mW ro mTab 240 1621 [l0, l1, l2, l3, l4, l5, l6, l7] st h x := g_if_eq rfl rfl rfl
set_option maxRecDepth 100000 in
theorem e240_1621 {ro : Nat → Nat × (Nat → Int32)} {l0 l1 l2 l3 l4 l5 l6 l7 : Option Value} {st : List Value} {h : List mCel} {x : Nat}  : mW ro mTab 240 1621 [l0, l1, l2, l3, l4, l5, l6, l7] st h x = mW ro mTab 240 1622 [l0, l1, l2, l3, l4, l5, l6, l7] (.int 0 :: st) h x := (g_step rfl rfl rfl rfl).trans rfl
set_option maxRecDepth 100000 in
theorem e240_1622 {ro : Nat → Nat × (Nat → Int32)} {l0 l1 l2 l3 l4 l5 l6 l7 : Option Value} {h : List mCel} {x : Nat} {v : Int32} (hv : v = 0 ∨ v = 1) : mW ro mTab 240 1622 [l0, l1, l2, l3, l4, l5, l6, l7] [.int v] h x = some (.inl (some (.int v)), h, x) := g_zret rfl rfl rfl hv
set_option maxRecDepth 100000 in
theorem e240_1623 {ro : Nat → Nat × (Nat → Int32)} {l0 l1 l2 l3 l4 l5 l6 l7 : Option Value} {st : List Value} {h : List mCel} {x : Nat}  : mW ro mTab 240 1623 [l0, l1, l2, l3, l4, l5, l6, l7] st h x = mW ro mTab 240 1980 [l0, l1, l2, l3, l4, l5, l6, l7] st h x := (g_step rfl rfl rfl rfl).trans rfl
set_option maxRecDepth 100000 in
theorem e240_1626 {ro : Nat → Nat × (Nat → Int32)} {l0 l2 l3 l4 l5 l6 l7 : Option Value} {st : List Value} {h : List mCel} {x : Nat} {v : Nat} : mW ro mTab 240 1626 [l0, (some (.ref v)), l2, l3, l4, l5, l6, l7] st h x = mW ro mTab 240 1627 [l0, (some (.ref v)), l2, l3, l4, l5, l6, l7] (.ref v :: st) h x := (g_step rfl rfl rfl rfl).trans rfl
set_option maxRecDepth 100000 in
theorem e240_1627 {ro : Nat → Nat × (Nat → Int32)} {l1 l2 l3 l4 l5 l6 l7 : Option Value} {st : List Value} {h : List mCel} {x : Nat} {v : Nat} : mW ro mTab 240 1627 [(some (.ref v)), l1, l2, l3, l4, l5, l6, l7] st h x = mW ro mTab 240 1628 [(some (.ref v)), l1, l2, l3, l4, l5, l6, l7] (.ref v :: st) h x := (g_step rfl rfl rfl rfl).trans rfl
set_option maxRecDepth 100000 in
theorem e240_1628 {ro : Nat → Nat × (Nat → Int32)} {l0 l1 l2 l3 l4 l6 l7 : Option Value} {st : List Value} {h : List mCel} {x : Nat} {v : Int32} : mW ro mTab 240 1628 [l0, l1, l2, l3, l4, (some (.int v)), l6, l7] st h x = mW ro mTab 240 1630 [l0, l1, l2, l3, l4, (some (.int v)), l6, l7] (.int v :: st) h x := (g_step rfl rfl rfl rfl).trans rfl
set_option maxRecDepth 100000 in
theorem e240_1630 {ro : Nat → Nat × (Nat → Int32)} {l0 l1 l2 l3 l4 l5 l6 l7 : Option Value} {st : List Value} {h : List mCel} {x : Nat}  : mW ro mTab 240 1630 [l0, l1, l2, l3, l4, l5, l6, l7] st h x = mW ro mTab 240 1631 [l0, l1, l2, l3, l4, l5, l6, l7] (.int 1 :: st) h x := (g_step rfl rfl rfl rfl).trans rfl
set_option maxRecDepth 100000 in
theorem e240_1631 {ro : Nat → Nat × (Nat → Int32)} {l0 l1 l2 l3 l4 l5 l6 l7 : Option Value} {st : List Value} {h : List mCel} {x : Nat} {a b : Int32} : mW ro mTab 240 1631 [l0, l1, l2, l3, l4, l5, l6, l7] (.int b :: .int a :: st) h x = mW ro mTab 240 1632 [l0, l1, l2, l3, l4, l5, l6, l7] (.int (a + b) :: st) h x := (g_step rfl rfl rfl rfl).trans rfl
set_option maxRecDepth 100000 in
theorem e240_1632 {ro : Nat → Nat × (Nat → Int32)} {l0 l1 l2 l3 l4 l5 l6 l7 : Option Value} {st : List Value} {h : List mCel} {x : Nat} {a : Nat} {j : Int32} : mW ro mTab 240 1632 [l0, l1, l2, l3, l4, l5, l6, l7] (.int j :: .ref a :: st) h x = kIA ro h a j fun v => mW ro mTab 240 1633 [l0, l1, l2, l3, l4, l5, l6, l7] (.int v :: st) h x := g_iaload rfl rfl
set_option maxRecDepth 100000 in
theorem e240_1633 {ro : Nat → Nat × (Nat → Int32)} {l1 l2 l3 l4 l5 l6 l7 : Option Value} {st : List Value} {h : List mCel} {x : Nat} {v : Nat} : mW ro mTab 240 1633 [(some (.ref v)), l1, l2, l3, l4, l5, l6, l7] st h x = mW ro mTab 240 1634 [(some (.ref v)), l1, l2, l3, l4, l5, l6, l7] (.ref v :: st) h x := (g_step rfl rfl rfl rfl).trans rfl
set_option maxRecDepth 100000 in
theorem e240_1634 {ro : Nat → Nat × (Nat → Int32)} {l0 l1 l2 l3 l4 l6 l7 : Option Value} {st : List Value} {h : List mCel} {x : Nat} {v : Int32} : mW ro mTab 240 1634 [l0, l1, l2, l3, l4, (some (.int v)), l6, l7] st h x = mW ro mTab 240 1636 [l0, l1, l2, l3, l4, (some (.int v)), l6, l7] (.int v :: st) h x := (g_step rfl rfl rfl rfl).trans rfl
set_option maxRecDepth 100000 in
theorem e240_1636 {ro : Nat → Nat × (Nat → Int32)} {l0 l1 l2 l3 l4 l5 l6 l7 : Option Value} {st : List Value} {h : List mCel} {x : Nat}  : mW ro mTab 240 1636 [l0, l1, l2, l3, l4, l5, l6, l7] st h x = mW ro mTab 240 1637 [l0, l1, l2, l3, l4, l5, l6, l7] (.int 2 :: st) h x := (g_step rfl rfl rfl rfl).trans rfl
set_option maxRecDepth 100000 in
theorem e240_1637 {ro : Nat → Nat × (Nat → Int32)} {l0 l1 l2 l3 l4 l5 l6 l7 : Option Value} {st : List Value} {h : List mCel} {x : Nat} {a b : Int32} : mW ro mTab 240 1637 [l0, l1, l2, l3, l4, l5, l6, l7] (.int b :: .int a :: st) h x = mW ro mTab 240 1638 [l0, l1, l2, l3, l4, l5, l6, l7] (.int (a + b) :: st) h x := (g_step rfl rfl rfl rfl).trans rfl
set_option maxRecDepth 100000 in
theorem e240_1638 {ro : Nat → Nat × (Nat → Int32)} {l0 l1 l2 l3 l4 l5 l6 l7 : Option Value} {st : List Value} {h : List mCel} {x : Nat} {a : Nat} {j : Int32} : mW ro mTab 240 1638 [l0, l1, l2, l3, l4, l5, l6, l7] (.int j :: .ref a :: st) h x = kIA ro h a j fun v => mW ro mTab 240 1639 [l0, l1, l2, l3, l4, l5, l6, l7] (.int v :: st) h x := g_iaload rfl rfl
set_option maxRecDepth 100000 in
theorem e240_1639 {ro : Nat → Nat × (Nat → Int32)} {l0 l1 l2 l4 l5 l6 l7 : Option Value} {st : List Value} {h : List mCel} {x : Nat} {v : Nat} : mW ro mTab 240 1639 [l0, l1, l2, (some (.ref v)), l4, l5, l6, l7] st h x = mW ro mTab 240 1640 [l0, l1, l2, (some (.ref v)), l4, l5, l6, l7] (.ref v :: st) h x := (g_step rfl rfl rfl rfl).trans rfl
set_option maxRecDepth 100000 in
theorem e240_1640 {ro : Nat → Nat × (Nat → Int32)} {l0 l1 l2 l3 l4 l5 l6 l7 : Option Value} {st : List Value} {h : List mCel} {x : Nat} {a0 : Nat} {a1 : Int32} {a2 : Int32} {a3 : Nat} (hs : (st.map Value.category).sum ≤ 8) : mW ro mTab 240 1640 [l0, l1, l2, l3, l4, l5, l6, l7] (.ref a3 :: .int a2 :: .int a1 :: .ref a0 :: st) h x = mAft (mW ro mTab) (mHd mM_240) 240 1640 [l0, l1, l2, l3, l4, l5, l6, l7] st (mW ro mTab 247 0 [some (.ref a0), some (.int a1), some (.int a2), some (.ref a3), none] [] h x) := g_call rfl rfl rfl rfl rfl rfl rfl hs
set_option maxRecDepth 100000 in
theorem e240_1643 {ro : Nat → Nat × (Nat → Int32)} {l0 l1 l2 l3 l4 l5 l6 l7 : Option Value} {st : List Value} {h : List mCel} {x : Nat} {v : Int32} : mW ro mTab 240 1643 [l0, l1, l2, l3, l4, l5, l6, l7] (.int v :: st) h x = mW ro mTab 240 1645 [l0, l1, l2, l3, l4, l5, (some (.int v)), l7] st h x := (g_step rfl rfl rfl rfl).trans rfl
set_option maxRecDepth 100000 in
theorem e240_1645 {ro : Nat → Nat × (Nat → Int32)} {l0 l1 l3 l4 l5 l6 l7 : Option Value} {st : List Value} {h : List mCel} {x : Nat} {v : Nat} : mW ro mTab 240 1645 [l0, l1, (some (.ref v)), l3, l4, l5, l6, l7] st h x = mW ro mTab 240 1646 [l0, l1, (some (.ref v)), l3, l4, l5, l6, l7] (.ref v :: st) h x := (g_step rfl rfl rfl rfl).trans rfl
set_option maxRecDepth 100000 in
theorem e240_1646 {ro : Nat → Nat × (Nat → Int32)} {l1 l2 l3 l4 l5 l6 l7 : Option Value} {st : List Value} {h : List mCel} {x : Nat} {v : Nat} : mW ro mTab 240 1646 [(some (.ref v)), l1, l2, l3, l4, l5, l6, l7] st h x = mW ro mTab 240 1647 [(some (.ref v)), l1, l2, l3, l4, l5, l6, l7] (.ref v :: st) h x := (g_step rfl rfl rfl rfl).trans rfl
set_option maxRecDepth 100000 in
theorem e240_1647 {ro : Nat → Nat × (Nat → Int32)} {l0 l1 l2 l3 l4 l6 l7 : Option Value} {st : List Value} {h : List mCel} {x : Nat} {v : Int32} : mW ro mTab 240 1647 [l0, l1, l2, l3, l4, (some (.int v)), l6, l7] st h x = mW ro mTab 240 1649 [l0, l1, l2, l3, l4, (some (.int v)), l6, l7] (.int v :: st) h x := (g_step rfl rfl rfl rfl).trans rfl
set_option maxRecDepth 100000 in
theorem e240_1649 {ro : Nat → Nat × (Nat → Int32)} {l0 l1 l2 l3 l4 l5 l6 l7 : Option Value} {st : List Value} {h : List mCel} {x : Nat}  : mW ro mTab 240 1649 [l0, l1, l2, l3, l4, l5, l6, l7] st h x = mW ro mTab 240 1650 [l0, l1, l2, l3, l4, l5, l6, l7] (.int 1 :: st) h x := (g_step rfl rfl rfl rfl).trans rfl
set_option maxRecDepth 100000 in
theorem e240_1650 {ro : Nat → Nat × (Nat → Int32)} {l0 l1 l2 l3 l4 l5 l6 l7 : Option Value} {st : List Value} {h : List mCel} {x : Nat} {a b : Int32} : mW ro mTab 240 1650 [l0, l1, l2, l3, l4, l5, l6, l7] (.int b :: .int a :: st) h x = mW ro mTab 240 1651 [l0, l1, l2, l3, l4, l5, l6, l7] (.int (a + b) :: st) h x := (g_step rfl rfl rfl rfl).trans rfl
set_option maxRecDepth 100000 in
theorem e240_1651 {ro : Nat → Nat × (Nat → Int32)} {l0 l1 l2 l3 l4 l5 l6 l7 : Option Value} {st : List Value} {h : List mCel} {x : Nat} {a : Nat} {j : Int32} : mW ro mTab 240 1651 [l0, l1, l2, l3, l4, l5, l6, l7] (.int j :: .ref a :: st) h x = kIA ro h a j fun v => mW ro mTab 240 1652 [l0, l1, l2, l3, l4, l5, l6, l7] (.int v :: st) h x := g_iaload rfl rfl
set_option maxRecDepth 100000 in
theorem e240_1652 {ro : Nat → Nat × (Nat → Int32)} {l1 l2 l3 l4 l5 l6 l7 : Option Value} {st : List Value} {h : List mCel} {x : Nat} {v : Nat} : mW ro mTab 240 1652 [(some (.ref v)), l1, l2, l3, l4, l5, l6, l7] st h x = mW ro mTab 240 1653 [(some (.ref v)), l1, l2, l3, l4, l5, l6, l7] (.ref v :: st) h x := (g_step rfl rfl rfl rfl).trans rfl
set_option maxRecDepth 100000 in
theorem e240_1653 {ro : Nat → Nat × (Nat → Int32)} {l0 l1 l2 l3 l4 l6 l7 : Option Value} {st : List Value} {h : List mCel} {x : Nat} {v : Int32} : mW ro mTab 240 1653 [l0, l1, l2, l3, l4, (some (.int v)), l6, l7] st h x = mW ro mTab 240 1655 [l0, l1, l2, l3, l4, (some (.int v)), l6, l7] (.int v :: st) h x := (g_step rfl rfl rfl rfl).trans rfl
set_option maxRecDepth 100000 in
theorem e240_1655 {ro : Nat → Nat × (Nat → Int32)} {l0 l1 l2 l3 l4 l5 l6 l7 : Option Value} {st : List Value} {h : List mCel} {x : Nat}  : mW ro mTab 240 1655 [l0, l1, l2, l3, l4, l5, l6, l7] st h x = mW ro mTab 240 1656 [l0, l1, l2, l3, l4, l5, l6, l7] (.int 2 :: st) h x := (g_step rfl rfl rfl rfl).trans rfl
set_option maxRecDepth 100000 in
theorem e240_1656 {ro : Nat → Nat × (Nat → Int32)} {l0 l1 l2 l3 l4 l5 l6 l7 : Option Value} {st : List Value} {h : List mCel} {x : Nat} {a b : Int32} : mW ro mTab 240 1656 [l0, l1, l2, l3, l4, l5, l6, l7] (.int b :: .int a :: st) h x = mW ro mTab 240 1657 [l0, l1, l2, l3, l4, l5, l6, l7] (.int (a + b) :: st) h x := (g_step rfl rfl rfl rfl).trans rfl
set_option maxRecDepth 100000 in
theorem e240_1657 {ro : Nat → Nat × (Nat → Int32)} {l0 l1 l2 l3 l4 l5 l6 l7 : Option Value} {st : List Value} {h : List mCel} {x : Nat} {a : Nat} {j : Int32} : mW ro mTab 240 1657 [l0, l1, l2, l3, l4, l5, l6, l7] (.int j :: .ref a :: st) h x = kIA ro h a j fun v => mW ro mTab 240 1658 [l0, l1, l2, l3, l4, l5, l6, l7] (.int v :: st) h x := g_iaload rfl rfl
set_option maxRecDepth 100000 in
theorem e240_1658 {ro : Nat → Nat × (Nat → Int32)} {l0 l1 l2 l3 l4 l5 l6 l7 : Option Value} {st : List Value} {h : List mCel} {x : Nat} {a0 : Nat} {a1 : Int32} {a2 : Int32} (hr : kR (mCell h a0) 11 = true) (hs : (st.map Value.category).sum ≤ 8) : mW ro mTab 240 1658 [l0, l1, l2, l3, l4, l5, l6, l7] (.int a2 :: .int a1 :: .ref a0 :: st) h x = mAft (mW ro mTab) (mHd mM_240) 240 1658 [l0, l1, l2, l3, l4, l5, l6, l7] st (mW ro mTab 126 0 [some (.ref a0), some (.int a1), some (.int a2)] [] h x) := g_call rfl rfl rfl rfl rfl rfl (g_rcv rfl hr) hs
set_option maxRecDepth 100000 in
theorem e240_1661 {ro : Nat → Nat × (Nat → Int32)} {l0 l1 l2 l3 l4 l5 l6 l7 : Option Value} {st : List Value} {h : List mCel} {x : Nat} {v : Int32} : mW ro mTab 240 1661 [l0, l1, l2, l3, l4, l5, l6, l7] (.int v :: st) h x = mW ro mTab 240 1663 [l0, l1, l2, l3, l4, l5, l6, (some (.int v))] st h x := (g_step rfl rfl rfl rfl).trans rfl
set_option maxRecDepth 100000 in
theorem e240_1663 {ro : Nat → Nat × (Nat → Int32)} {l0 l1 l3 l4 l5 l6 l7 : Option Value} {st : List Value} {h : List mCel} {x : Nat} {v : Nat} : mW ro mTab 240 1663 [l0, l1, (some (.ref v)), l3, l4, l5, l6, l7] st h x = mW ro mTab 240 1664 [l0, l1, (some (.ref v)), l3, l4, l5, l6, l7] (.ref v :: st) h x := (g_step rfl rfl rfl rfl).trans rfl
set_option maxRecDepth 100000 in
theorem e240_1664 {ro : Nat → Nat × (Nat → Int32)} {l0 l1 l2 l3 l4 l5 l6 l7 : Option Value} {st : List Value} {h : List mCel} {x : Nat} {a0 : Nat} (hr : kR (mCell h a0) 11 = true) (hs : (st.map Value.category).sum ≤ 8) : mW ro mTab 240 1664 [l0, l1, l2, l3, l4, l5, l6, l7] (.ref a0 :: st) h x = mAft (mW ro mTab) (mHd mM_240) 240 1664 [l0, l1, l2, l3, l4, l5, l6, l7] st (mW ro mTab 137 0 [some (.ref a0)] [] h x) := g_call rfl rfl rfl rfl rfl rfl (g_rcv rfl hr) hs
set_option maxRecDepth 100000 in
theorem e240_1667 {ro : Nat → Nat × (Nat → Int32)} {l0 l1 l2 l3 l4 l5 l7 : Option Value} {st : List Value} {h : List mCel} {x : Nat} {v : Int32} : mW ro mTab 240 1667 [l0, l1, l2, l3, l4, l5, (some (.int v)), l7] st h x = mW ro mTab 240 1669 [l0, l1, l2, l3, l4, l5, (some (.int v)), l7] (.int v :: st) h x := (g_step rfl rfl rfl rfl).trans rfl
set_option maxRecDepth 100000 in
theorem e240_1669 {ro : Nat → Nat × (Nat → Int32)} {l0 l1 l2 l3 l4 l5 l6 l7 : Option Value} {st : List Value} {h : List mCel} {x : Nat} {a b : Int32} : mW ro mTab 240 1669 [l0, l1, l2, l3, l4, l5, l6, l7] (.int b :: .int a :: st) h x = if a = b then mW ro mTab 240 1674 [l0, l1, l2, l3, l4, l5, l6, l7] st h x else mW ro mTab 240 1672 [l0, l1, l2, l3, l4, l5, l6, l7] st h x := g_icmp_eq rfl rfl rfl
set_option maxRecDepth 100000 in
theorem e240_1672 {ro : Nat → Nat × (Nat → Int32)} {l0 l1 l2 l3 l4 l5 l6 l7 : Option Value} {st : List Value} {h : List mCel} {x : Nat}  : mW ro mTab 240 1672 [l0, l1, l2, l3, l4, l5, l6, l7] st h x = mW ro mTab 240 1673 [l0, l1, l2, l3, l4, l5, l6, l7] (.int 0 :: st) h x := (g_step rfl rfl rfl rfl).trans rfl
set_option maxRecDepth 100000 in
theorem e240_1673 {ro : Nat → Nat × (Nat → Int32)} {l0 l1 l2 l3 l4 l5 l6 l7 : Option Value} {h : List mCel} {x : Nat} {v : Int32} (hv : v = 0 ∨ v = 1) : mW ro mTab 240 1673 [l0, l1, l2, l3, l4, l5, l6, l7] [.int v] h x = some (.inl (some (.int v)), h, x) := g_zret rfl rfl rfl hv
set_option maxRecDepth 100000 in
theorem e240_1674 {ro : Nat → Nat × (Nat → Int32)} {l0 l1 l2 l3 l4 l5 l7 : Option Value} {st : List Value} {h : List mCel} {x : Nat} {v : Int32} : mW ro mTab 240 1674 [l0, l1, l2, l3, l4, l5, (some (.int v)), l7] st h x = mW ro mTab 240 1676 [l0, l1, l2, l3, l4, l5, (some (.int v)), l7] (.int v :: st) h x := (g_step rfl rfl rfl rfl).trans rfl
set_option maxRecDepth 100000 in
theorem e240_1676 {ro : Nat → Nat × (Nat → Int32)} {l0 l1 l2 l3 l4 l5 l6 l7 : Option Value} {st : List Value} {h : List mCel} {x : Nat} {a : Int32} : mW ro mTab 240 1676 [l0, l1, l2, l3, l4, l5, l6, l7] (.int a :: st) h x = if ¬ a = 0 then mW ro mTab 240 1691 [l0, l1, l2, l3, l4, l5, l6, l7] st h x else mW ro mTab 240 1679 [l0, l1, l2, l3, l4, l5, l6, l7] st h x := g_if_ne rfl rfl rfl
set_option maxRecDepth 100000 in
theorem e240_1679 {ro : Nat → Nat × (Nat → Int32)} {l0 l1 l2 l4 l5 l6 l7 : Option Value} {st : List Value} {h : List mCel} {x : Nat} {v : Nat} : mW ro mTab 240 1679 [l0, l1, l2, (some (.ref v)), l4, l5, l6, l7] st h x = mW ro mTab 240 1680 [l0, l1, l2, (some (.ref v)), l4, l5, l6, l7] (.ref v :: st) h x := (g_step rfl rfl rfl rfl).trans rfl
set_option maxRecDepth 100000 in
theorem e240_1680 {ro : Nat → Nat × (Nat → Int32)} {l0 l1 l2 l3 l4 l5 l6 l7 : Option Value} {st : List Value} {h : List mCel} {x : Nat}  : mW ro mTab 240 1680 [l0, l1, l2, l3, l4, l5, l6, l7] st h x = mW ro mTab 240 1681 [l0, l1, l2, l3, l4, l5, l6, l7] (.int 0 :: st) h x := (g_step rfl rfl rfl rfl).trans rfl
set_option maxRecDepth 100000 in
theorem e240_1681 {ro : Nat → Nat × (Nat → Int32)} {l0 l1 l2 l3 l4 l5 l6 l7 : Option Value} {st : List Value} {h : List mCel} {x : Nat} {a : Nat} {j : Int32} : mW ro mTab 240 1681 [l0, l1, l2, l3, l4, l5, l6, l7] (.int j :: .ref a :: st) h x = kLA h a j fun v => mW ro mTab 240 1682 [l0, l1, l2, l3, l4, l5, l6, l7] (.long v :: st) h x := g_laload rfl rfl
set_option maxRecDepth 100000 in
theorem e240_1682 {ro : Nat → Nat × (Nat → Int32)} {l0 l1 l2 l3 l4 l5 l6 : Option Value} {st : List Value} {h : List mCel} {x : Nat} {v : Int32} : mW ro mTab 240 1682 [l0, l1, l2, l3, l4, l5, l6, (some (.int v))] st h x = mW ro mTab 240 1684 [l0, l1, l2, l3, l4, l5, l6, (some (.int v))] (.int v :: st) h x := (g_step rfl rfl rfl rfl).trans rfl
set_option maxRecDepth 100000 in
theorem e240_1684 {ro : Nat → Nat × (Nat → Int32)} {l0 l1 l2 l3 l4 l5 l6 l7 : Option Value} {st : List Value} {h : List mCel} {x : Nat} {a : Int32} : mW ro mTab 240 1684 [l0, l1, l2, l3, l4, l5, l6, l7] (.int a :: st) h x = mW ro mTab 240 1685 [l0, l1, l2, l3, l4, l5, l6, l7] (.long a.toInt64 :: st) h x := (g_step rfl rfl rfl rfl).trans rfl
set_option maxRecDepth 100000 in
theorem e240_1685 {ro : Nat → Nat × (Nat → Int32)} {l0 l1 l2 l3 l4 l5 l6 l7 : Option Value} {st : List Value} {h : List mCel} {x : Nat} {a b : Int64} : mW ro mTab 240 1685 [l0, l1, l2, l3, l4, l5, l6, l7] (.long b :: .long a :: st) h x = mW ro mTab 240 1686 [l0, l1, l2, l3, l4, l5, l6, l7] (.int (lg_cmp a b) :: st) h x := (g_step rfl rfl rfl rfl).trans rfl
set_option maxRecDepth 100000 in
theorem e240_1686 {ro : Nat → Nat × (Nat → Int32)} {l0 l1 l2 l3 l4 l5 l6 l7 : Option Value} {st : List Value} {h : List mCel} {x : Nat} {a : Int32} : mW ro mTab 240 1686 [l0, l1, l2, l3, l4, l5, l6, l7] (.int a :: st) h x = if a = 0 then mW ro mTab 240 1691 [l0, l1, l2, l3, l4, l5, l6, l7] st h x else mW ro mTab 240 1689 [l0, l1, l2, l3, l4, l5, l6, l7] st h x := g_if_eq rfl rfl rfl
set_option maxRecDepth 100000 in
theorem e240_1689 {ro : Nat → Nat × (Nat → Int32)} {l0 l1 l2 l3 l4 l5 l6 l7 : Option Value} {st : List Value} {h : List mCel} {x : Nat}  : mW ro mTab 240 1689 [l0, l1, l2, l3, l4, l5, l6, l7] st h x = mW ro mTab 240 1690 [l0, l1, l2, l3, l4, l5, l6, l7] (.int 0 :: st) h x := (g_step rfl rfl rfl rfl).trans rfl
set_option maxRecDepth 100000 in
theorem e240_1690 {ro : Nat → Nat × (Nat → Int32)} {l0 l1 l2 l3 l4 l5 l6 l7 : Option Value} {h : List mCel} {x : Nat} {v : Int32} (hv : v = 0 ∨ v = 1) : mW ro mTab 240 1690 [l0, l1, l2, l3, l4, l5, l6, l7] [.int v] h x = some (.inl (some (.int v)), h, x) := g_zret rfl rfl rfl hv
set_option maxRecDepth 100000 in
theorem e240_1691 {ro : Nat → Nat × (Nat → Int32)} {l0 l1 l2 l3 l4 l5 l6 l7 : Option Value} {st : List Value} {h : List mCel} {x : Nat}  : mW ro mTab 240 1691 [l0, l1, l2, l3, l4, l5, l6, l7] st h x = mW ro mTab 240 1980 [l0, l1, l2, l3, l4, l5, l6, l7] st h x := (g_step rfl rfl rfl rfl).trans rfl
set_option maxRecDepth 100000 in
theorem e240_1694 {ro : Nat → Nat × (Nat → Int32)} {l0 l2 l3 l4 l5 l6 l7 : Option Value} {st : List Value} {h : List mCel} {x : Nat} {v : Nat} : mW ro mTab 240 1694 [l0, (some (.ref v)), l2, l3, l4, l5, l6, l7] st h x = mW ro mTab 240 1695 [l0, (some (.ref v)), l2, l3, l4, l5, l6, l7] (.ref v :: st) h x := (g_step rfl rfl rfl rfl).trans rfl
set_option maxRecDepth 100000 in
theorem e240_1695 {ro : Nat → Nat × (Nat → Int32)} {l1 l2 l3 l4 l5 l6 l7 : Option Value} {st : List Value} {h : List mCel} {x : Nat} {v : Nat} : mW ro mTab 240 1695 [(some (.ref v)), l1, l2, l3, l4, l5, l6, l7] st h x = mW ro mTab 240 1696 [(some (.ref v)), l1, l2, l3, l4, l5, l6, l7] (.ref v :: st) h x := (g_step rfl rfl rfl rfl).trans rfl
set_option maxRecDepth 100000 in
theorem e240_1696 {ro : Nat → Nat × (Nat → Int32)} {l0 l1 l2 l3 l4 l6 l7 : Option Value} {st : List Value} {h : List mCel} {x : Nat} {v : Int32} : mW ro mTab 240 1696 [l0, l1, l2, l3, l4, (some (.int v)), l6, l7] st h x = mW ro mTab 240 1698 [l0, l1, l2, l3, l4, (some (.int v)), l6, l7] (.int v :: st) h x := (g_step rfl rfl rfl rfl).trans rfl
set_option maxRecDepth 100000 in
theorem e240_1698 {ro : Nat → Nat × (Nat → Int32)} {l0 l1 l2 l3 l4 l5 l6 l7 : Option Value} {st : List Value} {h : List mCel} {x : Nat}  : mW ro mTab 240 1698 [l0, l1, l2, l3, l4, l5, l6, l7] st h x = mW ro mTab 240 1699 [l0, l1, l2, l3, l4, l5, l6, l7] (.int 1 :: st) h x := (g_step rfl rfl rfl rfl).trans rfl
set_option maxRecDepth 100000 in
theorem e240_1699 {ro : Nat → Nat × (Nat → Int32)} {l0 l1 l2 l3 l4 l5 l6 l7 : Option Value} {st : List Value} {h : List mCel} {x : Nat} {a b : Int32} : mW ro mTab 240 1699 [l0, l1, l2, l3, l4, l5, l6, l7] (.int b :: .int a :: st) h x = mW ro mTab 240 1700 [l0, l1, l2, l3, l4, l5, l6, l7] (.int (a + b) :: st) h x := (g_step rfl rfl rfl rfl).trans rfl
set_option maxRecDepth 100000 in
theorem e240_1700 {ro : Nat → Nat × (Nat → Int32)} {l0 l1 l2 l3 l4 l5 l6 l7 : Option Value} {st : List Value} {h : List mCel} {x : Nat} {a : Nat} {j : Int32} : mW ro mTab 240 1700 [l0, l1, l2, l3, l4, l5, l6, l7] (.int j :: .ref a :: st) h x = kIA ro h a j fun v => mW ro mTab 240 1701 [l0, l1, l2, l3, l4, l5, l6, l7] (.int v :: st) h x := g_iaload rfl rfl
set_option maxRecDepth 100000 in
theorem e240_1701 {ro : Nat → Nat × (Nat → Int32)} {l1 l2 l3 l4 l5 l6 l7 : Option Value} {st : List Value} {h : List mCel} {x : Nat} {v : Nat} : mW ro mTab 240 1701 [(some (.ref v)), l1, l2, l3, l4, l5, l6, l7] st h x = mW ro mTab 240 1702 [(some (.ref v)), l1, l2, l3, l4, l5, l6, l7] (.ref v :: st) h x := (g_step rfl rfl rfl rfl).trans rfl
set_option maxRecDepth 100000 in
theorem e240_1702 {ro : Nat → Nat × (Nat → Int32)} {l0 l1 l2 l3 l4 l6 l7 : Option Value} {st : List Value} {h : List mCel} {x : Nat} {v : Int32} : mW ro mTab 240 1702 [l0, l1, l2, l3, l4, (some (.int v)), l6, l7] st h x = mW ro mTab 240 1704 [l0, l1, l2, l3, l4, (some (.int v)), l6, l7] (.int v :: st) h x := (g_step rfl rfl rfl rfl).trans rfl
set_option maxRecDepth 100000 in
theorem e240_1704 {ro : Nat → Nat × (Nat → Int32)} {l0 l1 l2 l3 l4 l5 l6 l7 : Option Value} {st : List Value} {h : List mCel} {x : Nat}  : mW ro mTab 240 1704 [l0, l1, l2, l3, l4, l5, l6, l7] st h x = mW ro mTab 240 1705 [l0, l1, l2, l3, l4, l5, l6, l7] (.int 2 :: st) h x := (g_step rfl rfl rfl rfl).trans rfl
set_option maxRecDepth 100000 in
theorem e240_1705 {ro : Nat → Nat × (Nat → Int32)} {l0 l1 l2 l3 l4 l5 l6 l7 : Option Value} {st : List Value} {h : List mCel} {x : Nat} {a b : Int32} : mW ro mTab 240 1705 [l0, l1, l2, l3, l4, l5, l6, l7] (.int b :: .int a :: st) h x = mW ro mTab 240 1706 [l0, l1, l2, l3, l4, l5, l6, l7] (.int (a + b) :: st) h x := (g_step rfl rfl rfl rfl).trans rfl
set_option maxRecDepth 100000 in
theorem e240_1706 {ro : Nat → Nat × (Nat → Int32)} {l0 l1 l2 l3 l4 l5 l6 l7 : Option Value} {st : List Value} {h : List mCel} {x : Nat} {a : Nat} {j : Int32} : mW ro mTab 240 1706 [l0, l1, l2, l3, l4, l5, l6, l7] (.int j :: .ref a :: st) h x = kIA ro h a j fun v => mW ro mTab 240 1707 [l0, l1, l2, l3, l4, l5, l6, l7] (.int v :: st) h x := g_iaload rfl rfl
set_option maxRecDepth 100000 in
theorem e240_1707 {ro : Nat → Nat × (Nat → Int32)} {l0 l1 l2 l4 l5 l6 l7 : Option Value} {st : List Value} {h : List mCel} {x : Nat} {v : Nat} : mW ro mTab 240 1707 [l0, l1, l2, (some (.ref v)), l4, l5, l6, l7] st h x = mW ro mTab 240 1708 [l0, l1, l2, (some (.ref v)), l4, l5, l6, l7] (.ref v :: st) h x := (g_step rfl rfl rfl rfl).trans rfl
set_option maxRecDepth 100000 in
theorem e240_1708 {ro : Nat → Nat × (Nat → Int32)} {l0 l1 l2 l3 l4 l5 l6 l7 : Option Value} {st : List Value} {h : List mCel} {x : Nat} {a0 : Nat} {a1 : Int32} {a2 : Int32} {a3 : Nat} (hs : (st.map Value.category).sum ≤ 8) : mW ro mTab 240 1708 [l0, l1, l2, l3, l4, l5, l6, l7] (.ref a3 :: .int a2 :: .int a1 :: .ref a0 :: st) h x = mAft (mW ro mTab) (mHd mM_240) 240 1708 [l0, l1, l2, l3, l4, l5, l6, l7] st (mW ro mTab 248 0 [some (.ref a0), some (.int a1), some (.int a2), some (.ref a3), none] [] h x) := g_call rfl rfl rfl rfl rfl rfl rfl hs
set_option maxRecDepth 100000 in
theorem e240_1711 {ro : Nat → Nat × (Nat → Int32)} {l0 l1 l2 l3 l4 l5 l6 l7 : Option Value} {st : List Value} {h : List mCel} {x : Nat} {v : Int32} : mW ro mTab 240 1711 [l0, l1, l2, l3, l4, l5, l6, l7] (.int v :: st) h x = mW ro mTab 240 1713 [l0, l1, l2, l3, l4, l5, (some (.int v)), l7] st h x := (g_step rfl rfl rfl rfl).trans rfl
set_option maxRecDepth 100000 in
theorem e240_1713 {ro : Nat → Nat × (Nat → Int32)} {l0 l1 l3 l4 l5 l6 l7 : Option Value} {st : List Value} {h : List mCel} {x : Nat} {v : Nat} : mW ro mTab 240 1713 [l0, l1, (some (.ref v)), l3, l4, l5, l6, l7] st h x = mW ro mTab 240 1714 [l0, l1, (some (.ref v)), l3, l4, l5, l6, l7] (.ref v :: st) h x := (g_step rfl rfl rfl rfl).trans rfl
set_option maxRecDepth 100000 in
theorem e240_1714 {ro : Nat → Nat × (Nat → Int32)} {l1 l2 l3 l4 l5 l6 l7 : Option Value} {st : List Value} {h : List mCel} {x : Nat} {v : Nat} : mW ro mTab 240 1714 [(some (.ref v)), l1, l2, l3, l4, l5, l6, l7] st h x = mW ro mTab 240 1715 [(some (.ref v)), l1, l2, l3, l4, l5, l6, l7] (.ref v :: st) h x := (g_step rfl rfl rfl rfl).trans rfl
set_option maxRecDepth 100000 in
theorem e240_1715 {ro : Nat → Nat × (Nat → Int32)} {l0 l1 l2 l3 l4 l6 l7 : Option Value} {st : List Value} {h : List mCel} {x : Nat} {v : Int32} : mW ro mTab 240 1715 [l0, l1, l2, l3, l4, (some (.int v)), l6, l7] st h x = mW ro mTab 240 1717 [l0, l1, l2, l3, l4, (some (.int v)), l6, l7] (.int v :: st) h x := (g_step rfl rfl rfl rfl).trans rfl
set_option maxRecDepth 100000 in
theorem e240_1717 {ro : Nat → Nat × (Nat → Int32)} {l0 l1 l2 l3 l4 l5 l6 l7 : Option Value} {st : List Value} {h : List mCel} {x : Nat}  : mW ro mTab 240 1717 [l0, l1, l2, l3, l4, l5, l6, l7] st h x = mW ro mTab 240 1718 [l0, l1, l2, l3, l4, l5, l6, l7] (.int 1 :: st) h x := (g_step rfl rfl rfl rfl).trans rfl
set_option maxRecDepth 100000 in
theorem e240_1718 {ro : Nat → Nat × (Nat → Int32)} {l0 l1 l2 l3 l4 l5 l6 l7 : Option Value} {st : List Value} {h : List mCel} {x : Nat} {a b : Int32} : mW ro mTab 240 1718 [l0, l1, l2, l3, l4, l5, l6, l7] (.int b :: .int a :: st) h x = mW ro mTab 240 1719 [l0, l1, l2, l3, l4, l5, l6, l7] (.int (a + b) :: st) h x := (g_step rfl rfl rfl rfl).trans rfl
set_option maxRecDepth 100000 in
theorem e240_1719 {ro : Nat → Nat × (Nat → Int32)} {l0 l1 l2 l3 l4 l5 l6 l7 : Option Value} {st : List Value} {h : List mCel} {x : Nat} {a : Nat} {j : Int32} : mW ro mTab 240 1719 [l0, l1, l2, l3, l4, l5, l6, l7] (.int j :: .ref a :: st) h x = kIA ro h a j fun v => mW ro mTab 240 1720 [l0, l1, l2, l3, l4, l5, l6, l7] (.int v :: st) h x := g_iaload rfl rfl
set_option maxRecDepth 100000 in
theorem e240_1720 {ro : Nat → Nat × (Nat → Int32)} {l1 l2 l3 l4 l5 l6 l7 : Option Value} {st : List Value} {h : List mCel} {x : Nat} {v : Nat} : mW ro mTab 240 1720 [(some (.ref v)), l1, l2, l3, l4, l5, l6, l7] st h x = mW ro mTab 240 1721 [(some (.ref v)), l1, l2, l3, l4, l5, l6, l7] (.ref v :: st) h x := (g_step rfl rfl rfl rfl).trans rfl
set_option maxRecDepth 100000 in
theorem e240_1721 {ro : Nat → Nat × (Nat → Int32)} {l0 l1 l2 l3 l4 l6 l7 : Option Value} {st : List Value} {h : List mCel} {x : Nat} {v : Int32} : mW ro mTab 240 1721 [l0, l1, l2, l3, l4, (some (.int v)), l6, l7] st h x = mW ro mTab 240 1723 [l0, l1, l2, l3, l4, (some (.int v)), l6, l7] (.int v :: st) h x := (g_step rfl rfl rfl rfl).trans rfl
set_option maxRecDepth 100000 in
theorem e240_1723 {ro : Nat → Nat × (Nat → Int32)} {l0 l1 l2 l3 l4 l5 l6 l7 : Option Value} {st : List Value} {h : List mCel} {x : Nat}  : mW ro mTab 240 1723 [l0, l1, l2, l3, l4, l5, l6, l7] st h x = mW ro mTab 240 1724 [l0, l1, l2, l3, l4, l5, l6, l7] (.int 2 :: st) h x := (g_step rfl rfl rfl rfl).trans rfl
set_option maxRecDepth 100000 in
theorem e240_1724 {ro : Nat → Nat × (Nat → Int32)} {l0 l1 l2 l3 l4 l5 l6 l7 : Option Value} {st : List Value} {h : List mCel} {x : Nat} {a b : Int32} : mW ro mTab 240 1724 [l0, l1, l2, l3, l4, l5, l6, l7] (.int b :: .int a :: st) h x = mW ro mTab 240 1725 [l0, l1, l2, l3, l4, l5, l6, l7] (.int (a + b) :: st) h x := (g_step rfl rfl rfl rfl).trans rfl
set_option maxRecDepth 100000 in
theorem e240_1725 {ro : Nat → Nat × (Nat → Int32)} {l0 l1 l2 l3 l4 l5 l6 l7 : Option Value} {st : List Value} {h : List mCel} {x : Nat} {a : Nat} {j : Int32} : mW ro mTab 240 1725 [l0, l1, l2, l3, l4, l5, l6, l7] (.int j :: .ref a :: st) h x = kIA ro h a j fun v => mW ro mTab 240 1726 [l0, l1, l2, l3, l4, l5, l6, l7] (.int v :: st) h x := g_iaload rfl rfl
set_option maxRecDepth 100000 in
theorem e240_1726 {ro : Nat → Nat × (Nat → Int32)} {l0 l1 l2 l3 l4 l5 l6 l7 : Option Value} {st : List Value} {h : List mCel} {x : Nat} {a0 : Nat} {a1 : Int32} {a2 : Int32} (hr : kR (mCell h a0) 11 = true) (hs : (st.map Value.category).sum ≤ 8) : mW ro mTab 240 1726 [l0, l1, l2, l3, l4, l5, l6, l7] (.int a2 :: .int a1 :: .ref a0 :: st) h x = mAft (mW ro mTab) (mHd mM_240) 240 1726 [l0, l1, l2, l3, l4, l5, l6, l7] st (mW ro mTab 127 0 [some (.ref a0), some (.int a1), some (.int a2), none, none, none] [] h x) := g_call rfl rfl rfl rfl rfl rfl (g_rcv rfl hr) hs
set_option maxRecDepth 100000 in
theorem e240_1729 {ro : Nat → Nat × (Nat → Int32)} {l0 l1 l2 l3 l4 l5 l6 l7 : Option Value} {st : List Value} {h : List mCel} {x : Nat} {v : Int32} : mW ro mTab 240 1729 [l0, l1, l2, l3, l4, l5, l6, l7] (.int v :: st) h x = mW ro mTab 240 1731 [l0, l1, l2, l3, l4, l5, l6, (some (.int v))] st h x := (g_step rfl rfl rfl rfl).trans rfl
set_option maxRecDepth 100000 in
theorem e240_1731 {ro : Nat → Nat × (Nat → Int32)} {l0 l1 l3 l4 l5 l6 l7 : Option Value} {st : List Value} {h : List mCel} {x : Nat} {v : Nat} : mW ro mTab 240 1731 [l0, l1, (some (.ref v)), l3, l4, l5, l6, l7] st h x = mW ro mTab 240 1732 [l0, l1, (some (.ref v)), l3, l4, l5, l6, l7] (.ref v :: st) h x := (g_step rfl rfl rfl rfl).trans rfl
set_option maxRecDepth 100000 in
theorem e240_1732 {ro : Nat → Nat × (Nat → Int32)} {l0 l1 l2 l3 l4 l5 l6 l7 : Option Value} {st : List Value} {h : List mCel} {x : Nat} {a0 : Nat} (hr : kR (mCell h a0) 11 = true) (hs : (st.map Value.category).sum ≤ 8) : mW ro mTab 240 1732 [l0, l1, l2, l3, l4, l5, l6, l7] (.ref a0 :: st) h x = mAft (mW ro mTab) (mHd mM_240) 240 1732 [l0, l1, l2, l3, l4, l5, l6, l7] st (mW ro mTab 137 0 [some (.ref a0)] [] h x) := g_call rfl rfl rfl rfl rfl rfl (g_rcv rfl hr) hs
set_option maxRecDepth 100000 in
theorem e240_1735 {ro : Nat → Nat × (Nat → Int32)} {l0 l1 l2 l3 l4 l5 l7 : Option Value} {st : List Value} {h : List mCel} {x : Nat} {v : Int32} : mW ro mTab 240 1735 [l0, l1, l2, l3, l4, l5, (some (.int v)), l7] st h x = mW ro mTab 240 1737 [l0, l1, l2, l3, l4, l5, (some (.int v)), l7] (.int v :: st) h x := (g_step rfl rfl rfl rfl).trans rfl
set_option maxRecDepth 100000 in
theorem e240_1737 {ro : Nat → Nat × (Nat → Int32)} {l0 l1 l2 l3 l4 l5 l6 l7 : Option Value} {st : List Value} {h : List mCel} {x : Nat} {a b : Int32} : mW ro mTab 240 1737 [l0, l1, l2, l3, l4, l5, l6, l7] (.int b :: .int a :: st) h x = if a = b then mW ro mTab 240 1742 [l0, l1, l2, l3, l4, l5, l6, l7] st h x else mW ro mTab 240 1740 [l0, l1, l2, l3, l4, l5, l6, l7] st h x := g_icmp_eq rfl rfl rfl
set_option maxRecDepth 100000 in
theorem e240_1740 {ro : Nat → Nat × (Nat → Int32)} {l0 l1 l2 l3 l4 l5 l6 l7 : Option Value} {st : List Value} {h : List mCel} {x : Nat}  : mW ro mTab 240 1740 [l0, l1, l2, l3, l4, l5, l6, l7] st h x = mW ro mTab 240 1741 [l0, l1, l2, l3, l4, l5, l6, l7] (.int 0 :: st) h x := (g_step rfl rfl rfl rfl).trans rfl
set_option maxRecDepth 100000 in
theorem e240_1741 {ro : Nat → Nat × (Nat → Int32)} {l0 l1 l2 l3 l4 l5 l6 l7 : Option Value} {h : List mCel} {x : Nat} {v : Int32} (hv : v = 0 ∨ v = 1) : mW ro mTab 240 1741 [l0, l1, l2, l3, l4, l5, l6, l7] [.int v] h x = some (.inl (some (.int v)), h, x) := g_zret rfl rfl rfl hv
set_option maxRecDepth 100000 in
theorem e240_1742 {ro : Nat → Nat × (Nat → Int32)} {l0 l1 l2 l3 l4 l5 l7 : Option Value} {st : List Value} {h : List mCel} {x : Nat} {v : Int32} : mW ro mTab 240 1742 [l0, l1, l2, l3, l4, l5, (some (.int v)), l7] st h x = mW ro mTab 240 1744 [l0, l1, l2, l3, l4, l5, (some (.int v)), l7] (.int v :: st) h x := (g_step rfl rfl rfl rfl).trans rfl
set_option maxRecDepth 100000 in
theorem e240_1744 {ro : Nat → Nat × (Nat → Int32)} {l0 l1 l2 l3 l4 l5 l6 l7 : Option Value} {st : List Value} {h : List mCel} {x : Nat} {a : Int32} : mW ro mTab 240 1744 [l0, l1, l2, l3, l4, l5, l6, l7] (.int a :: st) h x = if ¬ a = 0 then mW ro mTab 240 1759 [l0, l1, l2, l3, l4, l5, l6, l7] st h x else mW ro mTab 240 1747 [l0, l1, l2, l3, l4, l5, l6, l7] st h x := g_if_ne rfl rfl rfl
set_option maxRecDepth 100000 in
theorem e240_1747 {ro : Nat → Nat × (Nat → Int32)} {l0 l1 l2 l4 l5 l6 l7 : Option Value} {st : List Value} {h : List mCel} {x : Nat} {v : Nat} : mW ro mTab 240 1747 [l0, l1, l2, (some (.ref v)), l4, l5, l6, l7] st h x = mW ro mTab 240 1748 [l0, l1, l2, (some (.ref v)), l4, l5, l6, l7] (.ref v :: st) h x := (g_step rfl rfl rfl rfl).trans rfl
set_option maxRecDepth 100000 in
theorem e240_1748 {ro : Nat → Nat × (Nat → Int32)} {l0 l1 l2 l3 l4 l5 l6 l7 : Option Value} {st : List Value} {h : List mCel} {x : Nat}  : mW ro mTab 240 1748 [l0, l1, l2, l3, l4, l5, l6, l7] st h x = mW ro mTab 240 1749 [l0, l1, l2, l3, l4, l5, l6, l7] (.int 0 :: st) h x := (g_step rfl rfl rfl rfl).trans rfl
set_option maxRecDepth 100000 in
theorem e240_1749 {ro : Nat → Nat × (Nat → Int32)} {l0 l1 l2 l3 l4 l5 l6 l7 : Option Value} {st : List Value} {h : List mCel} {x : Nat} {a : Nat} {j : Int32} : mW ro mTab 240 1749 [l0, l1, l2, l3, l4, l5, l6, l7] (.int j :: .ref a :: st) h x = kLA h a j fun v => mW ro mTab 240 1750 [l0, l1, l2, l3, l4, l5, l6, l7] (.long v :: st) h x := g_laload rfl rfl
set_option maxRecDepth 100000 in
theorem e240_1750 {ro : Nat → Nat × (Nat → Int32)} {l0 l1 l2 l3 l4 l5 l6 : Option Value} {st : List Value} {h : List mCel} {x : Nat} {v : Int32} : mW ro mTab 240 1750 [l0, l1, l2, l3, l4, l5, l6, (some (.int v))] st h x = mW ro mTab 240 1752 [l0, l1, l2, l3, l4, l5, l6, (some (.int v))] (.int v :: st) h x := (g_step rfl rfl rfl rfl).trans rfl
set_option maxRecDepth 100000 in
theorem e240_1752 {ro : Nat → Nat × (Nat → Int32)} {l0 l1 l2 l3 l4 l5 l6 l7 : Option Value} {st : List Value} {h : List mCel} {x : Nat} {a : Int32} : mW ro mTab 240 1752 [l0, l1, l2, l3, l4, l5, l6, l7] (.int a :: st) h x = mW ro mTab 240 1753 [l0, l1, l2, l3, l4, l5, l6, l7] (.long a.toInt64 :: st) h x := (g_step rfl rfl rfl rfl).trans rfl
set_option maxRecDepth 100000 in
theorem e240_1753 {ro : Nat → Nat × (Nat → Int32)} {l0 l1 l2 l3 l4 l5 l6 l7 : Option Value} {st : List Value} {h : List mCel} {x : Nat} {a b : Int64} : mW ro mTab 240 1753 [l0, l1, l2, l3, l4, l5, l6, l7] (.long b :: .long a :: st) h x = mW ro mTab 240 1754 [l0, l1, l2, l3, l4, l5, l6, l7] (.int (lg_cmp a b) :: st) h x := (g_step rfl rfl rfl rfl).trans rfl
set_option maxRecDepth 100000 in
theorem e240_1754 {ro : Nat → Nat × (Nat → Int32)} {l0 l1 l2 l3 l4 l5 l6 l7 : Option Value} {st : List Value} {h : List mCel} {x : Nat} {a : Int32} : mW ro mTab 240 1754 [l0, l1, l2, l3, l4, l5, l6, l7] (.int a :: st) h x = if a = 0 then mW ro mTab 240 1759 [l0, l1, l2, l3, l4, l5, l6, l7] st h x else mW ro mTab 240 1757 [l0, l1, l2, l3, l4, l5, l6, l7] st h x := g_if_eq rfl rfl rfl
set_option maxRecDepth 100000 in
theorem e240_1757 {ro : Nat → Nat × (Nat → Int32)} {l0 l1 l2 l3 l4 l5 l6 l7 : Option Value} {st : List Value} {h : List mCel} {x : Nat}  : mW ro mTab 240 1757 [l0, l1, l2, l3, l4, l5, l6, l7] st h x = mW ro mTab 240 1758 [l0, l1, l2, l3, l4, l5, l6, l7] (.int 0 :: st) h x := (g_step rfl rfl rfl rfl).trans rfl
set_option maxRecDepth 100000 in
theorem e240_1758 {ro : Nat → Nat × (Nat → Int32)} {l0 l1 l2 l3 l4 l5 l6 l7 : Option Value} {h : List mCel} {x : Nat} {v : Int32} (hv : v = 0 ∨ v = 1) : mW ro mTab 240 1758 [l0, l1, l2, l3, l4, l5, l6, l7] [.int v] h x = some (.inl (some (.int v)), h, x) := g_zret rfl rfl rfl hv
set_option maxRecDepth 100000 in
theorem e240_1759 {ro : Nat → Nat × (Nat → Int32)} {l0 l1 l2 l3 l4 l5 l6 l7 : Option Value} {st : List Value} {h : List mCel} {x : Nat}  : mW ro mTab 240 1759 [l0, l1, l2, l3, l4, l5, l6, l7] st h x = mW ro mTab 240 1980 [l0, l1, l2, l3, l4, l5, l6, l7] st h x := (g_step rfl rfl rfl rfl).trans rfl
set_option maxRecDepth 100000 in
theorem e240_1762 {ro : Nat → Nat × (Nat → Int32)} {l0 l2 l3 l4 l5 l6 l7 : Option Value} {st : List Value} {h : List mCel} {x : Nat} {v : Nat} : mW ro mTab 240 1762 [l0, (some (.ref v)), l2, l3, l4, l5, l6, l7] st h x = mW ro mTab 240 1763 [l0, (some (.ref v)), l2, l3, l4, l5, l6, l7] (.ref v :: st) h x := (g_step rfl rfl rfl rfl).trans rfl
set_option maxRecDepth 100000 in
theorem e240_1763 {ro : Nat → Nat × (Nat → Int32)} {l1 l2 l3 l4 l5 l6 l7 : Option Value} {st : List Value} {h : List mCel} {x : Nat} {v : Nat} : mW ro mTab 240 1763 [(some (.ref v)), l1, l2, l3, l4, l5, l6, l7] st h x = mW ro mTab 240 1764 [(some (.ref v)), l1, l2, l3, l4, l5, l6, l7] (.ref v :: st) h x := (g_step rfl rfl rfl rfl).trans rfl
set_option maxRecDepth 100000 in
theorem e240_1764 {ro : Nat → Nat × (Nat → Int32)} {l0 l1 l2 l3 l4 l6 l7 : Option Value} {st : List Value} {h : List mCel} {x : Nat} {v : Int32} : mW ro mTab 240 1764 [l0, l1, l2, l3, l4, (some (.int v)), l6, l7] st h x = mW ro mTab 240 1766 [l0, l1, l2, l3, l4, (some (.int v)), l6, l7] (.int v :: st) h x := (g_step rfl rfl rfl rfl).trans rfl
set_option maxRecDepth 100000 in
theorem e240_1766 {ro : Nat → Nat × (Nat → Int32)} {l0 l1 l2 l3 l4 l5 l6 l7 : Option Value} {st : List Value} {h : List mCel} {x : Nat}  : mW ro mTab 240 1766 [l0, l1, l2, l3, l4, l5, l6, l7] st h x = mW ro mTab 240 1767 [l0, l1, l2, l3, l4, l5, l6, l7] (.int 1 :: st) h x := (g_step rfl rfl rfl rfl).trans rfl
set_option maxRecDepth 100000 in
theorem e240_1767 {ro : Nat → Nat × (Nat → Int32)} {l0 l1 l2 l3 l4 l5 l6 l7 : Option Value} {st : List Value} {h : List mCel} {x : Nat} {a b : Int32} : mW ro mTab 240 1767 [l0, l1, l2, l3, l4, l5, l6, l7] (.int b :: .int a :: st) h x = mW ro mTab 240 1768 [l0, l1, l2, l3, l4, l5, l6, l7] (.int (a + b) :: st) h x := (g_step rfl rfl rfl rfl).trans rfl
set_option maxRecDepth 100000 in
theorem e240_1768 {ro : Nat → Nat × (Nat → Int32)} {l0 l1 l2 l3 l4 l5 l6 l7 : Option Value} {st : List Value} {h : List mCel} {x : Nat} {a : Nat} {j : Int32} : mW ro mTab 240 1768 [l0, l1, l2, l3, l4, l5, l6, l7] (.int j :: .ref a :: st) h x = kIA ro h a j fun v => mW ro mTab 240 1769 [l0, l1, l2, l3, l4, l5, l6, l7] (.int v :: st) h x := g_iaload rfl rfl
set_option maxRecDepth 100000 in
theorem e240_1769 {ro : Nat → Nat × (Nat → Int32)} {l1 l2 l3 l4 l5 l6 l7 : Option Value} {st : List Value} {h : List mCel} {x : Nat} {v : Nat} : mW ro mTab 240 1769 [(some (.ref v)), l1, l2, l3, l4, l5, l6, l7] st h x = mW ro mTab 240 1770 [(some (.ref v)), l1, l2, l3, l4, l5, l6, l7] (.ref v :: st) h x := (g_step rfl rfl rfl rfl).trans rfl
set_option maxRecDepth 100000 in
theorem e240_1770 {ro : Nat → Nat × (Nat → Int32)} {l0 l1 l2 l3 l4 l6 l7 : Option Value} {st : List Value} {h : List mCel} {x : Nat} {v : Int32} : mW ro mTab 240 1770 [l0, l1, l2, l3, l4, (some (.int v)), l6, l7] st h x = mW ro mTab 240 1772 [l0, l1, l2, l3, l4, (some (.int v)), l6, l7] (.int v :: st) h x := (g_step rfl rfl rfl rfl).trans rfl
set_option maxRecDepth 100000 in
theorem e240_1772 {ro : Nat → Nat × (Nat → Int32)} {l0 l1 l2 l3 l4 l5 l6 l7 : Option Value} {st : List Value} {h : List mCel} {x : Nat}  : mW ro mTab 240 1772 [l0, l1, l2, l3, l4, l5, l6, l7] st h x = mW ro mTab 240 1773 [l0, l1, l2, l3, l4, l5, l6, l7] (.int 2 :: st) h x := (g_step rfl rfl rfl rfl).trans rfl
set_option maxRecDepth 100000 in
theorem e240_1773 {ro : Nat → Nat × (Nat → Int32)} {l0 l1 l2 l3 l4 l5 l6 l7 : Option Value} {st : List Value} {h : List mCel} {x : Nat} {a b : Int32} : mW ro mTab 240 1773 [l0, l1, l2, l3, l4, l5, l6, l7] (.int b :: .int a :: st) h x = mW ro mTab 240 1774 [l0, l1, l2, l3, l4, l5, l6, l7] (.int (a + b) :: st) h x := (g_step rfl rfl rfl rfl).trans rfl
set_option maxRecDepth 100000 in
theorem e240_1774 {ro : Nat → Nat × (Nat → Int32)} {l0 l1 l2 l3 l4 l5 l6 l7 : Option Value} {st : List Value} {h : List mCel} {x : Nat} {a : Nat} {j : Int32} : mW ro mTab 240 1774 [l0, l1, l2, l3, l4, l5, l6, l7] (.int j :: .ref a :: st) h x = kIA ro h a j fun v => mW ro mTab 240 1775 [l0, l1, l2, l3, l4, l5, l6, l7] (.int v :: st) h x := g_iaload rfl rfl
set_option maxRecDepth 100000 in
theorem e240_1775 {ro : Nat → Nat × (Nat → Int32)} {l1 l2 l3 l4 l5 l6 l7 : Option Value} {st : List Value} {h : List mCel} {x : Nat} {v : Nat} : mW ro mTab 240 1775 [(some (.ref v)), l1, l2, l3, l4, l5, l6, l7] st h x = mW ro mTab 240 1776 [(some (.ref v)), l1, l2, l3, l4, l5, l6, l7] (.ref v :: st) h x := (g_step rfl rfl rfl rfl).trans rfl
set_option maxRecDepth 100000 in
theorem e240_1776 {ro : Nat → Nat × (Nat → Int32)} {l0 l1 l2 l3 l4 l6 l7 : Option Value} {st : List Value} {h : List mCel} {x : Nat} {v : Int32} : mW ro mTab 240 1776 [l0, l1, l2, l3, l4, (some (.int v)), l6, l7] st h x = mW ro mTab 240 1778 [l0, l1, l2, l3, l4, (some (.int v)), l6, l7] (.int v :: st) h x := (g_step rfl rfl rfl rfl).trans rfl
set_option maxRecDepth 100000 in
theorem e240_1778 {ro : Nat → Nat × (Nat → Int32)} {l0 l1 l2 l3 l4 l5 l6 l7 : Option Value} {st : List Value} {h : List mCel} {x : Nat}  : mW ro mTab 240 1778 [l0, l1, l2, l3, l4, l5, l6, l7] st h x = mW ro mTab 240 1779 [l0, l1, l2, l3, l4, l5, l6, l7] (.int 3 :: st) h x := (g_step rfl rfl rfl rfl).trans rfl
set_option maxRecDepth 100000 in
theorem e240_1779 {ro : Nat → Nat × (Nat → Int32)} {l0 l1 l2 l3 l4 l5 l6 l7 : Option Value} {st : List Value} {h : List mCel} {x : Nat} {a b : Int32} : mW ro mTab 240 1779 [l0, l1, l2, l3, l4, l5, l6, l7] (.int b :: .int a :: st) h x = mW ro mTab 240 1780 [l0, l1, l2, l3, l4, l5, l6, l7] (.int (a + b) :: st) h x := (g_step rfl rfl rfl rfl).trans rfl
set_option maxRecDepth 100000 in
theorem e240_1780 {ro : Nat → Nat × (Nat → Int32)} {l0 l1 l2 l3 l4 l5 l6 l7 : Option Value} {st : List Value} {h : List mCel} {x : Nat} {a : Nat} {j : Int32} : mW ro mTab 240 1780 [l0, l1, l2, l3, l4, l5, l6, l7] (.int j :: .ref a :: st) h x = kIA ro h a j fun v => mW ro mTab 240 1781 [l0, l1, l2, l3, l4, l5, l6, l7] (.int v :: st) h x := g_iaload rfl rfl
set_option maxRecDepth 100000 in
theorem e240_1781 {ro : Nat → Nat × (Nat → Int32)} {l1 l2 l3 l4 l5 l6 l7 : Option Value} {st : List Value} {h : List mCel} {x : Nat} {v : Nat} : mW ro mTab 240 1781 [(some (.ref v)), l1, l2, l3, l4, l5, l6, l7] st h x = mW ro mTab 240 1782 [(some (.ref v)), l1, l2, l3, l4, l5, l6, l7] (.ref v :: st) h x := (g_step rfl rfl rfl rfl).trans rfl
set_option maxRecDepth 100000 in
theorem e240_1782 {ro : Nat → Nat × (Nat → Int32)} {l0 l1 l2 l3 l4 l6 l7 : Option Value} {st : List Value} {h : List mCel} {x : Nat} {v : Int32} : mW ro mTab 240 1782 [l0, l1, l2, l3, l4, (some (.int v)), l6, l7] st h x = mW ro mTab 240 1784 [l0, l1, l2, l3, l4, (some (.int v)), l6, l7] (.int v :: st) h x := (g_step rfl rfl rfl rfl).trans rfl
set_option maxRecDepth 100000 in
theorem e240_1784 {ro : Nat → Nat × (Nat → Int32)} {l0 l1 l2 l3 l4 l5 l6 l7 : Option Value} {st : List Value} {h : List mCel} {x : Nat}  : mW ro mTab 240 1784 [l0, l1, l2, l3, l4, l5, l6, l7] st h x = mW ro mTab 240 1785 [l0, l1, l2, l3, l4, l5, l6, l7] (.int 4 :: st) h x := (g_step rfl rfl rfl rfl).trans rfl
set_option maxRecDepth 100000 in
theorem e240_1785 {ro : Nat → Nat × (Nat → Int32)} {l0 l1 l2 l3 l4 l5 l6 l7 : Option Value} {st : List Value} {h : List mCel} {x : Nat} {a b : Int32} : mW ro mTab 240 1785 [l0, l1, l2, l3, l4, l5, l6, l7] (.int b :: .int a :: st) h x = mW ro mTab 240 1786 [l0, l1, l2, l3, l4, l5, l6, l7] (.int (a + b) :: st) h x := (g_step rfl rfl rfl rfl).trans rfl
set_option maxRecDepth 100000 in
theorem e240_1786 {ro : Nat → Nat × (Nat → Int32)} {l0 l1 l2 l3 l4 l5 l6 l7 : Option Value} {st : List Value} {h : List mCel} {x : Nat} {a : Nat} {j : Int32} : mW ro mTab 240 1786 [l0, l1, l2, l3, l4, l5, l6, l7] (.int j :: .ref a :: st) h x = kIA ro h a j fun v => mW ro mTab 240 1787 [l0, l1, l2, l3, l4, l5, l6, l7] (.int v :: st) h x := g_iaload rfl rfl
set_option maxRecDepth 100000 in
theorem e240_1787 {ro : Nat → Nat × (Nat → Int32)} {l0 l1 l2 l3 l4 l5 l6 l7 : Option Value} {st : List Value} {h : List mCel} {x : Nat} {a0 : Nat} {a1 : Int32} {a2 : Int32} {a3 : Int32} {a4 : Int32} (hs : (st.map Value.category).sum ≤ 8) : mW ro mTab 240 1787 [l0, l1, l2, l3, l4, l5, l6, l7] (.int a4 :: .int a3 :: .int a2 :: .int a1 :: .ref a0 :: st) h x = mAft (mW ro mTab) (mHd mM_240) 240 1787 [l0, l1, l2, l3, l4, l5, l6, l7] st (mW ro mTab 251 0 [some (.ref a0), some (.int a1), some (.int a2), some (.int a3), some (.int a4), none] [] h x) := g_call rfl rfl rfl rfl rfl rfl rfl hs
set_option maxRecDepth 100000 in
theorem e240_1790 {ro : Nat → Nat × (Nat → Int32)} {l0 l1 l2 l3 l4 l5 l6 l7 : Option Value} {st : List Value} {h : List mCel} {x : Nat} {v : Int32} : mW ro mTab 240 1790 [l0, l1, l2, l3, l4, l5, l6, l7] (.int v :: st) h x = mW ro mTab 240 1792 [l0, l1, l2, l3, l4, l5, (some (.int v)), l7] st h x := (g_step rfl rfl rfl rfl).trans rfl
set_option maxRecDepth 100000 in
theorem e240_1792 {ro : Nat → Nat × (Nat → Int32)} {l0 l1 l3 l4 l5 l6 l7 : Option Value} {st : List Value} {h : List mCel} {x : Nat} {v : Nat} : mW ro mTab 240 1792 [l0, l1, (some (.ref v)), l3, l4, l5, l6, l7] st h x = mW ro mTab 240 1793 [l0, l1, (some (.ref v)), l3, l4, l5, l6, l7] (.ref v :: st) h x := (g_step rfl rfl rfl rfl).trans rfl
set_option maxRecDepth 100000 in
theorem e240_1793 {ro : Nat → Nat × (Nat → Int32)} {l1 l2 l3 l4 l5 l6 l7 : Option Value} {st : List Value} {h : List mCel} {x : Nat} {v : Nat} : mW ro mTab 240 1793 [(some (.ref v)), l1, l2, l3, l4, l5, l6, l7] st h x = mW ro mTab 240 1794 [(some (.ref v)), l1, l2, l3, l4, l5, l6, l7] (.ref v :: st) h x := (g_step rfl rfl rfl rfl).trans rfl
set_option maxRecDepth 100000 in
theorem e240_1794 {ro : Nat → Nat × (Nat → Int32)} {l0 l1 l2 l3 l4 l6 l7 : Option Value} {st : List Value} {h : List mCel} {x : Nat} {v : Int32} : mW ro mTab 240 1794 [l0, l1, l2, l3, l4, (some (.int v)), l6, l7] st h x = mW ro mTab 240 1796 [l0, l1, l2, l3, l4, (some (.int v)), l6, l7] (.int v :: st) h x := (g_step rfl rfl rfl rfl).trans rfl
set_option maxRecDepth 100000 in
theorem e240_1796 {ro : Nat → Nat × (Nat → Int32)} {l0 l1 l2 l3 l4 l5 l6 l7 : Option Value} {st : List Value} {h : List mCel} {x : Nat}  : mW ro mTab 240 1796 [l0, l1, l2, l3, l4, l5, l6, l7] st h x = mW ro mTab 240 1797 [l0, l1, l2, l3, l4, l5, l6, l7] (.int 1 :: st) h x := (g_step rfl rfl rfl rfl).trans rfl
set_option maxRecDepth 100000 in
theorem e240_1797 {ro : Nat → Nat × (Nat → Int32)} {l0 l1 l2 l3 l4 l5 l6 l7 : Option Value} {st : List Value} {h : List mCel} {x : Nat} {a b : Int32} : mW ro mTab 240 1797 [l0, l1, l2, l3, l4, l5, l6, l7] (.int b :: .int a :: st) h x = mW ro mTab 240 1798 [l0, l1, l2, l3, l4, l5, l6, l7] (.int (a + b) :: st) h x := (g_step rfl rfl rfl rfl).trans rfl
set_option maxRecDepth 100000 in
theorem e240_1798 {ro : Nat → Nat × (Nat → Int32)} {l0 l1 l2 l3 l4 l5 l6 l7 : Option Value} {st : List Value} {h : List mCel} {x : Nat} {a : Nat} {j : Int32} : mW ro mTab 240 1798 [l0, l1, l2, l3, l4, l5, l6, l7] (.int j :: .ref a :: st) h x = kIA ro h a j fun v => mW ro mTab 240 1799 [l0, l1, l2, l3, l4, l5, l6, l7] (.int v :: st) h x := g_iaload rfl rfl
set_option maxRecDepth 100000 in
theorem e240_1799 {ro : Nat → Nat × (Nat → Int32)} {l1 l2 l3 l4 l5 l6 l7 : Option Value} {st : List Value} {h : List mCel} {x : Nat} {v : Nat} : mW ro mTab 240 1799 [(some (.ref v)), l1, l2, l3, l4, l5, l6, l7] st h x = mW ro mTab 240 1800 [(some (.ref v)), l1, l2, l3, l4, l5, l6, l7] (.ref v :: st) h x := (g_step rfl rfl rfl rfl).trans rfl
set_option maxRecDepth 100000 in
theorem e240_1800 {ro : Nat → Nat × (Nat → Int32)} {l0 l1 l2 l3 l4 l6 l7 : Option Value} {st : List Value} {h : List mCel} {x : Nat} {v : Int32} : mW ro mTab 240 1800 [l0, l1, l2, l3, l4, (some (.int v)), l6, l7] st h x = mW ro mTab 240 1802 [l0, l1, l2, l3, l4, (some (.int v)), l6, l7] (.int v :: st) h x := (g_step rfl rfl rfl rfl).trans rfl
set_option maxRecDepth 100000 in
theorem e240_1802 {ro : Nat → Nat × (Nat → Int32)} {l0 l1 l2 l3 l4 l5 l6 l7 : Option Value} {st : List Value} {h : List mCel} {x : Nat}  : mW ro mTab 240 1802 [l0, l1, l2, l3, l4, l5, l6, l7] st h x = mW ro mTab 240 1803 [l0, l1, l2, l3, l4, l5, l6, l7] (.int 2 :: st) h x := (g_step rfl rfl rfl rfl).trans rfl
set_option maxRecDepth 100000 in
theorem e240_1803 {ro : Nat → Nat × (Nat → Int32)} {l0 l1 l2 l3 l4 l5 l6 l7 : Option Value} {st : List Value} {h : List mCel} {x : Nat} {a b : Int32} : mW ro mTab 240 1803 [l0, l1, l2, l3, l4, l5, l6, l7] (.int b :: .int a :: st) h x = mW ro mTab 240 1804 [l0, l1, l2, l3, l4, l5, l6, l7] (.int (a + b) :: st) h x := (g_step rfl rfl rfl rfl).trans rfl
set_option maxRecDepth 100000 in
theorem e240_1804 {ro : Nat → Nat × (Nat → Int32)} {l0 l1 l2 l3 l4 l5 l6 l7 : Option Value} {st : List Value} {h : List mCel} {x : Nat} {a : Nat} {j : Int32} : mW ro mTab 240 1804 [l0, l1, l2, l3, l4, l5, l6, l7] (.int j :: .ref a :: st) h x = kIA ro h a j fun v => mW ro mTab 240 1805 [l0, l1, l2, l3, l4, l5, l6, l7] (.int v :: st) h x := g_iaload rfl rfl
set_option maxRecDepth 100000 in
theorem e240_1805 {ro : Nat → Nat × (Nat → Int32)} {l1 l2 l3 l4 l5 l6 l7 : Option Value} {st : List Value} {h : List mCel} {x : Nat} {v : Nat} : mW ro mTab 240 1805 [(some (.ref v)), l1, l2, l3, l4, l5, l6, l7] st h x = mW ro mTab 240 1806 [(some (.ref v)), l1, l2, l3, l4, l5, l6, l7] (.ref v :: st) h x := (g_step rfl rfl rfl rfl).trans rfl
set_option maxRecDepth 100000 in
theorem e240_1806 {ro : Nat → Nat × (Nat → Int32)} {l0 l1 l2 l3 l4 l6 l7 : Option Value} {st : List Value} {h : List mCel} {x : Nat} {v : Int32} : mW ro mTab 240 1806 [l0, l1, l2, l3, l4, (some (.int v)), l6, l7] st h x = mW ro mTab 240 1808 [l0, l1, l2, l3, l4, (some (.int v)), l6, l7] (.int v :: st) h x := (g_step rfl rfl rfl rfl).trans rfl
set_option maxRecDepth 100000 in
theorem e240_1808 {ro : Nat → Nat × (Nat → Int32)} {l0 l1 l2 l3 l4 l5 l6 l7 : Option Value} {st : List Value} {h : List mCel} {x : Nat}  : mW ro mTab 240 1808 [l0, l1, l2, l3, l4, l5, l6, l7] st h x = mW ro mTab 240 1809 [l0, l1, l2, l3, l4, l5, l6, l7] (.int 3 :: st) h x := (g_step rfl rfl rfl rfl).trans rfl
set_option maxRecDepth 100000 in
theorem e240_1809 {ro : Nat → Nat × (Nat → Int32)} {l0 l1 l2 l3 l4 l5 l6 l7 : Option Value} {st : List Value} {h : List mCel} {x : Nat} {a b : Int32} : mW ro mTab 240 1809 [l0, l1, l2, l3, l4, l5, l6, l7] (.int b :: .int a :: st) h x = mW ro mTab 240 1810 [l0, l1, l2, l3, l4, l5, l6, l7] (.int (a + b) :: st) h x := (g_step rfl rfl rfl rfl).trans rfl
set_option maxRecDepth 100000 in
theorem e240_1810 {ro : Nat → Nat × (Nat → Int32)} {l0 l1 l2 l3 l4 l5 l6 l7 : Option Value} {st : List Value} {h : List mCel} {x : Nat} {a : Nat} {j : Int32} : mW ro mTab 240 1810 [l0, l1, l2, l3, l4, l5, l6, l7] (.int j :: .ref a :: st) h x = kIA ro h a j fun v => mW ro mTab 240 1811 [l0, l1, l2, l3, l4, l5, l6, l7] (.int v :: st) h x := g_iaload rfl rfl
set_option maxRecDepth 100000 in
theorem e240_1811 {ro : Nat → Nat × (Nat → Int32)} {l1 l2 l3 l4 l5 l6 l7 : Option Value} {st : List Value} {h : List mCel} {x : Nat} {v : Nat} : mW ro mTab 240 1811 [(some (.ref v)), l1, l2, l3, l4, l5, l6, l7] st h x = mW ro mTab 240 1812 [(some (.ref v)), l1, l2, l3, l4, l5, l6, l7] (.ref v :: st) h x := (g_step rfl rfl rfl rfl).trans rfl
set_option maxRecDepth 100000 in
theorem e240_1812 {ro : Nat → Nat × (Nat → Int32)} {l0 l1 l2 l3 l4 l6 l7 : Option Value} {st : List Value} {h : List mCel} {x : Nat} {v : Int32} : mW ro mTab 240 1812 [l0, l1, l2, l3, l4, (some (.int v)), l6, l7] st h x = mW ro mTab 240 1814 [l0, l1, l2, l3, l4, (some (.int v)), l6, l7] (.int v :: st) h x := (g_step rfl rfl rfl rfl).trans rfl
set_option maxRecDepth 100000 in
theorem e240_1814 {ro : Nat → Nat × (Nat → Int32)} {l0 l1 l2 l3 l4 l5 l6 l7 : Option Value} {st : List Value} {h : List mCel} {x : Nat}  : mW ro mTab 240 1814 [l0, l1, l2, l3, l4, l5, l6, l7] st h x = mW ro mTab 240 1815 [l0, l1, l2, l3, l4, l5, l6, l7] (.int 4 :: st) h x := (g_step rfl rfl rfl rfl).trans rfl
set_option maxRecDepth 100000 in
theorem e240_1815 {ro : Nat → Nat × (Nat → Int32)} {l0 l1 l2 l3 l4 l5 l6 l7 : Option Value} {st : List Value} {h : List mCel} {x : Nat} {a b : Int32} : mW ro mTab 240 1815 [l0, l1, l2, l3, l4, l5, l6, l7] (.int b :: .int a :: st) h x = mW ro mTab 240 1816 [l0, l1, l2, l3, l4, l5, l6, l7] (.int (a + b) :: st) h x := (g_step rfl rfl rfl rfl).trans rfl
set_option maxRecDepth 100000 in
theorem e240_1816 {ro : Nat → Nat × (Nat → Int32)} {l0 l1 l2 l3 l4 l5 l6 l7 : Option Value} {st : List Value} {h : List mCel} {x : Nat} {a : Nat} {j : Int32} : mW ro mTab 240 1816 [l0, l1, l2, l3, l4, l5, l6, l7] (.int j :: .ref a :: st) h x = kIA ro h a j fun v => mW ro mTab 240 1817 [l0, l1, l2, l3, l4, l5, l6, l7] (.int v :: st) h x := g_iaload rfl rfl
set_option maxRecDepth 100000 in
theorem e240_1817 {ro : Nat → Nat × (Nat → Int32)} {l0 l1 l2 l3 l4 l5 l6 l7 : Option Value} {st : List Value} {h : List mCel} {x : Nat} {a0 : Nat} {a1 : Int32} {a2 : Int32} {a3 : Int32} {a4 : Int32} (hr : kR (mCell h a0) 11 = true) (hs : (st.map Value.category).sum ≤ 8) : mW ro mTab 240 1817 [l0, l1, l2, l3, l4, l5, l6, l7] (.int a4 :: .int a3 :: .int a2 :: .int a1 :: .ref a0 :: st) h x = mAft (mW ro mTab) (mHd mM_240) 240 1817 [l0, l1, l2, l3, l4, l5, l6, l7] st (mW ro mTab 132 0 [some (.ref a0), some (.int a1), some (.int a2), some (.int a3), some (.int a4)] [] h x) := g_call rfl rfl rfl rfl rfl rfl (g_rcv rfl hr) hs
set_option maxRecDepth 100000 in
theorem e240_1820 {ro : Nat → Nat × (Nat → Int32)} {l0 l1 l3 l4 l5 l6 l7 : Option Value} {st : List Value} {h : List mCel} {x : Nat} {v : Nat} : mW ro mTab 240 1820 [l0, l1, (some (.ref v)), l3, l4, l5, l6, l7] st h x = mW ro mTab 240 1821 [l0, l1, (some (.ref v)), l3, l4, l5, l6, l7] (.ref v :: st) h x := (g_step rfl rfl rfl rfl).trans rfl
set_option maxRecDepth 100000 in
theorem e240_1821 {ro : Nat → Nat × (Nat → Int32)} {l0 l1 l2 l3 l4 l5 l6 l7 : Option Value} {st : List Value} {h : List mCel} {x : Nat} {a0 : Nat} (hr : kR (mCell h a0) 11 = true) (hs : (st.map Value.category).sum ≤ 8) : mW ro mTab 240 1821 [l0, l1, l2, l3, l4, l5, l6, l7] (.ref a0 :: st) h x = mAft (mW ro mTab) (mHd mM_240) 240 1821 [l0, l1, l2, l3, l4, l5, l6, l7] st (mW ro mTab 137 0 [some (.ref a0)] [] h x) := g_call rfl rfl rfl rfl rfl rfl (g_rcv rfl hr) hs
set_option maxRecDepth 100000 in
theorem e240_1824 {ro : Nat → Nat × (Nat → Int32)} {l0 l1 l2 l3 l4 l5 l7 : Option Value} {st : List Value} {h : List mCel} {x : Nat} {v : Int32} : mW ro mTab 240 1824 [l0, l1, l2, l3, l4, l5, (some (.int v)), l7] st h x = mW ro mTab 240 1826 [l0, l1, l2, l3, l4, l5, (some (.int v)), l7] (.int v :: st) h x := (g_step rfl rfl rfl rfl).trans rfl
set_option maxRecDepth 100000 in
theorem e240_1826 {ro : Nat → Nat × (Nat → Int32)} {l0 l1 l2 l3 l4 l5 l6 l7 : Option Value} {st : List Value} {h : List mCel} {x : Nat} {a b : Int32} : mW ro mTab 240 1826 [l0, l1, l2, l3, l4, l5, l6, l7] (.int b :: .int a :: st) h x = if a = b then mW ro mTab 240 1831 [l0, l1, l2, l3, l4, l5, l6, l7] st h x else mW ro mTab 240 1829 [l0, l1, l2, l3, l4, l5, l6, l7] st h x := g_icmp_eq rfl rfl rfl
set_option maxRecDepth 100000 in
theorem e240_1829 {ro : Nat → Nat × (Nat → Int32)} {l0 l1 l2 l3 l4 l5 l6 l7 : Option Value} {st : List Value} {h : List mCel} {x : Nat}  : mW ro mTab 240 1829 [l0, l1, l2, l3, l4, l5, l6, l7] st h x = mW ro mTab 240 1830 [l0, l1, l2, l3, l4, l5, l6, l7] (.int 0 :: st) h x := (g_step rfl rfl rfl rfl).trans rfl
set_option maxRecDepth 100000 in
theorem e240_1830 {ro : Nat → Nat × (Nat → Int32)} {l0 l1 l2 l3 l4 l5 l6 l7 : Option Value} {h : List mCel} {x : Nat} {v : Int32} (hv : v = 0 ∨ v = 1) : mW ro mTab 240 1830 [l0, l1, l2, l3, l4, l5, l6, l7] [.int v] h x = some (.inl (some (.int v)), h, x) := g_zret rfl rfl rfl hv
set_option maxRecDepth 100000 in
theorem e240_1831 {ro : Nat → Nat × (Nat → Int32)} {l0 l1 l2 l3 l4 l5 l6 l7 : Option Value} {st : List Value} {h : List mCel} {x : Nat}  : mW ro mTab 240 1831 [l0, l1, l2, l3, l4, l5, l6, l7] st h x = mW ro mTab 240 1980 [l0, l1, l2, l3, l4, l5, l6, l7] st h x := (g_step rfl rfl rfl rfl).trans rfl
set_option maxRecDepth 100000 in
theorem e240_1834 {ro : Nat → Nat × (Nat → Int32)} {l0 l2 l3 l4 l5 l6 l7 : Option Value} {st : List Value} {h : List mCel} {x : Nat} {v : Nat} : mW ro mTab 240 1834 [l0, (some (.ref v)), l2, l3, l4, l5, l6, l7] st h x = mW ro mTab 240 1835 [l0, (some (.ref v)), l2, l3, l4, l5, l6, l7] (.ref v :: st) h x := (g_step rfl rfl rfl rfl).trans rfl
set_option maxRecDepth 100000 in
theorem e240_1835 {ro : Nat → Nat × (Nat → Int32)} {l1 l2 l3 l4 l5 l6 l7 : Option Value} {st : List Value} {h : List mCel} {x : Nat} {v : Nat} : mW ro mTab 240 1835 [(some (.ref v)), l1, l2, l3, l4, l5, l6, l7] st h x = mW ro mTab 240 1836 [(some (.ref v)), l1, l2, l3, l4, l5, l6, l7] (.ref v :: st) h x := (g_step rfl rfl rfl rfl).trans rfl
set_option maxRecDepth 100000 in
theorem e240_1836 {ro : Nat → Nat × (Nat → Int32)} {l0 l1 l2 l3 l4 l6 l7 : Option Value} {st : List Value} {h : List mCel} {x : Nat} {v : Int32} : mW ro mTab 240 1836 [l0, l1, l2, l3, l4, (some (.int v)), l6, l7] st h x = mW ro mTab 240 1838 [l0, l1, l2, l3, l4, (some (.int v)), l6, l7] (.int v :: st) h x := (g_step rfl rfl rfl rfl).trans rfl
set_option maxRecDepth 100000 in
theorem e240_1838 {ro : Nat → Nat × (Nat → Int32)} {l0 l1 l2 l3 l4 l5 l6 l7 : Option Value} {st : List Value} {h : List mCel} {x : Nat}  : mW ro mTab 240 1838 [l0, l1, l2, l3, l4, l5, l6, l7] st h x = mW ro mTab 240 1839 [l0, l1, l2, l3, l4, l5, l6, l7] (.int 1 :: st) h x := (g_step rfl rfl rfl rfl).trans rfl
set_option maxRecDepth 100000 in
theorem e240_1839 {ro : Nat → Nat × (Nat → Int32)} {l0 l1 l2 l3 l4 l5 l6 l7 : Option Value} {st : List Value} {h : List mCel} {x : Nat} {a b : Int32} : mW ro mTab 240 1839 [l0, l1, l2, l3, l4, l5, l6, l7] (.int b :: .int a :: st) h x = mW ro mTab 240 1840 [l0, l1, l2, l3, l4, l5, l6, l7] (.int (a + b) :: st) h x := (g_step rfl rfl rfl rfl).trans rfl
set_option maxRecDepth 100000 in
theorem e240_1840 {ro : Nat → Nat × (Nat → Int32)} {l0 l1 l2 l3 l4 l5 l6 l7 : Option Value} {st : List Value} {h : List mCel} {x : Nat} {a : Nat} {j : Int32} : mW ro mTab 240 1840 [l0, l1, l2, l3, l4, l5, l6, l7] (.int j :: .ref a :: st) h x = kIA ro h a j fun v => mW ro mTab 240 1841 [l0, l1, l2, l3, l4, l5, l6, l7] (.int v :: st) h x := g_iaload rfl rfl
set_option maxRecDepth 100000 in
theorem e240_1841 {ro : Nat → Nat × (Nat → Int32)} {l1 l2 l3 l4 l5 l6 l7 : Option Value} {st : List Value} {h : List mCel} {x : Nat} {v : Nat} : mW ro mTab 240 1841 [(some (.ref v)), l1, l2, l3, l4, l5, l6, l7] st h x = mW ro mTab 240 1842 [(some (.ref v)), l1, l2, l3, l4, l5, l6, l7] (.ref v :: st) h x := (g_step rfl rfl rfl rfl).trans rfl
set_option maxRecDepth 100000 in
theorem e240_1842 {ro : Nat → Nat × (Nat → Int32)} {l0 l1 l2 l3 l4 l6 l7 : Option Value} {st : List Value} {h : List mCel} {x : Nat} {v : Int32} : mW ro mTab 240 1842 [l0, l1, l2, l3, l4, (some (.int v)), l6, l7] st h x = mW ro mTab 240 1844 [l0, l1, l2, l3, l4, (some (.int v)), l6, l7] (.int v :: st) h x := (g_step rfl rfl rfl rfl).trans rfl
set_option maxRecDepth 100000 in
theorem e240_1844 {ro : Nat → Nat × (Nat → Int32)} {l0 l1 l2 l3 l4 l5 l6 l7 : Option Value} {st : List Value} {h : List mCel} {x : Nat}  : mW ro mTab 240 1844 [l0, l1, l2, l3, l4, l5, l6, l7] st h x = mW ro mTab 240 1845 [l0, l1, l2, l3, l4, l5, l6, l7] (.int 2 :: st) h x := (g_step rfl rfl rfl rfl).trans rfl
set_option maxRecDepth 100000 in
theorem e240_1845 {ro : Nat → Nat × (Nat → Int32)} {l0 l1 l2 l3 l4 l5 l6 l7 : Option Value} {st : List Value} {h : List mCel} {x : Nat} {a b : Int32} : mW ro mTab 240 1845 [l0, l1, l2, l3, l4, l5, l6, l7] (.int b :: .int a :: st) h x = mW ro mTab 240 1846 [l0, l1, l2, l3, l4, l5, l6, l7] (.int (a + b) :: st) h x := (g_step rfl rfl rfl rfl).trans rfl
set_option maxRecDepth 100000 in
theorem e240_1846 {ro : Nat → Nat × (Nat → Int32)} {l0 l1 l2 l3 l4 l5 l6 l7 : Option Value} {st : List Value} {h : List mCel} {x : Nat} {a : Nat} {j : Int32} : mW ro mTab 240 1846 [l0, l1, l2, l3, l4, l5, l6, l7] (.int j :: .ref a :: st) h x = kIA ro h a j fun v => mW ro mTab 240 1847 [l0, l1, l2, l3, l4, l5, l6, l7] (.int v :: st) h x := g_iaload rfl rfl
set_option maxRecDepth 100000 in
theorem e240_1847 {ro : Nat → Nat × (Nat → Int32)} {l0 l1 l2 l3 l5 l6 l7 : Option Value} {st : List Value} {h : List mCel} {x : Nat} {v : Nat} : mW ro mTab 240 1847 [l0, l1, l2, l3, (some (.ref v)), l5, l6, l7] st h x = mW ro mTab 240 1849 [l0, l1, l2, l3, (some (.ref v)), l5, l6, l7] (.ref v :: st) h x := (g_step rfl rfl rfl rfl).trans rfl
set_option maxRecDepth 100000 in
theorem e240_1849 {ro : Nat → Nat × (Nat → Int32)} {l0 l1 l2 l3 l4 l5 l6 l7 : Option Value} {st : List Value} {h : List mCel} {x : Nat} {a0 : Nat} {a1 : Int32} {a2 : Int32} {a3 : Nat} (hs : (st.map Value.category).sum ≤ 8) : mW ro mTab 240 1849 [l0, l1, l2, l3, l4, l5, l6, l7] (.ref a3 :: .int a2 :: .int a1 :: .ref a0 :: st) h x = mAft (mW ro mTab) (mHd mM_240) 240 1849 [l0, l1, l2, l3, l4, l5, l6, l7] st (mW ro mTab 250 0 [some (.ref a0), some (.int a1), some (.int a2), some (.ref a3), none] [] h x) := g_call rfl rfl rfl rfl rfl rfl rfl hs
set_option maxRecDepth 100000 in
theorem e240_1852 {ro : Nat → Nat × (Nat → Int32)} {l0 l1 l2 l3 l4 l5 l6 l7 : Option Value} {st : List Value} {h : List mCel} {x : Nat} {v : Int32} : mW ro mTab 240 1852 [l0, l1, l2, l3, l4, l5, l6, l7] (.int v :: st) h x = mW ro mTab 240 1854 [l0, l1, l2, l3, l4, l5, (some (.int v)), l7] st h x := (g_step rfl rfl rfl rfl).trans rfl
set_option maxRecDepth 100000 in
theorem e240_1854 {ro : Nat → Nat × (Nat → Int32)} {l0 l1 l3 l4 l5 l6 l7 : Option Value} {st : List Value} {h : List mCel} {x : Nat} {v : Nat} : mW ro mTab 240 1854 [l0, l1, (some (.ref v)), l3, l4, l5, l6, l7] st h x = mW ro mTab 240 1855 [l0, l1, (some (.ref v)), l3, l4, l5, l6, l7] (.ref v :: st) h x := (g_step rfl rfl rfl rfl).trans rfl
set_option maxRecDepth 100000 in
theorem e240_1855 {ro : Nat → Nat × (Nat → Int32)} {l1 l2 l3 l4 l5 l6 l7 : Option Value} {st : List Value} {h : List mCel} {x : Nat} {v : Nat} : mW ro mTab 240 1855 [(some (.ref v)), l1, l2, l3, l4, l5, l6, l7] st h x = mW ro mTab 240 1856 [(some (.ref v)), l1, l2, l3, l4, l5, l6, l7] (.ref v :: st) h x := (g_step rfl rfl rfl rfl).trans rfl
set_option maxRecDepth 100000 in
theorem e240_1856 {ro : Nat → Nat × (Nat → Int32)} {l0 l1 l2 l3 l4 l6 l7 : Option Value} {st : List Value} {h : List mCel} {x : Nat} {v : Int32} : mW ro mTab 240 1856 [l0, l1, l2, l3, l4, (some (.int v)), l6, l7] st h x = mW ro mTab 240 1858 [l0, l1, l2, l3, l4, (some (.int v)), l6, l7] (.int v :: st) h x := (g_step rfl rfl rfl rfl).trans rfl
set_option maxRecDepth 100000 in
theorem e240_1858 {ro : Nat → Nat × (Nat → Int32)} {l0 l1 l2 l3 l4 l5 l6 l7 : Option Value} {st : List Value} {h : List mCel} {x : Nat}  : mW ro mTab 240 1858 [l0, l1, l2, l3, l4, l5, l6, l7] st h x = mW ro mTab 240 1859 [l0, l1, l2, l3, l4, l5, l6, l7] (.int 1 :: st) h x := (g_step rfl rfl rfl rfl).trans rfl
set_option maxRecDepth 100000 in
theorem e240_1859 {ro : Nat → Nat × (Nat → Int32)} {l0 l1 l2 l3 l4 l5 l6 l7 : Option Value} {st : List Value} {h : List mCel} {x : Nat} {a b : Int32} : mW ro mTab 240 1859 [l0, l1, l2, l3, l4, l5, l6, l7] (.int b :: .int a :: st) h x = mW ro mTab 240 1860 [l0, l1, l2, l3, l4, l5, l6, l7] (.int (a + b) :: st) h x := (g_step rfl rfl rfl rfl).trans rfl
set_option maxRecDepth 100000 in
theorem e240_1860 {ro : Nat → Nat × (Nat → Int32)} {l0 l1 l2 l3 l4 l5 l6 l7 : Option Value} {st : List Value} {h : List mCel} {x : Nat} {a : Nat} {j : Int32} : mW ro mTab 240 1860 [l0, l1, l2, l3, l4, l5, l6, l7] (.int j :: .ref a :: st) h x = kIA ro h a j fun v => mW ro mTab 240 1861 [l0, l1, l2, l3, l4, l5, l6, l7] (.int v :: st) h x := g_iaload rfl rfl
set_option maxRecDepth 100000 in
theorem e240_1861 {ro : Nat → Nat × (Nat → Int32)} {l1 l2 l3 l4 l5 l6 l7 : Option Value} {st : List Value} {h : List mCel} {x : Nat} {v : Nat} : mW ro mTab 240 1861 [(some (.ref v)), l1, l2, l3, l4, l5, l6, l7] st h x = mW ro mTab 240 1862 [(some (.ref v)), l1, l2, l3, l4, l5, l6, l7] (.ref v :: st) h x := (g_step rfl rfl rfl rfl).trans rfl
set_option maxRecDepth 100000 in
theorem e240_1862 {ro : Nat → Nat × (Nat → Int32)} {l0 l1 l2 l3 l4 l6 l7 : Option Value} {st : List Value} {h : List mCel} {x : Nat} {v : Int32} : mW ro mTab 240 1862 [l0, l1, l2, l3, l4, (some (.int v)), l6, l7] st h x = mW ro mTab 240 1864 [l0, l1, l2, l3, l4, (some (.int v)), l6, l7] (.int v :: st) h x := (g_step rfl rfl rfl rfl).trans rfl
set_option maxRecDepth 100000 in
theorem e240_1864 {ro : Nat → Nat × (Nat → Int32)} {l0 l1 l2 l3 l4 l5 l6 l7 : Option Value} {st : List Value} {h : List mCel} {x : Nat}  : mW ro mTab 240 1864 [l0, l1, l2, l3, l4, l5, l6, l7] st h x = mW ro mTab 240 1865 [l0, l1, l2, l3, l4, l5, l6, l7] (.int 2 :: st) h x := (g_step rfl rfl rfl rfl).trans rfl
set_option maxRecDepth 100000 in
theorem e240_1865 {ro : Nat → Nat × (Nat → Int32)} {l0 l1 l2 l3 l4 l5 l6 l7 : Option Value} {st : List Value} {h : List mCel} {x : Nat} {a b : Int32} : mW ro mTab 240 1865 [l0, l1, l2, l3, l4, l5, l6, l7] (.int b :: .int a :: st) h x = mW ro mTab 240 1866 [l0, l1, l2, l3, l4, l5, l6, l7] (.int (a + b) :: st) h x := (g_step rfl rfl rfl rfl).trans rfl
set_option maxRecDepth 100000 in
theorem e240_1866 {ro : Nat → Nat × (Nat → Int32)} {l0 l1 l2 l3 l4 l5 l6 l7 : Option Value} {st : List Value} {h : List mCel} {x : Nat} {a : Nat} {j : Int32} : mW ro mTab 240 1866 [l0, l1, l2, l3, l4, l5, l6, l7] (.int j :: .ref a :: st) h x = kIA ro h a j fun v => mW ro mTab 240 1867 [l0, l1, l2, l3, l4, l5, l6, l7] (.int v :: st) h x := g_iaload rfl rfl
set_option maxRecDepth 100000 in
theorem e240_1867 {ro : Nat → Nat × (Nat → Int32)} {l0 l1 l2 l3 l4 l5 l6 l7 : Option Value} {st : List Value} {h : List mCel} {x : Nat} {a0 : Nat} {a1 : Int32} {a2 : Int32} (hr : kR (mCell h a0) 11 = true) (hs : (st.map Value.category).sum ≤ 8) : mW ro mTab 240 1867 [l0, l1, l2, l3, l4, l5, l6, l7] (.int a2 :: .int a1 :: .ref a0 :: st) h x = mAft (mW ro mTab) (mHd mM_240) 240 1867 [l0, l1, l2, l3, l4, l5, l6, l7] st (mW ro mTab 131 0 [some (.ref a0), some (.int a1), some (.int a2)] [] h x) := g_call rfl rfl rfl rfl rfl rfl (g_rcv rfl hr) hs
set_option maxRecDepth 100000 in
theorem e240_1870 {ro : Nat → Nat × (Nat → Int32)} {l0 l1 l2 l3 l4 l5 l6 l7 : Option Value} {st : List Value} {h : List mCel} {x : Nat} {v : UInt32} : mW ro mTab 240 1870 [l0, l1, l2, l3, l4, l5, l6, l7] (.float v :: st) h x = mW ro mTab 240 1872 [l0, l1, l2, l3, l4, l5, l6, (some (.float v))] st h x := (g_step rfl rfl rfl rfl).trans rfl
set_option maxRecDepth 100000 in
theorem e240_1872 {ro : Nat → Nat × (Nat → Int32)} {l0 l1 l3 l4 l5 l6 l7 : Option Value} {st : List Value} {h : List mCel} {x : Nat} {v : Nat} : mW ro mTab 240 1872 [l0, l1, (some (.ref v)), l3, l4, l5, l6, l7] st h x = mW ro mTab 240 1873 [l0, l1, (some (.ref v)), l3, l4, l5, l6, l7] (.ref v :: st) h x := (g_step rfl rfl rfl rfl).trans rfl
set_option maxRecDepth 100000 in
theorem e240_1873 {ro : Nat → Nat × (Nat → Int32)} {l0 l1 l2 l3 l4 l5 l6 l7 : Option Value} {st : List Value} {h : List mCel} {x : Nat} {a0 : Nat} (hr : kR (mCell h a0) 11 = true) (hs : (st.map Value.category).sum ≤ 8) : mW ro mTab 240 1873 [l0, l1, l2, l3, l4, l5, l6, l7] (.ref a0 :: st) h x = mAft (mW ro mTab) (mHd mM_240) 240 1873 [l0, l1, l2, l3, l4, l5, l6, l7] st (mW ro mTab 137 0 [some (.ref a0)] [] h x) := g_call rfl rfl rfl rfl rfl rfl (g_rcv rfl hr) hs
set_option maxRecDepth 100000 in
theorem e240_1876 {ro : Nat → Nat × (Nat → Int32)} {l0 l1 l2 l3 l4 l5 l7 : Option Value} {st : List Value} {h : List mCel} {x : Nat} {v : Int32} : mW ro mTab 240 1876 [l0, l1, l2, l3, l4, l5, (some (.int v)), l7] st h x = mW ro mTab 240 1878 [l0, l1, l2, l3, l4, l5, (some (.int v)), l7] (.int v :: st) h x := (g_step rfl rfl rfl rfl).trans rfl
set_option maxRecDepth 100000 in
theorem e240_1878 {ro : Nat → Nat × (Nat → Int32)} {l0 l1 l2 l3 l4 l5 l6 l7 : Option Value} {st : List Value} {h : List mCel} {x : Nat} {a b : Int32} : mW ro mTab 240 1878 [l0, l1, l2, l3, l4, l5, l6, l7] (.int b :: .int a :: st) h x = if a = b then mW ro mTab 240 1883 [l0, l1, l2, l3, l4, l5, l6, l7] st h x else mW ro mTab 240 1881 [l0, l1, l2, l3, l4, l5, l6, l7] st h x := g_icmp_eq rfl rfl rfl
set_option maxRecDepth 100000 in
theorem e240_1881 {ro : Nat → Nat × (Nat → Int32)} {l0 l1 l2 l3 l4 l5 l6 l7 : Option Value} {st : List Value} {h : List mCel} {x : Nat}  : mW ro mTab 240 1881 [l0, l1, l2, l3, l4, l5, l6, l7] st h x = mW ro mTab 240 1882 [l0, l1, l2, l3, l4, l5, l6, l7] (.int 0 :: st) h x := (g_step rfl rfl rfl rfl).trans rfl
set_option maxRecDepth 100000 in
theorem e240_1882 {ro : Nat → Nat × (Nat → Int32)} {l0 l1 l2 l3 l4 l5 l6 l7 : Option Value} {h : List mCel} {x : Nat} {v : Int32} (hv : v = 0 ∨ v = 1) : mW ro mTab 240 1882 [l0, l1, l2, l3, l4, l5, l6, l7] [.int v] h x = some (.inl (some (.int v)), h, x) := g_zret rfl rfl rfl hv
set_option maxRecDepth 100000 in
theorem e240_1883 {ro : Nat → Nat × (Nat → Int32)} {l0 l1 l2 l3 l4 l5 l7 : Option Value} {st : List Value} {h : List mCel} {x : Nat} {v : Int32} : mW ro mTab 240 1883 [l0, l1, l2, l3, l4, l5, (some (.int v)), l7] st h x = mW ro mTab 240 1885 [l0, l1, l2, l3, l4, l5, (some (.int v)), l7] (.int v :: st) h x := (g_step rfl rfl rfl rfl).trans rfl
set_option maxRecDepth 100000 in
theorem e240_1885 {ro : Nat → Nat × (Nat → Int32)} {l0 l1 l2 l3 l4 l5 l6 l7 : Option Value} {st : List Value} {h : List mCel} {x : Nat} {a : Int32} : mW ro mTab 240 1885 [l0, l1, l2, l3, l4, l5, l6, l7] (.int a :: st) h x = if ¬ a = 0 then mW ro mTab 240 1921 [l0, l1, l2, l3, l4, l5, l6, l7] st h x else mW ro mTab 240 1888 [l0, l1, l2, l3, l4, l5, l6, l7] st h x := g_if_ne rfl rfl rfl
set_option maxRecDepth 100000 in
theorem e240_1888 {ro : Nat → Nat × (Nat → Int32)} {l0 l1 l2 l3 l5 l6 l7 : Option Value} {st : List Value} {h : List mCel} {x : Nat} {v : Nat} : mW ro mTab 240 1888 [l0, l1, l2, l3, (some (.ref v)), l5, l6, l7] st h x = mW ro mTab 240 1890 [l0, l1, l2, l3, (some (.ref v)), l5, l6, l7] (.ref v :: st) h x := (g_step rfl rfl rfl rfl).trans rfl
set_option maxRecDepth 100000 in
theorem e240_1890 {ro : Nat → Nat × (Nat → Int32)} {l0 l1 l2 l3 l4 l5 l6 l7 : Option Value} {st : List Value} {h : List mCel} {x : Nat}  : mW ro mTab 240 1890 [l0, l1, l2, l3, l4, l5, l6, l7] st h x = mW ro mTab 240 1891 [l0, l1, l2, l3, l4, l5, l6, l7] (.int 0 :: st) h x := (g_step rfl rfl rfl rfl).trans rfl
set_option maxRecDepth 100000 in
theorem e240_1892 {ro : Nat → Nat × (Nat → Int32)} {l0 l1 l2 l3 l4 l5 l6 : Option Value} {st : List Value} {h : List mCel} {x : Nat} {v : UInt32} : mW ro mTab 240 1892 [l0, l1, l2, l3, l4, l5, l6, (some (.float v))] st h x = mW ro mTab 240 1894 [l0, l1, l2, l3, l4, l5, l6, (some (.float v))] (.float v :: st) h x := (g_step rfl rfl rfl rfl).trans rfl
set_option maxRecDepth 100000 in
theorem e240_1896 {ro : Nat → Nat × (Nat → Int32)} {l0 l1 l2 l3 l4 l5 l6 l7 : Option Value} {st : List Value} {h : List mCel} {x : Nat} {a : Int32} : mW ro mTab 240 1896 [l0, l1, l2, l3, l4, l5, l6, l7] (.int a :: st) h x = if a = 0 then mW ro mTab 240 1921 [l0, l1, l2, l3, l4, l5, l6, l7] st h x else mW ro mTab 240 1899 [l0, l1, l2, l3, l4, l5, l6, l7] st h x := g_if_eq rfl rfl rfl
set_option maxRecDepth 100000 in
theorem e240_1899 {ro : Nat → Nat × (Nat → Int32)} {l0 l1 l2 l3 l5 l6 l7 : Option Value} {st : List Value} {h : List mCel} {x : Nat} {v : Nat} : mW ro mTab 240 1899 [l0, l1, l2, l3, (some (.ref v)), l5, l6, l7] st h x = mW ro mTab 240 1901 [l0, l1, l2, l3, (some (.ref v)), l5, l6, l7] (.ref v :: st) h x := (g_step rfl rfl rfl rfl).trans rfl
set_option maxRecDepth 100000 in
theorem e240_1901 {ro : Nat → Nat × (Nat → Int32)} {l0 l1 l2 l3 l4 l5 l6 l7 : Option Value} {st : List Value} {h : List mCel} {x : Nat}  : mW ro mTab 240 1901 [l0, l1, l2, l3, l4, l5, l6, l7] st h x = mW ro mTab 240 1902 [l0, l1, l2, l3, l4, l5, l6, l7] (.int 0 :: st) h x := (g_step rfl rfl rfl rfl).trans rfl
set_option maxRecDepth 100000 in
theorem e240_1903 {ro : Nat → Nat × (Nat → Int32)} {l0 l1 l2 l3 l5 l6 l7 : Option Value} {st : List Value} {h : List mCel} {x : Nat} {v : Nat} : mW ro mTab 240 1903 [l0, l1, l2, l3, (some (.ref v)), l5, l6, l7] st h x = mW ro mTab 240 1905 [l0, l1, l2, l3, (some (.ref v)), l5, l6, l7] (.ref v :: st) h x := (g_step rfl rfl rfl rfl).trans rfl
set_option maxRecDepth 100000 in
theorem e240_1905 {ro : Nat → Nat × (Nat → Int32)} {l0 l1 l2 l3 l4 l5 l6 l7 : Option Value} {st : List Value} {h : List mCel} {x : Nat}  : mW ro mTab 240 1905 [l0, l1, l2, l3, l4, l5, l6, l7] st h x = mW ro mTab 240 1906 [l0, l1, l2, l3, l4, l5, l6, l7] (.int 0 :: st) h x := (g_step rfl rfl rfl rfl).trans rfl
set_option maxRecDepth 100000 in
theorem e240_1908 {ro : Nat → Nat × (Nat → Int32)} {l0 l1 l2 l3 l4 l5 l6 l7 : Option Value} {st : List Value} {h : List mCel} {x : Nat} {a : Int32} : mW ro mTab 240 1908 [l0, l1, l2, l3, l4, l5, l6, l7] (.int a :: st) h x = if a = 0 then mW ro mTab 240 1919 [l0, l1, l2, l3, l4, l5, l6, l7] st h x else mW ro mTab 240 1911 [l0, l1, l2, l3, l4, l5, l6, l7] st h x := g_if_eq rfl rfl rfl
set_option maxRecDepth 100000 in
theorem e240_1911 {ro : Nat → Nat × (Nat → Int32)} {l0 l1 l2 l3 l4 l5 l6 : Option Value} {st : List Value} {h : List mCel} {x : Nat} {v : UInt32} : mW ro mTab 240 1911 [l0, l1, l2, l3, l4, l5, l6, (some (.float v))] st h x = mW ro mTab 240 1913 [l0, l1, l2, l3, l4, l5, l6, (some (.float v))] (.float v :: st) h x := (g_step rfl rfl rfl rfl).trans rfl
set_option maxRecDepth 100000 in
theorem e240_1913 {ro : Nat → Nat × (Nat → Int32)} {l0 l1 l2 l3 l4 l5 l6 : Option Value} {st : List Value} {h : List mCel} {x : Nat} {v : UInt32} : mW ro mTab 240 1913 [l0, l1, l2, l3, l4, l5, l6, (some (.float v))] st h x = mW ro mTab 240 1915 [l0, l1, l2, l3, l4, l5, l6, (some (.float v))] (.float v :: st) h x := (g_step rfl rfl rfl rfl).trans rfl
set_option maxRecDepth 100000 in
theorem e240_1916 {ro : Nat → Nat × (Nat → Int32)} {l0 l1 l2 l3 l4 l5 l6 l7 : Option Value} {st : List Value} {h : List mCel} {x : Nat} {a : Int32} : mW ro mTab 240 1916 [l0, l1, l2, l3, l4, l5, l6, l7] (.int a :: st) h x = if ¬ a = 0 then mW ro mTab 240 1921 [l0, l1, l2, l3, l4, l5, l6, l7] st h x else mW ro mTab 240 1919 [l0, l1, l2, l3, l4, l5, l6, l7] st h x := g_if_ne rfl rfl rfl
set_option maxRecDepth 100000 in
theorem e240_1919 {ro : Nat → Nat × (Nat → Int32)} {l0 l1 l2 l3 l4 l5 l6 l7 : Option Value} {st : List Value} {h : List mCel} {x : Nat}  : mW ro mTab 240 1919 [l0, l1, l2, l3, l4, l5, l6, l7] st h x = mW ro mTab 240 1920 [l0, l1, l2, l3, l4, l5, l6, l7] (.int 0 :: st) h x := (g_step rfl rfl rfl rfl).trans rfl
set_option maxRecDepth 100000 in
theorem e240_1920 {ro : Nat → Nat × (Nat → Int32)} {l0 l1 l2 l3 l4 l5 l6 l7 : Option Value} {h : List mCel} {x : Nat} {v : Int32} (hv : v = 0 ∨ v = 1) : mW ro mTab 240 1920 [l0, l1, l2, l3, l4, l5, l6, l7] [.int v] h x = some (.inl (some (.int v)), h, x) := g_zret rfl rfl rfl hv
set_option maxRecDepth 100000 in
theorem e240_1921 {ro : Nat → Nat × (Nat → Int32)} {l0 l1 l2 l3 l4 l5 l6 l7 : Option Value} {st : List Value} {h : List mCel} {x : Nat}  : mW ro mTab 240 1921 [l0, l1, l2, l3, l4, l5, l6, l7] st h x = mW ro mTab 240 1980 [l0, l1, l2, l3, l4, l5, l6, l7] st h x := (g_step rfl rfl rfl rfl).trans rfl
set_option maxRecDepth 100000 in
theorem e240_1924 {ro : Nat → Nat × (Nat → Int32)} {l0 l2 l3 l4 l5 l6 l7 : Option Value} {st : List Value} {h : List mCel} {x : Nat} {v : Nat} : mW ro mTab 240 1924 [l0, (some (.ref v)), l2, l3, l4, l5, l6, l7] st h x = mW ro mTab 240 1925 [l0, (some (.ref v)), l2, l3, l4, l5, l6, l7] (.ref v :: st) h x := (g_step rfl rfl rfl rfl).trans rfl
set_option maxRecDepth 100000 in
theorem e240_1925 {ro : Nat → Nat × (Nat → Int32)} {l1 l2 l3 l4 l5 l6 l7 : Option Value} {st : List Value} {h : List mCel} {x : Nat} {v : Nat} : mW ro mTab 240 1925 [(some (.ref v)), l1, l2, l3, l4, l5, l6, l7] st h x = mW ro mTab 240 1926 [(some (.ref v)), l1, l2, l3, l4, l5, l6, l7] (.ref v :: st) h x := (g_step rfl rfl rfl rfl).trans rfl
set_option maxRecDepth 100000 in
theorem e240_1926 {ro : Nat → Nat × (Nat → Int32)} {l0 l1 l2 l3 l4 l6 l7 : Option Value} {st : List Value} {h : List mCel} {x : Nat} {v : Int32} : mW ro mTab 240 1926 [l0, l1, l2, l3, l4, (some (.int v)), l6, l7] st h x = mW ro mTab 240 1928 [l0, l1, l2, l3, l4, (some (.int v)), l6, l7] (.int v :: st) h x := (g_step rfl rfl rfl rfl).trans rfl
set_option maxRecDepth 100000 in
theorem e240_1928 {ro : Nat → Nat × (Nat → Int32)} {l0 l1 l2 l3 l4 l5 l6 l7 : Option Value} {st : List Value} {h : List mCel} {x : Nat}  : mW ro mTab 240 1928 [l0, l1, l2, l3, l4, l5, l6, l7] st h x = mW ro mTab 240 1929 [l0, l1, l2, l3, l4, l5, l6, l7] (.int 1 :: st) h x := (g_step rfl rfl rfl rfl).trans rfl
set_option maxRecDepth 100000 in
theorem e240_1929 {ro : Nat → Nat × (Nat → Int32)} {l0 l1 l2 l3 l4 l5 l6 l7 : Option Value} {st : List Value} {h : List mCel} {x : Nat} {a b : Int32} : mW ro mTab 240 1929 [l0, l1, l2, l3, l4, l5, l6, l7] (.int b :: .int a :: st) h x = mW ro mTab 240 1930 [l0, l1, l2, l3, l4, l5, l6, l7] (.int (a + b) :: st) h x := (g_step rfl rfl rfl rfl).trans rfl
set_option maxRecDepth 100000 in
theorem e240_1930 {ro : Nat → Nat × (Nat → Int32)} {l0 l1 l2 l3 l4 l5 l6 l7 : Option Value} {st : List Value} {h : List mCel} {x : Nat} {a : Nat} {j : Int32} : mW ro mTab 240 1930 [l0, l1, l2, l3, l4, l5, l6, l7] (.int j :: .ref a :: st) h x = kIA ro h a j fun v => mW ro mTab 240 1931 [l0, l1, l2, l3, l4, l5, l6, l7] (.int v :: st) h x := g_iaload rfl rfl
set_option maxRecDepth 100000 in
theorem e240_1931 {ro : Nat → Nat × (Nat → Int32)} {l0 l1 l2 l4 l5 l6 l7 : Option Value} {st : List Value} {h : List mCel} {x : Nat} {v : Nat} : mW ro mTab 240 1931 [l0, l1, l2, (some (.ref v)), l4, l5, l6, l7] st h x = mW ro mTab 240 1932 [l0, l1, l2, (some (.ref v)), l4, l5, l6, l7] (.ref v :: st) h x := (g_step rfl rfl rfl rfl).trans rfl
set_option maxRecDepth 100000 in
theorem e240_1932 {ro : Nat → Nat × (Nat → Int32)} {l0 l1 l2 l3 l4 l5 l6 l7 : Option Value} {st : List Value} {h : List mCel} {x : Nat} {a0 : Nat} {a1 : Int32} {a2 : Nat} (hs : (st.map Value.category).sum ≤ 8) : mW ro mTab 240 1932 [l0, l1, l2, l3, l4, l5, l6, l7] (.ref a2 :: .int a1 :: .ref a0 :: st) h x = mAft (mW ro mTab) (mHd mM_240) 240 1932 [l0, l1, l2, l3, l4, l5, l6, l7] st (mW ro mTab 243 0 [some (.ref a0), some (.int a1), some (.ref a2), none] [] h x) := g_call rfl rfl rfl rfl rfl rfl rfl hs
set_option maxRecDepth 100000 in
theorem e240_1935 {ro : Nat → Nat × (Nat → Int32)} {l0 l1 l2 l3 l4 l5 l6 l7 : Option Value} {st : List Value} {h : List mCel} {x : Nat} {v : Int32} : mW ro mTab 240 1935 [l0, l1, l2, l3, l4, l5, l6, l7] (.int v :: st) h x = mW ro mTab 240 1937 [l0, l1, l2, l3, l4, l5, (some (.int v)), l7] st h x := (g_step rfl rfl rfl rfl).trans rfl
set_option maxRecDepth 100000 in
theorem e240_1937 {ro : Nat → Nat × (Nat → Int32)} {l0 l1 l3 l4 l5 l6 l7 : Option Value} {st : List Value} {h : List mCel} {x : Nat} {v : Nat} : mW ro mTab 240 1937 [l0, l1, (some (.ref v)), l3, l4, l5, l6, l7] st h x = mW ro mTab 240 1938 [l0, l1, (some (.ref v)), l3, l4, l5, l6, l7] (.ref v :: st) h x := (g_step rfl rfl rfl rfl).trans rfl
set_option maxRecDepth 100000 in
theorem e240_1938 {ro : Nat → Nat × (Nat → Int32)} {l1 l2 l3 l4 l5 l6 l7 : Option Value} {st : List Value} {h : List mCel} {x : Nat} {v : Nat} : mW ro mTab 240 1938 [(some (.ref v)), l1, l2, l3, l4, l5, l6, l7] st h x = mW ro mTab 240 1939 [(some (.ref v)), l1, l2, l3, l4, l5, l6, l7] (.ref v :: st) h x := (g_step rfl rfl rfl rfl).trans rfl
set_option maxRecDepth 100000 in
theorem e240_1939 {ro : Nat → Nat × (Nat → Int32)} {l0 l1 l2 l3 l4 l6 l7 : Option Value} {st : List Value} {h : List mCel} {x : Nat} {v : Int32} : mW ro mTab 240 1939 [l0, l1, l2, l3, l4, (some (.int v)), l6, l7] st h x = mW ro mTab 240 1941 [l0, l1, l2, l3, l4, (some (.int v)), l6, l7] (.int v :: st) h x := (g_step rfl rfl rfl rfl).trans rfl
set_option maxRecDepth 100000 in
theorem e240_1941 {ro : Nat → Nat × (Nat → Int32)} {l0 l1 l2 l3 l4 l5 l6 l7 : Option Value} {st : List Value} {h : List mCel} {x : Nat}  : mW ro mTab 240 1941 [l0, l1, l2, l3, l4, l5, l6, l7] st h x = mW ro mTab 240 1942 [l0, l1, l2, l3, l4, l5, l6, l7] (.int 1 :: st) h x := (g_step rfl rfl rfl rfl).trans rfl
set_option maxRecDepth 100000 in
theorem e240_1942 {ro : Nat → Nat × (Nat → Int32)} {l0 l1 l2 l3 l4 l5 l6 l7 : Option Value} {st : List Value} {h : List mCel} {x : Nat} {a b : Int32} : mW ro mTab 240 1942 [l0, l1, l2, l3, l4, l5, l6, l7] (.int b :: .int a :: st) h x = mW ro mTab 240 1943 [l0, l1, l2, l3, l4, l5, l6, l7] (.int (a + b) :: st) h x := (g_step rfl rfl rfl rfl).trans rfl
set_option maxRecDepth 100000 in
theorem e240_1943 {ro : Nat → Nat × (Nat → Int32)} {l0 l1 l2 l3 l4 l5 l6 l7 : Option Value} {st : List Value} {h : List mCel} {x : Nat} {a : Nat} {j : Int32} : mW ro mTab 240 1943 [l0, l1, l2, l3, l4, l5, l6, l7] (.int j :: .ref a :: st) h x = kIA ro h a j fun v => mW ro mTab 240 1944 [l0, l1, l2, l3, l4, l5, l6, l7] (.int v :: st) h x := g_iaload rfl rfl
set_option maxRecDepth 100000 in
theorem e240_1944 {ro : Nat → Nat × (Nat → Int32)} {l0 l1 l2 l3 l4 l5 l6 l7 : Option Value} {st : List Value} {h : List mCel} {x : Nat} {a0 : Nat} {a1 : Int32} (hr : kR (mCell h a0) 11 = true) (hs : (st.map Value.category).sum ≤ 8) : mW ro mTab 240 1944 [l0, l1, l2, l3, l4, l5, l6, l7] (.int a1 :: .ref a0 :: st) h x = mAft (mW ro mTab) (mHd mM_240) 240 1944 [l0, l1, l2, l3, l4, l5, l6, l7] st (mW ro mTab 120 0 [some (.ref a0), some (.int a1), none, none] [] h x) := g_call rfl rfl rfl rfl rfl rfl (g_rcv rfl hr) hs
set_option maxRecDepth 100000 in
theorem e240_1947 {ro : Nat → Nat × (Nat → Int32)} {l0 l1 l2 l3 l4 l5 l6 l7 : Option Value} {st : List Value} {h : List mCel} {x : Nat} {v : Int32} : mW ro mTab 240 1947 [l0, l1, l2, l3, l4, l5, l6, l7] (.int v :: st) h x = mW ro mTab 240 1949 [l0, l1, l2, l3, l4, l5, l6, (some (.int v))] st h x := (g_step rfl rfl rfl rfl).trans rfl
set_option maxRecDepth 100000 in
theorem e240_1949 {ro : Nat → Nat × (Nat → Int32)} {l0 l1 l3 l4 l5 l6 l7 : Option Value} {st : List Value} {h : List mCel} {x : Nat} {v : Nat} : mW ro mTab 240 1949 [l0, l1, (some (.ref v)), l3, l4, l5, l6, l7] st h x = mW ro mTab 240 1950 [l0, l1, (some (.ref v)), l3, l4, l5, l6, l7] (.ref v :: st) h x := (g_step rfl rfl rfl rfl).trans rfl
set_option maxRecDepth 100000 in
theorem e240_1950 {ro : Nat → Nat × (Nat → Int32)} {l0 l1 l2 l3 l4 l5 l6 l7 : Option Value} {st : List Value} {h : List mCel} {x : Nat} {a0 : Nat} (hr : kR (mCell h a0) 11 = true) (hs : (st.map Value.category).sum ≤ 8) : mW ro mTab 240 1950 [l0, l1, l2, l3, l4, l5, l6, l7] (.ref a0 :: st) h x = mAft (mW ro mTab) (mHd mM_240) 240 1950 [l0, l1, l2, l3, l4, l5, l6, l7] st (mW ro mTab 137 0 [some (.ref a0)] [] h x) := g_call rfl rfl rfl rfl rfl rfl (g_rcv rfl hr) hs
set_option maxRecDepth 100000 in
theorem e240_1953 {ro : Nat → Nat × (Nat → Int32)} {l0 l1 l2 l3 l4 l5 l7 : Option Value} {st : List Value} {h : List mCel} {x : Nat} {v : Int32} : mW ro mTab 240 1953 [l0, l1, l2, l3, l4, l5, (some (.int v)), l7] st h x = mW ro mTab 240 1955 [l0, l1, l2, l3, l4, l5, (some (.int v)), l7] (.int v :: st) h x := (g_step rfl rfl rfl rfl).trans rfl
set_option maxRecDepth 100000 in
theorem e240_1955 {ro : Nat → Nat × (Nat → Int32)} {l0 l1 l2 l3 l4 l5 l6 l7 : Option Value} {st : List Value} {h : List mCel} {x : Nat} {a b : Int32} : mW ro mTab 240 1955 [l0, l1, l2, l3, l4, l5, l6, l7] (.int b :: .int a :: st) h x = if a = b then mW ro mTab 240 1960 [l0, l1, l2, l3, l4, l5, l6, l7] st h x else mW ro mTab 240 1958 [l0, l1, l2, l3, l4, l5, l6, l7] st h x := g_icmp_eq rfl rfl rfl
set_option maxRecDepth 100000 in
theorem e240_1958 {ro : Nat → Nat × (Nat → Int32)} {l0 l1 l2 l3 l4 l5 l6 l7 : Option Value} {st : List Value} {h : List mCel} {x : Nat}  : mW ro mTab 240 1958 [l0, l1, l2, l3, l4, l5, l6, l7] st h x = mW ro mTab 240 1959 [l0, l1, l2, l3, l4, l5, l6, l7] (.int 0 :: st) h x := (g_step rfl rfl rfl rfl).trans rfl
set_option maxRecDepth 100000 in
theorem e240_1959 {ro : Nat → Nat × (Nat → Int32)} {l0 l1 l2 l3 l4 l5 l6 l7 : Option Value} {h : List mCel} {x : Nat} {v : Int32} (hv : v = 0 ∨ v = 1) : mW ro mTab 240 1959 [l0, l1, l2, l3, l4, l5, l6, l7] [.int v] h x = some (.inl (some (.int v)), h, x) := g_zret rfl rfl rfl hv
set_option maxRecDepth 100000 in
theorem e240_1960 {ro : Nat → Nat × (Nat → Int32)} {l0 l1 l2 l3 l4 l5 l7 : Option Value} {st : List Value} {h : List mCel} {x : Nat} {v : Int32} : mW ro mTab 240 1960 [l0, l1, l2, l3, l4, l5, (some (.int v)), l7] st h x = mW ro mTab 240 1962 [l0, l1, l2, l3, l4, l5, (some (.int v)), l7] (.int v :: st) h x := (g_step rfl rfl rfl rfl).trans rfl
set_option maxRecDepth 100000 in
theorem e240_1962 {ro : Nat → Nat × (Nat → Int32)} {l0 l1 l2 l3 l4 l5 l6 l7 : Option Value} {st : List Value} {h : List mCel} {x : Nat} {a : Int32} : mW ro mTab 240 1962 [l0, l1, l2, l3, l4, l5, l6, l7] (.int a :: st) h x = if ¬ a = 0 then mW ro mTab 240 1977 [l0, l1, l2, l3, l4, l5, l6, l7] st h x else mW ro mTab 240 1965 [l0, l1, l2, l3, l4, l5, l6, l7] st h x := g_if_ne rfl rfl rfl
set_option maxRecDepth 100000 in
theorem e240_1965 {ro : Nat → Nat × (Nat → Int32)} {l0 l1 l2 l4 l5 l6 l7 : Option Value} {st : List Value} {h : List mCel} {x : Nat} {v : Nat} : mW ro mTab 240 1965 [l0, l1, l2, (some (.ref v)), l4, l5, l6, l7] st h x = mW ro mTab 240 1966 [l0, l1, l2, (some (.ref v)), l4, l5, l6, l7] (.ref v :: st) h x := (g_step rfl rfl rfl rfl).trans rfl
set_option maxRecDepth 100000 in
theorem e240_1966 {ro : Nat → Nat × (Nat → Int32)} {l0 l1 l2 l3 l4 l5 l6 l7 : Option Value} {st : List Value} {h : List mCel} {x : Nat}  : mW ro mTab 240 1966 [l0, l1, l2, l3, l4, l5, l6, l7] st h x = mW ro mTab 240 1967 [l0, l1, l2, l3, l4, l5, l6, l7] (.int 0 :: st) h x := (g_step rfl rfl rfl rfl).trans rfl
set_option maxRecDepth 100000 in
theorem e240_1967 {ro : Nat → Nat × (Nat → Int32)} {l0 l1 l2 l3 l4 l5 l6 l7 : Option Value} {st : List Value} {h : List mCel} {x : Nat} {a : Nat} {j : Int32} : mW ro mTab 240 1967 [l0, l1, l2, l3, l4, l5, l6, l7] (.int j :: .ref a :: st) h x = kLA h a j fun v => mW ro mTab 240 1968 [l0, l1, l2, l3, l4, l5, l6, l7] (.long v :: st) h x := g_laload rfl rfl
set_option maxRecDepth 100000 in
theorem e240_1968 {ro : Nat → Nat × (Nat → Int32)} {l0 l1 l2 l3 l4 l5 l6 : Option Value} {st : List Value} {h : List mCel} {x : Nat} {v : Int32} : mW ro mTab 240 1968 [l0, l1, l2, l3, l4, l5, l6, (some (.int v))] st h x = mW ro mTab 240 1970 [l0, l1, l2, l3, l4, l5, l6, (some (.int v))] (.int v :: st) h x := (g_step rfl rfl rfl rfl).trans rfl
set_option maxRecDepth 100000 in
theorem e240_1970 {ro : Nat → Nat × (Nat → Int32)} {l0 l1 l2 l3 l4 l5 l6 l7 : Option Value} {st : List Value} {h : List mCel} {x : Nat} {a : Int32} : mW ro mTab 240 1970 [l0, l1, l2, l3, l4, l5, l6, l7] (.int a :: st) h x = mW ro mTab 240 1971 [l0, l1, l2, l3, l4, l5, l6, l7] (.long a.toInt64 :: st) h x := (g_step rfl rfl rfl rfl).trans rfl
set_option maxRecDepth 100000 in
theorem e240_1971 {ro : Nat → Nat × (Nat → Int32)} {l0 l1 l2 l3 l4 l5 l6 l7 : Option Value} {st : List Value} {h : List mCel} {x : Nat} {a b : Int64} : mW ro mTab 240 1971 [l0, l1, l2, l3, l4, l5, l6, l7] (.long b :: .long a :: st) h x = mW ro mTab 240 1972 [l0, l1, l2, l3, l4, l5, l6, l7] (.int (lg_cmp a b) :: st) h x := (g_step rfl rfl rfl rfl).trans rfl
set_option maxRecDepth 100000 in
theorem e240_1972 {ro : Nat → Nat × (Nat → Int32)} {l0 l1 l2 l3 l4 l5 l6 l7 : Option Value} {st : List Value} {h : List mCel} {x : Nat} {a : Int32} : mW ro mTab 240 1972 [l0, l1, l2, l3, l4, l5, l6, l7] (.int a :: st) h x = if a = 0 then mW ro mTab 240 1977 [l0, l1, l2, l3, l4, l5, l6, l7] st h x else mW ro mTab 240 1975 [l0, l1, l2, l3, l4, l5, l6, l7] st h x := g_if_eq rfl rfl rfl
set_option maxRecDepth 100000 in
theorem e240_1975 {ro : Nat → Nat × (Nat → Int32)} {l0 l1 l2 l3 l4 l5 l6 l7 : Option Value} {st : List Value} {h : List mCel} {x : Nat}  : mW ro mTab 240 1975 [l0, l1, l2, l3, l4, l5, l6, l7] st h x = mW ro mTab 240 1976 [l0, l1, l2, l3, l4, l5, l6, l7] (.int 0 :: st) h x := (g_step rfl rfl rfl rfl).trans rfl
set_option maxRecDepth 100000 in
theorem e240_1976 {ro : Nat → Nat × (Nat → Int32)} {l0 l1 l2 l3 l4 l5 l6 l7 : Option Value} {h : List mCel} {x : Nat} {v : Int32} (hv : v = 0 ∨ v = 1) : mW ro mTab 240 1976 [l0, l1, l2, l3, l4, l5, l6, l7] [.int v] h x = some (.inl (some (.int v)), h, x) := g_zret rfl rfl rfl hv
set_option maxRecDepth 100000 in
theorem e240_1977 {ro : Nat → Nat × (Nat → Int32)} {l0 l1 l2 l3 l4 l5 l6 l7 : Option Value} {st : List Value} {h : List mCel} {x : Nat}  : mW ro mTab 240 1977 [l0, l1, l2, l3, l4, l5, l6, l7] st h x = mW ro mTab 240 1980 [l0, l1, l2, l3, l4, l5, l6, l7] st h x := (g_step rfl rfl rfl rfl).trans rfl
set_option maxRecDepth 100000 in
theorem e240_1980 {ro : Nat → Nat × (Nat → Int32)} {l0 l1 l2 l3 l4 l6 l7 : Option Value} {st : List Value} {h : List mCel} {x : Nat} {v : Int32} : mW ro mTab 240 1980 [l0, l1, l2, l3, l4, (some (.int v)), l6, l7] st h x = mW ro mTab 240 1983 [l0, l1, l2, l3, l4, (some (.int (v + 8))), l6, l7] st h x := (g_step rfl rfl rfl rfl).trans rfl
set_option maxRecDepth 100000 in
theorem e240_1983 {ro : Nat → Nat × (Nat → Int32)} {l0 l1 l2 l3 l4 l5 l6 l7 : Option Value} {st : List Value} {h : List mCel} {x : Nat}  : mW ro mTab 240 1983 [l0, l1, l2, l3, l4, l5, l6, l7] st h x = mW ro mTab 240 28 [l0, l1, l2, l3, l4, l5, l6, l7] st h x := (g_step rfl rfl rfl rfl).trans rfl
set_option maxRecDepth 100000 in
theorem e240_1986 {ro : Nat → Nat × (Nat → Int32)} {l0 l1 l2 l3 l4 l5 l6 l7 : Option Value} {st : List Value} {h : List mCel} {x : Nat}  : mW ro mTab 240 1986 [l0, l1, l2, l3, l4, l5, l6, l7] st h x = mW ro mTab 240 1987 [l0, l1, l2, l3, l4, l5, l6, l7] (.int 1 :: st) h x := (g_step rfl rfl rfl rfl).trans rfl
set_option maxRecDepth 100000 in
theorem e240_1987 {ro : Nat → Nat × (Nat → Int32)} {l0 l1 l2 l3 l4 l5 l6 l7 : Option Value} {h : List mCel} {x : Nat} {v : Int32} (hv : v = 0 ∨ v = 1) : mW ro mTab 240 1987 [l0, l1, l2, l3, l4, l5, l6, l7] [.int v] h x = some (.inl (some (.int v)), h, x) := g_zret rfl rfl rfl hv
