theorem all_cut {α : Type} {P : α → Bool} {l : List α} (n : Nat) (cs : List Nat) (hcs : ∀ i, i < l.length → ∃ c ∈ cs, c ≤ i ∧ i < c + n) (h : ∀ c ∈ cs, ((l.drop c).take n).all P = true) : l.all P = true := by
  refine List.all_eq_true.mpr fun a ha => ?_
  obtain ⟨i, hi⟩ := List.getElem?_of_mem ha
  have hl := (List.getElem?_eq_some_iff.mp hi).1
  obtain ⟨c, hc, h1, h2⟩ := hcs i hl
  refine List.all_eq_true.mp (h c hc) a (List.mem_of_getElem? (i := i - c) ?_)
  rw [List.getElem?_take_of_lt (by omega), List.getElem?_drop, show c + (i - c) = i by omega]
  exact hi
theorem oka_0 : (mCd mM_0).all (chkA mM_0) = true := by decide +kernel
theorem okh_0 : (mHd mM_0).all (chkH mM_0) = true := by decide +kernel
theorem okm_0 : chkM mM_0 = true := by decide +kernel
set_option maxRecDepth 100000 in
theorem okw_0 : mCw mM_0 ∈ gF := List.mem_of_getElem? (i := 808) rfl
theorem oka_1 : (mCd mM_1).all (chkA mM_1) = true := by decide +kernel
theorem okh_1 : (mHd mM_1).all (chkH mM_1) = true := by decide +kernel
theorem okm_1 : chkM mM_1 = true := by decide +kernel
set_option maxRecDepth 100000 in
theorem okw_1 : mCw mM_1 ∈ gF := List.mem_of_getElem? (i := 626) rfl
theorem oka_2_0 : ((mc_2.drop 0).take 40).all (chkA mM_2) = true := by decide +kernel
theorem oka_2_40 : ((mc_2.drop 40).take 40).all (chkA mM_2) = true := by decide +kernel
theorem oka_2 : (mCd mM_2).all (chkA mM_2) = true := all_cut 40 [0, 40] (by decide +kernel) (by
  intro c hc
  simp only [List.mem_cons, List.not_mem_nil, or_false] at hc
  rcases hc with rfl | rfl
  · exact oka_2_0
  · exact oka_2_40)
theorem okh_2 : (mHd mM_2).all (chkH mM_2) = true := by decide +kernel
theorem okm_2 : chkM mM_2 = true := by decide +kernel
set_option maxRecDepth 100000 in
theorem okw_2 : mCw mM_2 ∈ gF := List.mem_of_getElem? (i := 60) rfl
theorem oka_3 : (mCd mM_3).all (chkA mM_3) = true := by decide +kernel
theorem okh_3 : (mHd mM_3).all (chkH mM_3) = true := by decide +kernel
theorem okm_3 : chkM mM_3 = true := by decide +kernel
set_option maxRecDepth 100000 in
theorem okw_3 : mCw mM_3 ∈ gF := List.mem_of_getElem? (i := 52) rfl
theorem oka_4 : (mCd mM_4).all (chkA mM_4) = true := by decide +kernel
theorem okh_4 : (mHd mM_4).all (chkH mM_4) = true := by decide +kernel
theorem okm_4 : chkM mM_4 = true := by decide +kernel
set_option maxRecDepth 100000 in
theorem okw_4 : mCw mM_4 ∈ gF := List.mem_of_getElem? (i := 63) rfl
theorem oka_5 : (mCd mM_5).all (chkA mM_5) = true := by decide +kernel
theorem okh_5 : (mHd mM_5).all (chkH mM_5) = true := by decide +kernel
theorem okm_5 : chkM mM_5 = true := by decide +kernel
set_option maxRecDepth 100000 in
theorem okw_5 : mCw mM_5 ∈ gF := List.mem_of_getElem? (i := 532) rfl
theorem oka_6 : (mCd mM_6).all (chkA mM_6) = true := by decide +kernel
theorem okh_6 : (mHd mM_6).all (chkH mM_6) = true := by decide +kernel
theorem okm_6 : chkM mM_6 = true := by decide +kernel
set_option maxRecDepth 100000 in
theorem okw_6 : mCw mM_6 ∈ gF := List.mem_of_getElem? (i := 537) rfl
theorem oka_7 : (mCd mM_7).all (chkA mM_7) = true := by decide +kernel
theorem okh_7 : (mHd mM_7).all (chkH mM_7) = true := by decide +kernel
theorem okm_7 : chkM mM_7 = true := by decide +kernel
set_option maxRecDepth 100000 in
theorem okw_7 : mCw mM_7 ∈ gF := List.mem_of_getElem? (i := 352) rfl
theorem oka_8 : (mCd mM_8).all (chkA mM_8) = true := by decide +kernel
theorem okh_8 : (mHd mM_8).all (chkH mM_8) = true := by decide +kernel
theorem okm_8 : chkM mM_8 = true := by decide +kernel
set_option maxRecDepth 100000 in
theorem okw_8 : mCw mM_8 ∈ gF := List.mem_of_getElem? (i := 910) rfl
theorem oka_9 : (mCd mM_9).all (chkA mM_9) = true := by decide +kernel
theorem okh_9 : (mHd mM_9).all (chkH mM_9) = true := by decide +kernel
theorem okm_9 : chkM mM_9 = true := by decide +kernel
set_option maxRecDepth 100000 in
theorem okw_9 : mCw mM_9 ∈ gF := List.mem_of_getElem? (i := 120) rfl
theorem oka_10 : (mCd mM_10).all (chkA mM_10) = true := by decide +kernel
theorem okh_10 : (mHd mM_10).all (chkH mM_10) = true := by decide +kernel
theorem okm_10 : chkM mM_10 = true := by decide +kernel
set_option maxRecDepth 100000 in
theorem okw_10 : mCw mM_10 ∈ gF := List.mem_of_getElem? (i := 356) rfl
theorem oka_11_0 : ((mc_11.drop 0).take 40).all (chkA mM_11) = true := by decide +kernel
theorem oka_11_40 : ((mc_11.drop 40).take 40).all (chkA mM_11) = true := by decide +kernel
theorem oka_11 : (mCd mM_11).all (chkA mM_11) = true := all_cut 40 [0, 40] (by decide +kernel) (by
  intro c hc
  simp only [List.mem_cons, List.not_mem_nil, or_false] at hc
  rcases hc with rfl | rfl
  · exact oka_11_0
  · exact oka_11_40)
theorem okh_11 : (mHd mM_11).all (chkH mM_11) = true := by decide +kernel
theorem okm_11 : chkM mM_11 = true := by decide +kernel
set_option maxRecDepth 100000 in
theorem okw_11 : mCw mM_11 ∈ gF := List.mem_of_getElem? (i := 667) rfl
theorem oka_12 : (mCd mM_12).all (chkA mM_12) = true := by decide +kernel
theorem okh_12 : (mHd mM_12).all (chkH mM_12) = true := by decide +kernel
theorem okm_12 : chkM mM_12 = true := by decide +kernel
set_option maxRecDepth 100000 in
theorem okw_12 : mCw mM_12 ∈ gF := List.mem_of_getElem? (i := 75) rfl
theorem oka_13 : (mCd mM_13).all (chkA mM_13) = true := by decide +kernel
theorem okh_13 : (mHd mM_13).all (chkH mM_13) = true := by decide +kernel
theorem okm_13 : chkM mM_13 = true := by decide +kernel
set_option maxRecDepth 100000 in
theorem okw_13 : mCw mM_13 ∈ gF := List.mem_of_getElem? (i := 96) rfl
theorem oka_14 : (mCd mM_14).all (chkA mM_14) = true := by decide +kernel
theorem okh_14 : (mHd mM_14).all (chkH mM_14) = true := by decide +kernel
theorem okm_14 : chkM mM_14 = true := by decide +kernel
set_option maxRecDepth 100000 in
theorem okw_14 : mCw mM_14 ∈ gF := List.mem_of_getElem? (i := 128) rfl
theorem oka_15 : (mCd mM_15).all (chkA mM_15) = true := by decide +kernel
theorem okh_15 : (mHd mM_15).all (chkH mM_15) = true := by decide +kernel
theorem okm_15 : chkM mM_15 = true := by decide +kernel
set_option maxRecDepth 100000 in
theorem okw_15 : mCw mM_15 ∈ gF := List.mem_of_getElem? (i := 402) rfl
theorem oka_16 : (mCd mM_16).all (chkA mM_16) = true := by decide +kernel
theorem okh_16 : (mHd mM_16).all (chkH mM_16) = true := by decide +kernel
theorem okm_16 : chkM mM_16 = true := by decide +kernel
set_option maxRecDepth 100000 in
theorem okw_16 : mCw mM_16 ∈ gF := List.mem_of_getElem? (i := 484) rfl
theorem oka_17 : (mCd mM_17).all (chkA mM_17) = true := by decide +kernel
theorem okh_17 : (mHd mM_17).all (chkH mM_17) = true := by decide +kernel
theorem okm_17 : chkM mM_17 = true := by decide +kernel
set_option maxRecDepth 100000 in
theorem okw_17 : mCw mM_17 ∈ gF := List.mem_of_getElem? (i := 124) rfl
theorem oka_18_0 : ((mc_18.drop 0).take 40).all (chkA mM_18) = true := by decide +kernel
theorem oka_18_40 : ((mc_18.drop 40).take 40).all (chkA mM_18) = true := by decide +kernel
theorem oka_18 : (mCd mM_18).all (chkA mM_18) = true := all_cut 40 [0, 40] (by decide +kernel) (by
  intro c hc
  simp only [List.mem_cons, List.not_mem_nil, or_false] at hc
  rcases hc with rfl | rfl
  · exact oka_18_0
  · exact oka_18_40)
theorem okh_18 : (mHd mM_18).all (chkH mM_18) = true := by decide +kernel
theorem okm_18 : chkM mM_18 = true := by decide +kernel
set_option maxRecDepth 100000 in
theorem okw_18 : mCw mM_18 ∈ gF := List.mem_of_getElem? (i := 92) rfl
theorem oka_19 : (mCd mM_19).all (chkA mM_19) = true := by decide +kernel
theorem okh_19 : (mHd mM_19).all (chkH mM_19) = true := by decide +kernel
theorem okm_19 : chkM mM_19 = true := by decide +kernel
set_option maxRecDepth 100000 in
theorem okw_19 : mCw mM_19 ∈ gF := List.mem_of_getElem? (i := 103) rfl
theorem oka_20 : (mCd mM_20).all (chkA mM_20) = true := by decide +kernel
theorem okh_20 : (mHd mM_20).all (chkH mM_20) = true := by decide +kernel
theorem okm_20 : chkM mM_20 = true := by decide +kernel
set_option maxRecDepth 100000 in
theorem okw_20 : mCw mM_20 ∈ gF := List.mem_of_getElem? (i := 347) rfl
theorem oka_21 : (mCd mM_21).all (chkA mM_21) = true := by decide +kernel
theorem okh_21 : (mHd mM_21).all (chkH mM_21) = true := by decide +kernel
theorem okm_21 : chkM mM_21 = true := by decide +kernel
set_option maxRecDepth 100000 in
theorem okw_21 : mCw mM_21 ∈ gF := List.mem_of_getElem? (i := 406) rfl
theorem oka_22 : (mCd mM_22).all (chkA mM_22) = true := by decide +kernel
theorem okh_22 : (mHd mM_22).all (chkH mM_22) = true := by decide +kernel
theorem okm_22 : chkM mM_22 = true := by decide +kernel
set_option maxRecDepth 100000 in
theorem okw_22 : mCw mM_22 ∈ gF := List.mem_of_getElem? (i := 421) rfl
theorem oka_23 : (mCd mM_23).all (chkA mM_23) = true := by decide +kernel
theorem okh_23 : (mHd mM_23).all (chkH mM_23) = true := by decide +kernel
theorem okm_23 : chkM mM_23 = true := by decide +kernel
set_option maxRecDepth 100000 in
theorem okw_23 : mCw mM_23 ∈ gF := List.mem_of_getElem? (i := 88) rfl
theorem oka_24 : (mCd mM_24).all (chkA mM_24) = true := by decide +kernel
theorem okh_24 : (mHd mM_24).all (chkH mM_24) = true := by decide +kernel
theorem okm_24 : chkM mM_24 = true := by decide +kernel
set_option maxRecDepth 100000 in
theorem okw_24 : mCw mM_24 ∈ gF := List.mem_of_getElem? (i := 527) rfl
theorem oka_25 : (mCd mM_25).all (chkA mM_25) = true := by decide +kernel
theorem okh_25 : (mHd mM_25).all (chkH mM_25) = true := by decide +kernel
theorem okm_25 : chkM mM_25 = true := by decide +kernel
set_option maxRecDepth 100000 in
theorem okw_25 : mCw mM_25 ∈ gF := List.mem_of_getElem? (i := 563) rfl
theorem oka_26_0 : ((mc_26.drop 0).take 40).all (chkA mM_26) = true := by decide +kernel
theorem oka_26_40 : ((mc_26.drop 40).take 40).all (chkA mM_26) = true := by decide +kernel
theorem oka_26 : (mCd mM_26).all (chkA mM_26) = true := all_cut 40 [0, 40] (by decide +kernel) (by
  intro c hc
  simp only [List.mem_cons, List.not_mem_nil, or_false] at hc
  rcases hc with rfl | rfl
  · exact oka_26_0
  · exact oka_26_40)
theorem okh_26 : (mHd mM_26).all (chkH mM_26) = true := by decide +kernel
theorem okm_26 : chkM mM_26 = true := by decide +kernel
set_option maxRecDepth 100000 in
theorem okw_26 : mCw mM_26 ∈ gF := List.mem_of_getElem? (i := 502) rfl
theorem oka_27 : (mCd mM_27).all (chkA mM_27) = true := by decide +kernel
theorem okh_27 : (mHd mM_27).all (chkH mM_27) = true := by decide +kernel
theorem okm_27 : chkM mM_27 = true := by decide +kernel
set_option maxRecDepth 100000 in
theorem okw_27 : mCw mM_27 ∈ gF := List.mem_of_getElem? (i := 516) rfl
theorem oka_28 : (mCd mM_28).all (chkA mM_28) = true := by decide +kernel
theorem okh_28 : (mHd mM_28).all (chkH mM_28) = true := by decide +kernel
theorem okm_28 : chkM mM_28 = true := by decide +kernel
set_option maxRecDepth 100000 in
theorem okw_28 : mCw mM_28 ∈ gF := List.mem_of_getElem? (i := 172) rfl
theorem oka_29 : (mCd mM_29).all (chkA mM_29) = true := by decide +kernel
theorem okh_29 : (mHd mM_29).all (chkH mM_29) = true := by decide +kernel
theorem okm_29 : chkM mM_29 = true := by decide +kernel
set_option maxRecDepth 100000 in
theorem okw_29 : mCw mM_29 ∈ gF := List.mem_of_getElem? (i := 949) rfl
theorem oka_30 : (mCd mM_30).all (chkA mM_30) = true := by decide +kernel
theorem okh_30 : (mHd mM_30).all (chkH mM_30) = true := by decide +kernel
theorem okm_30 : chkM mM_30 = true := by decide +kernel
set_option maxRecDepth 100000 in
theorem okw_30 : mCw mM_30 ∈ gF := List.mem_of_getElem? (i := 953) rfl
theorem oka_31 : (mCd mM_31).all (chkA mM_31) = true := by decide +kernel
theorem okh_31 : (mHd mM_31).all (chkH mM_31) = true := by decide +kernel
theorem okm_31 : chkM mM_31 = true := by decide +kernel
set_option maxRecDepth 100000 in
theorem okw_31 : mCw mM_31 ∈ gF := List.mem_of_getElem? (i := 552) rfl
theorem oka_32 : (mCd mM_32).all (chkA mM_32) = true := by decide +kernel
theorem okh_32 : (mHd mM_32).all (chkH mM_32) = true := by decide +kernel
theorem okm_32 : chkM mM_32 = true := by decide +kernel
set_option maxRecDepth 100000 in
theorem okw_32 : mCw mM_32 ∈ gF := List.mem_of_getElem? (i := 956) rfl
theorem oka_33 : (mCd mM_33).all (chkA mM_33) = true := by decide +kernel
theorem okh_33 : (mHd mM_33).all (chkH mM_33) = true := by decide +kernel
theorem okm_33 : chkM mM_33 = true := by decide +kernel
set_option maxRecDepth 100000 in
theorem okw_33 : mCw mM_33 ∈ gF := List.mem_of_getElem? (i := 595) rfl
theorem oka_34 : (mCd mM_34).all (chkA mM_34) = true := by decide +kernel
theorem okh_34 : (mHd mM_34).all (chkH mM_34) = true := by decide +kernel
theorem okm_34 : chkM mM_34 = true := by decide +kernel
set_option maxRecDepth 100000 in
theorem okw_34 : mCw mM_34 ∈ gF := List.mem_of_getElem? (i := 523) rfl
theorem oka_35_0 : ((mc_35.drop 0).take 40).all (chkA mM_35) = true := by decide +kernel
theorem oka_35_40 : ((mc_35.drop 40).take 40).all (chkA mM_35) = true := by decide +kernel
theorem oka_35_80 : ((mc_35.drop 80).take 40).all (chkA mM_35) = true := by decide +kernel
theorem oka_35 : (mCd mM_35).all (chkA mM_35) = true := all_cut 40 [0, 40, 80] (by decide +kernel) (by
  intro c hc
  simp only [List.mem_cons, List.not_mem_nil, or_false] at hc
  rcases hc with rfl | rfl | rfl
  · exact oka_35_0
  · exact oka_35_40
  · exact oka_35_80)
theorem okh_35 : (mHd mM_35).all (chkH mM_35) = true := by decide +kernel
theorem okm_35 : chkM mM_35 = true := by decide +kernel
set_option maxRecDepth 100000 in
theorem okw_35 : mCw mM_35 ∈ gF := List.mem_of_getElem? (i := 559) rfl
theorem oka_36_0 : ((mc_36.drop 0).take 40).all (chkA mM_36) = true := by decide +kernel
theorem oka_36_40 : ((mc_36.drop 40).take 40).all (chkA mM_36) = true := by decide +kernel
theorem oka_36_80 : ((mc_36.drop 80).take 40).all (chkA mM_36) = true := by decide +kernel
theorem oka_36 : (mCd mM_36).all (chkA mM_36) = true := all_cut 40 [0, 40, 80] (by decide +kernel) (by
  intro c hc
  simp only [List.mem_cons, List.not_mem_nil, or_false] at hc
  rcases hc with rfl | rfl | rfl
  · exact oka_36_0
  · exact oka_36_40
  · exact oka_36_80)
theorem okh_36 : (mHd mM_36).all (chkH mM_36) = true := by decide +kernel
theorem okm_36 : chkM mM_36 = true := by decide +kernel
set_option maxRecDepth 100000 in
theorem okw_36 : mCw mM_36 ∈ gF := List.mem_of_getElem? (i := 506) rfl
theorem oka_37 : (mCd mM_37).all (chkA mM_37) = true := by decide +kernel
theorem okh_37 : (mHd mM_37).all (chkH mM_37) = true := by decide +kernel
theorem okm_37 : chkM mM_37 = true := by decide +kernel
set_option maxRecDepth 100000 in
theorem okw_37 : mCw mM_37 ∈ gF := List.mem_of_getElem? (i := 823) rfl
theorem oka_38 : (mCd mM_38).all (chkA mM_38) = true := by decide +kernel
theorem okh_38 : (mHd mM_38).all (chkH mM_38) = true := by decide +kernel
theorem okm_38 : chkM mM_38 = true := by decide +kernel
set_option maxRecDepth 100000 in
theorem okw_38 : mCw mM_38 ∈ gF := List.mem_of_getElem? (i := 855) rfl
theorem oka_39 : (mCd mM_39).all (chkA mM_39) = true := by decide +kernel
theorem okh_39 : (mHd mM_39).all (chkH mM_39) = true := by decide +kernel
theorem okm_39 : chkM mM_39 = true := by decide +kernel
set_option maxRecDepth 100000 in
theorem okw_39 : mCw mM_39 ∈ gF := List.mem_of_getElem? (i := 606) rfl
theorem oka_40 : (mCd mM_40).all (chkA mM_40) = true := by decide +kernel
theorem okh_40 : (mHd mM_40).all (chkH mM_40) = true := by decide +kernel
theorem okm_40 : chkM mM_40 = true := by decide +kernel
set_option maxRecDepth 100000 in
theorem okw_40 : mCw mM_40 ∈ gF := List.mem_of_getElem? (i := 733) rfl
theorem oka_41 : (mCd mM_41).all (chkA mM_41) = true := by decide +kernel
theorem okh_41 : (mHd mM_41).all (chkH mM_41) = true := by decide +kernel
theorem okm_41 : chkM mM_41 = true := by decide +kernel
set_option maxRecDepth 100000 in
theorem okw_41 : mCw mM_41 ∈ gF := List.mem_of_getElem? (i := 464) rfl
theorem oka_42 : (mCd mM_42).all (chkA mM_42) = true := by decide +kernel
theorem okh_42 : (mHd mM_42).all (chkH mM_42) = true := by decide +kernel
theorem okm_42 : chkM mM_42 = true := by decide +kernel
set_option maxRecDepth 100000 in
theorem okw_42 : mCw mM_42 ∈ gF := List.mem_of_getElem? (i := 305) rfl
theorem oka_43 : (mCd mM_43).all (chkA mM_43) = true := by decide +kernel
theorem okh_43 : (mHd mM_43).all (chkH mM_43) = true := by decide +kernel
theorem okm_43 : chkM mM_43 = true := by decide +kernel
set_option maxRecDepth 100000 in
theorem okw_43 : mCw mM_43 ∈ gF := List.mem_of_getElem? (i := 432) rfl
theorem oka_44 : (mCd mM_44).all (chkA mM_44) = true := by decide +kernel
theorem okh_44 : (mHd mM_44).all (chkH mM_44) = true := by decide +kernel
theorem okm_44 : chkM mM_44 = true := by decide +kernel
set_option maxRecDepth 100000 in
theorem okw_44 : mCw mM_44 ∈ gF := List.mem_of_getElem? (i := 872) rfl
theorem oka_45 : (mCd mM_45).all (chkA mM_45) = true := by decide +kernel
theorem okh_45 : (mHd mM_45).all (chkH mM_45) = true := by decide +kernel
theorem okm_45 : chkM mM_45 = true := by decide +kernel
set_option maxRecDepth 100000 in
theorem okw_45 : mCw mM_45 ∈ gF := List.mem_of_getElem? (i := 380) rfl
theorem oka_46 : (mCd mM_46).all (chkA mM_46) = true := by decide +kernel
theorem okh_46 : (mHd mM_46).all (chkH mM_46) = true := by decide +kernel
theorem okm_46 : chkM mM_46 = true := by decide +kernel
set_option maxRecDepth 100000 in
theorem okw_46 : mCw mM_46 ∈ gF := List.mem_of_getElem? (i := 591) rfl
theorem oka_47_0 : ((mc_47.drop 0).take 40).all (chkA mM_47) = true := by decide +kernel
theorem oka_47_40 : ((mc_47.drop 40).take 40).all (chkA mM_47) = true := by decide +kernel
theorem oka_47 : (mCd mM_47).all (chkA mM_47) = true := all_cut 40 [0, 40] (by decide +kernel) (by
  intro c hc
  simp only [List.mem_cons, List.not_mem_nil, or_false] at hc
  rcases hc with rfl | rfl
  · exact oka_47_0
  · exact oka_47_40)
theorem okh_47 : (mHd mM_47).all (chkH mM_47) = true := by decide +kernel
theorem okm_47 : chkM mM_47 = true := by decide +kernel
set_option maxRecDepth 100000 in
theorem okw_47 : mCw mM_47 ∈ gF := List.mem_of_getElem? (i := 10) rfl
theorem oka_48 : (mCd mM_48).all (chkA mM_48) = true := by decide +kernel
theorem okh_48 : (mHd mM_48).all (chkH mM_48) = true := by decide +kernel
theorem okm_48 : chkM mM_48 = true := by decide +kernel
set_option maxRecDepth 100000 in
theorem okw_48 : mCw mM_48 ∈ gF := List.mem_of_getElem? (i := 480) rfl
theorem oka_49 : (mCd mM_49).all (chkA mM_49) = true := by decide +kernel
theorem okh_49 : (mHd mM_49).all (chkH mM_49) = true := by decide +kernel
theorem okm_49 : chkM mM_49 = true := by decide +kernel
set_option maxRecDepth 100000 in
theorem okw_49 : mCw mM_49 ∈ gF := List.mem_of_getElem? (i := 312) rfl
theorem oka_50 : (mCd mM_50).all (chkA mM_50) = true := by decide +kernel
theorem okh_50 : (mHd mM_50).all (chkH mM_50) = true := by decide +kernel
theorem okm_50 : chkM mM_50 = true := by decide +kernel
set_option maxRecDepth 100000 in
theorem okw_50 : mCw mM_50 ∈ gF := List.mem_of_getElem? (i := 891) rfl
theorem oka_51 : (mCd mM_51).all (chkA mM_51) = true := by decide +kernel
theorem okh_51 : (mHd mM_51).all (chkH mM_51) = true := by decide +kernel
theorem okm_51 : chkM mM_51 = true := by decide +kernel
set_option maxRecDepth 100000 in
theorem okw_51 : mCw mM_51 ∈ gF := List.mem_of_getElem? (i := 447) rfl
theorem oka_52 : (mCd mM_52).all (chkA mM_52) = true := by decide +kernel
theorem okh_52 : (mHd mM_52).all (chkH mM_52) = true := by decide +kernel
theorem okm_52 : chkM mM_52 = true := by decide +kernel
set_option maxRecDepth 100000 in
theorem okw_52 : mCw mM_52 ∈ gF := List.mem_of_getElem? (i := 1055) rfl
theorem oka_53 : (mCd mM_53).all (chkA mM_53) = true := by decide +kernel
theorem okh_53 : (mHd mM_53).all (chkH mM_53) = true := by decide +kernel
theorem okm_53 : chkM mM_53 = true := by decide +kernel
set_option maxRecDepth 100000 in
theorem okw_53 : mCw mM_53 ∈ gF := List.mem_of_getElem? (i := 1195) rfl
theorem oka_54 : (mCd mM_54).all (chkA mM_54) = true := by decide +kernel
theorem okh_54 : (mHd mM_54).all (chkH mM_54) = true := by decide +kernel
theorem okm_54 : chkM mM_54 = true := by decide +kernel
set_option maxRecDepth 100000 in
theorem okw_54 : mCw mM_54 ∈ gF := List.mem_of_getElem? (i := 749) rfl
theorem oka_55 : (mCd mM_55).all (chkA mM_55) = true := by decide +kernel
theorem okh_55 : (mHd mM_55).all (chkH mM_55) = true := by decide +kernel
theorem okm_55 : chkM mM_55 = true := by decide +kernel
set_option maxRecDepth 100000 in
theorem okw_55 : mCw mM_55 ∈ gF := List.mem_of_getElem? (i := 1022) rfl
theorem oka_56 : (mCd mM_56).all (chkA mM_56) = true := by decide +kernel
theorem okh_56 : (mHd mM_56).all (chkH mM_56) = true := by decide +kernel
theorem okm_56 : chkM mM_56 = true := by decide +kernel
set_option maxRecDepth 100000 in
theorem okw_56 : mCw mM_56 ∈ gF := List.mem_of_getElem? (i := 343) rfl
theorem oka_57 : (mCd mM_57).all (chkA mM_57) = true := by decide +kernel
theorem okh_57 : (mHd mM_57).all (chkH mM_57) = true := by decide +kernel
theorem okm_57 : chkM mM_57 = true := by decide +kernel
set_option maxRecDepth 100000 in
theorem okw_57 : mCw mM_57 ∈ gF := List.mem_of_getElem? (i := 1071) rfl
theorem oka_58 : (mCd mM_58).all (chkA mM_58) = true := by decide +kernel
theorem okh_58 : (mHd mM_58).all (chkH mM_58) = true := by decide +kernel
theorem okm_58 : chkM mM_58 = true := by decide +kernel
set_option maxRecDepth 100000 in
theorem okw_58 : mCw mM_58 ∈ gF := List.mem_of_getElem? (i := 906) rfl
theorem oka_59 : (mCd mM_59).all (chkA mM_59) = true := by decide +kernel
theorem okh_59 : (mHd mM_59).all (chkH mM_59) = true := by decide +kernel
theorem okm_59 : chkM mM_59 = true := by decide +kernel
set_option maxRecDepth 100000 in
theorem okw_59 : mCw mM_59 ∈ gF := List.mem_of_getElem? (i := 1074) rfl
theorem oka_60 : (mCd mM_60).all (chkA mM_60) = true := by decide +kernel
theorem okh_60 : (mHd mM_60).all (chkH mM_60) = true := by decide +kernel
theorem okm_60 : chkM mM_60 = true := by decide +kernel
set_option maxRecDepth 100000 in
theorem okw_60 : mCw mM_60 ∈ gF := List.mem_of_getElem? (i := 467) rfl
theorem oka_61 : (mCd mM_61).all (chkA mM_61) = true := by decide +kernel
theorem okh_61 : (mHd mM_61).all (chkH mM_61) = true := by decide +kernel
theorem okm_61 : chkM mM_61 = true := by decide +kernel
set_option maxRecDepth 100000 in
theorem okw_61 : mCw mM_61 ∈ gF := List.mem_of_getElem? (i := 876) rfl
theorem oka_62 : (mCd mM_62).all (chkA mM_62) = true := by decide +kernel
theorem okh_62 : (mHd mM_62).all (chkH mM_62) = true := by decide +kernel
theorem okm_62 : chkM mM_62 = true := by decide +kernel
set_option maxRecDepth 100000 in
theorem okw_62 : mCw mM_62 ∈ gF := List.mem_of_getElem? (i := 753) rfl
theorem oka_63 : (mCd mM_63).all (chkA mM_63) = true := by decide +kernel
theorem okh_63 : (mHd mM_63).all (chkH mM_63) = true := by decide +kernel
theorem okm_63 : chkM mM_63 = true := by decide +kernel
set_option maxRecDepth 100000 in
theorem okw_63 : mCw mM_63 ∈ gF := List.mem_of_getElem? (i := 1088) rfl
theorem oka_64 : (mCd mM_64).all (chkA mM_64) = true := by decide +kernel
theorem okh_64 : (mHd mM_64).all (chkH mM_64) = true := by decide +kernel
theorem okm_64 : chkM mM_64 = true := by decide +kernel
set_option maxRecDepth 100000 in
theorem okw_64 : mCw mM_64 ∈ gF := List.mem_of_getElem? (i := 902) rfl
theorem oka_65 : (mCd mM_65).all (chkA mM_65) = true := by decide +kernel
theorem okh_65 : (mHd mM_65).all (chkH mM_65) = true := by decide +kernel
theorem okm_65 : chkM mM_65 = true := by decide +kernel
set_option maxRecDepth 100000 in
theorem okw_65 : mCw mM_65 ∈ gF := List.mem_of_getElem? (i := 1122) rfl
theorem oka_66 : (mCd mM_66).all (chkA mM_66) = true := by decide +kernel
theorem okh_66 : (mHd mM_66).all (chkH mM_66) = true := by decide +kernel
theorem okm_66 : chkM mM_66 = true := by decide +kernel
set_option maxRecDepth 100000 in
theorem okw_66 : mCw mM_66 ∈ gF := List.mem_of_getElem? (i := 1107) rfl
theorem oka_67 : (mCd mM_67).all (chkA mM_67) = true := by decide +kernel
theorem okh_67 : (mHd mM_67).all (chkH mM_67) = true := by decide +kernel
theorem okm_67 : chkM mM_67 = true := by decide +kernel
set_option maxRecDepth 100000 in
theorem okw_67 : mCw mM_67 ∈ gF := List.mem_of_getElem? (i := 396) rfl
theorem oka_68 : (mCd mM_68).all (chkA mM_68) = true := by decide +kernel
theorem okh_68 : (mHd mM_68).all (chkH mM_68) = true := by decide +kernel
theorem okm_68 : chkM mM_68 = true := by decide +kernel
set_option maxRecDepth 100000 in
theorem okw_68 : mCw mM_68 ∈ gF := List.mem_of_getElem? (i := 417) rfl
theorem oka_69 : (mCd mM_69).all (chkA mM_69) = true := by decide +kernel
theorem okh_69 : (mHd mM_69).all (chkH mM_69) = true := by decide +kernel
theorem okm_69 : chkM mM_69 = true := by decide +kernel
set_option maxRecDepth 100000 in
theorem okw_69 : mCw mM_69 ∈ gF := List.mem_of_getElem? (i := 498) rfl
theorem oka_70 : (mCd mM_70).all (chkA mM_70) = true := by decide +kernel
theorem okh_70 : (mHd mM_70).all (chkH mM_70) = true := by decide +kernel
theorem okm_70 : chkM mM_70 = true := by decide +kernel
set_option maxRecDepth 100000 in
theorem okw_70 : mCw mM_70 ∈ gF := List.mem_of_getElem? (i := 255) rfl
theorem oka_71 : (mCd mM_71).all (chkA mM_71) = true := by decide +kernel
theorem okh_71 : (mHd mM_71).all (chkH mM_71) = true := by decide +kernel
theorem okm_71 : chkM mM_71 = true := by decide +kernel
set_option maxRecDepth 100000 in
theorem okw_71 : mCw mM_71 ∈ gF := List.mem_of_getElem? (i := 574) rfl
theorem oka_72 : (mCd mM_72).all (chkA mM_72) = true := by decide +kernel
theorem okh_72 : (mHd mM_72).all (chkH mM_72) = true := by decide +kernel
theorem okm_72 : chkM mM_72 = true := by decide +kernel
set_option maxRecDepth 100000 in
theorem okw_72 : mCw mM_72 ∈ gF := List.mem_of_getElem? (i := 861) rfl
theorem oka_73 : (mCd mM_73).all (chkA mM_73) = true := by decide +kernel
theorem okh_73 : (mHd mM_73).all (chkH mM_73) = true := by decide +kernel
theorem okm_73 : chkM mM_73 = true := by decide +kernel
set_option maxRecDepth 100000 in
theorem okw_73 : mCw mM_73 ∈ gF := List.mem_of_getElem? (i := 1176) rfl
theorem oka_74_0 : ((mc_74.drop 0).take 40).all (chkA mM_74) = true := by decide +kernel
theorem oka_74_40 : ((mc_74.drop 40).take 40).all (chkA mM_74) = true := by decide +kernel
theorem oka_74 : (mCd mM_74).all (chkA mM_74) = true := all_cut 40 [0, 40] (by decide +kernel) (by
  intro c hc
  simp only [List.mem_cons, List.not_mem_nil, or_false] at hc
  rcases hc with rfl | rfl
  · exact oka_74_0
  · exact oka_74_40)
theorem okh_74 : (mHd mM_74).all (chkH mM_74) = true := by decide +kernel
theorem okm_74 : chkM mM_74 = true := by decide +kernel
set_option maxRecDepth 100000 in
theorem okw_74 : mCw mM_74 ∈ gF := List.mem_of_getElem? (i := 245) rfl
theorem oka_75 : (mCd mM_75).all (chkA mM_75) = true := by decide +kernel
theorem okh_75 : (mHd mM_75).all (chkH mM_75) = true := by decide +kernel
theorem okm_75 : chkM mM_75 = true := by decide +kernel
set_option maxRecDepth 100000 in
theorem okw_75 : mCw mM_75 ∈ gF := List.mem_of_getElem? (i := 726) rfl
theorem oka_76_0 : ((mc_76.drop 0).take 40).all (chkA mM_76) = true := by decide +kernel
theorem oka_76_40 : ((mc_76.drop 40).take 40).all (chkA mM_76) = true := by decide +kernel
theorem oka_76_80 : ((mc_76.drop 80).take 40).all (chkA mM_76) = true := by decide +kernel
theorem oka_76 : (mCd mM_76).all (chkA mM_76) = true := all_cut 40 [0, 40, 80] (by decide +kernel) (by
  intro c hc
  simp only [List.mem_cons, List.not_mem_nil, or_false] at hc
  rcases hc with rfl | rfl | rfl
  · exact oka_76_0
  · exact oka_76_40
  · exact oka_76_80)
theorem okh_76 : (mHd mM_76).all (chkH mM_76) = true := by decide +kernel
theorem okm_76 : chkM mM_76 = true := by decide +kernel
set_option maxRecDepth 100000 in
theorem okw_76 : mCw mM_76 ∈ gF := List.mem_of_getElem? (i := 259) rfl
theorem oka_77 : (mCd mM_77).all (chkA mM_77) = true := by decide +kernel
theorem okh_77 : (mHd mM_77).all (chkH mM_77) = true := by decide +kernel
theorem okm_77 : chkM mM_77 = true := by decide +kernel
set_option maxRecDepth 100000 in
theorem okw_77 : mCw mM_77 ∈ gF := List.mem_of_getElem? (i := 699) rfl
theorem oka_78 : (mCd mM_78).all (chkA mM_78) = true := by decide +kernel
theorem okh_78 : (mHd mM_78).all (chkH mM_78) = true := by decide +kernel
theorem okm_78 : chkM mM_78 = true := by decide +kernel
set_option maxRecDepth 100000 in
theorem okw_78 : mCw mM_78 ∈ gF := List.mem_of_getElem? (i := 741) rfl
theorem oka_79_0 : ((mc_79.drop 0).take 40).all (chkA mM_79) = true := by decide +kernel
theorem oka_79_40 : ((mc_79.drop 40).take 40).all (chkA mM_79) = true := by decide +kernel
theorem oka_79 : (mCd mM_79).all (chkA mM_79) = true := all_cut 40 [0, 40] (by decide +kernel) (by
  intro c hc
  simp only [List.mem_cons, List.not_mem_nil, or_false] at hc
  rcases hc with rfl | rfl
  · exact oka_79_0
  · exact oka_79_40)
theorem okh_79 : (mHd mM_79).all (chkH mM_79) = true := by decide +kernel
theorem okm_79 : chkM mM_79 = true := by decide +kernel
set_option maxRecDepth 100000 in
theorem okw_79 : mCw mM_79 ∈ gF := List.mem_of_getElem? (i := 252) rfl
theorem oka_80 : (mCd mM_80).all (chkA mM_80) = true := by decide +kernel
theorem okh_80 : (mHd mM_80).all (chkH mM_80) = true := by decide +kernel
theorem okm_80 : chkM mM_80 = true := by decide +kernel
set_option maxRecDepth 100000 in
theorem okw_80 : mCw mM_80 ∈ gF := List.mem_of_getElem? (i := 473) rfl
theorem oka_81_0 : ((mc_81.drop 0).take 40).all (chkA mM_81) = true := by decide +kernel
theorem oka_81_40 : ((mc_81.drop 40).take 40).all (chkA mM_81) = true := by decide +kernel
theorem oka_81 : (mCd mM_81).all (chkA mM_81) = true := all_cut 40 [0, 40] (by decide +kernel) (by
  intro c hc
  simp only [List.mem_cons, List.not_mem_nil, or_false] at hc
  rcases hc with rfl | rfl
  · exact oka_81_0
  · exact oka_81_40)
theorem okh_81 : (mHd mM_81).all (chkH mM_81) = true := by decide +kernel
theorem okm_81 : chkM mM_81 = true := by decide +kernel
set_option maxRecDepth 100000 in
theorem okw_81 : mCw mM_81 ∈ gF := List.mem_of_getElem? (i := 325) rfl
theorem oka_82 : (mCd mM_82).all (chkA mM_82) = true := by decide +kernel
theorem okh_82 : (mHd mM_82).all (chkH mM_82) = true := by decide +kernel
theorem okm_82 : chkM mM_82 = true := by decide +kernel
set_option maxRecDepth 100000 in
theorem okw_82 : mCw mM_82 ∈ gF := List.mem_of_getElem? (i := 718) rfl
theorem oka_83_0 : ((mc_83.drop 0).take 40).all (chkA mM_83) = true := by decide +kernel
theorem oka_83_40 : ((mc_83.drop 40).take 40).all (chkA mM_83) = true := by decide +kernel
theorem oka_83_80 : ((mc_83.drop 80).take 40).all (chkA mM_83) = true := by decide +kernel
theorem oka_83 : (mCd mM_83).all (chkA mM_83) = true := all_cut 40 [0, 40, 80] (by decide +kernel) (by
  intro c hc
  simp only [List.mem_cons, List.not_mem_nil, or_false] at hc
  rcases hc with rfl | rfl | rfl
  · exact oka_83_0
  · exact oka_83_40
  · exact oka_83_80)
theorem okh_83 : (mHd mM_83).all (chkH mM_83) = true := by decide +kernel
theorem okm_83 : chkM mM_83 = true := by decide +kernel
set_option maxRecDepth 100000 in
theorem okw_83 : mCw mM_83 ∈ gF := List.mem_of_getElem? (i := 248) rfl
theorem oka_84 : (mCd mM_84).all (chkA mM_84) = true := by decide +kernel
theorem okh_84 : (mHd mM_84).all (chkH mM_84) = true := by decide +kernel
theorem okm_84 : chkM mM_84 = true := by decide +kernel
set_option maxRecDepth 100000 in
theorem okw_84 : mCw mM_84 ∈ gF := List.mem_of_getElem? (i := 440) rfl
theorem oka_85 : (mCd mM_85).all (chkA mM_85) = true := by decide +kernel
theorem okh_85 : (mHd mM_85).all (chkH mM_85) = true := by decide +kernel
theorem okm_85 : chkM mM_85 = true := by decide +kernel
set_option maxRecDepth 100000 in
theorem okw_85 : mCw mM_85 ∈ gF := List.mem_of_getElem? (i := 1044) rfl
theorem oka_86_0 : ((mc_86.drop 0).take 40).all (chkA mM_86) = true := by decide +kernel
theorem oka_86_40 : ((mc_86.drop 40).take 40).all (chkA mM_86) = true := by decide +kernel
theorem oka_86 : (mCd mM_86).all (chkA mM_86) = true := all_cut 40 [0, 40] (by decide +kernel) (by
  intro c hc
  simp only [List.mem_cons, List.not_mem_nil, or_false] at hc
  rcases hc with rfl | rfl
  · exact oka_86_0
  · exact oka_86_40)
theorem okh_86 : (mHd mM_86).all (chkH mM_86) = true := by decide +kernel
theorem okm_86 : chkM mM_86 = true := by decide +kernel
set_option maxRecDepth 100000 in
theorem okw_86 : mCw mM_86 ∈ gF := List.mem_of_getElem? (i := 884) rfl
theorem oka_87 : (mCd mM_87).all (chkA mM_87) = true := by decide +kernel
theorem okh_87 : (mHd mM_87).all (chkH mM_87) = true := by decide +kernel
theorem okm_87 : chkM mM_87 = true := by decide +kernel
set_option maxRecDepth 100000 in
theorem okw_87 : mCw mM_87 ∈ gF := List.mem_of_getElem? (i := 262) rfl
theorem oka_88 : (mCd mM_88).all (chkA mM_88) = true := by decide +kernel
theorem okh_88 : (mHd mM_88).all (chkH mM_88) = true := by decide +kernel
theorem okm_88 : chkM mM_88 = true := by decide +kernel
set_option maxRecDepth 100000 in
theorem okw_88 : mCw mM_88 ∈ gF := List.mem_of_getElem? (i := 265) rfl
theorem oka_89 : (mCd mM_89).all (chkA mM_89) = true := by decide +kernel
theorem okh_89 : (mHd mM_89).all (chkH mM_89) = true := by decide +kernel
theorem okm_89 : chkM mM_89 = true := by decide +kernel
set_option maxRecDepth 100000 in
theorem okw_89 : mCw mM_89 ∈ gF := List.mem_of_getElem? (i := 283) rfl
theorem oka_90_0 : ((mc_90.drop 0).take 40).all (chkA mM_90) = true := by decide +kernel
theorem oka_90_40 : ((mc_90.drop 40).take 40).all (chkA mM_90) = true := by decide +kernel
theorem oka_90_80 : ((mc_90.drop 80).take 40).all (chkA mM_90) = true := by decide +kernel
theorem oka_90 : (mCd mM_90).all (chkA mM_90) = true := all_cut 40 [0, 40, 80] (by decide +kernel) (by
  intro c hc
  simp only [List.mem_cons, List.not_mem_nil, or_false] at hc
  rcases hc with rfl | rfl | rfl
  · exact oka_90_0
  · exact oka_90_40
  · exact oka_90_80)
theorem okh_90 : (mHd mM_90).all (chkH mM_90) = true := by decide +kernel
theorem okm_90 : chkM mM_90 = true := by decide +kernel
set_option maxRecDepth 100000 in
theorem okw_90 : mCw mM_90 ∈ gF := List.mem_of_getElem? (i := 240) rfl
theorem oka_91_0 : ((mc_91.drop 0).take 40).all (chkA mM_91) = true := by decide +kernel
theorem oka_91_40 : ((mc_91.drop 40).take 40).all (chkA mM_91) = true := by decide +kernel
theorem oka_91_80 : ((mc_91.drop 80).take 40).all (chkA mM_91) = true := by decide +kernel
theorem oka_91 : (mCd mM_91).all (chkA mM_91) = true := all_cut 40 [0, 40, 80] (by decide +kernel) (by
  intro c hc
  simp only [List.mem_cons, List.not_mem_nil, or_false] at hc
  rcases hc with rfl | rfl | rfl
  · exact oka_91_0
  · exact oka_91_40
  · exact oka_91_80)
theorem okh_91 : (mHd mM_91).all (chkH mM_91) = true := by decide +kernel
theorem okm_91 : chkM mM_91 = true := by decide +kernel
set_option maxRecDepth 100000 in
theorem okw_91 : mCw mM_91 ∈ gF := List.mem_of_getElem? (i := 1172) rfl
theorem oka_92_0 : ((mc_92.drop 0).take 40).all (chkA mM_92) = true := by decide +kernel
theorem oka_92_40 : ((mc_92.drop 40).take 40).all (chkA mM_92) = true := by decide +kernel
theorem oka_92_80 : ((mc_92.drop 80).take 40).all (chkA mM_92) = true := by decide +kernel
theorem oka_92_120 : ((mc_92.drop 120).take 40).all (chkA mM_92) = true := by decide +kernel
theorem oka_92_160 : ((mc_92.drop 160).take 40).all (chkA mM_92) = true := by decide +kernel
theorem oka_92 : (mCd mM_92).all (chkA mM_92) = true := all_cut 40 [0, 40, 80, 120, 160] (by decide +kernel) (by
  intro c hc
  simp only [List.mem_cons, List.not_mem_nil, or_false] at hc
  rcases hc with rfl | rfl | rfl | rfl | rfl
  · exact oka_92_0
  · exact oka_92_40
  · exact oka_92_80
  · exact oka_92_120
  · exact oka_92_160)
theorem okh_92 : (mHd mM_92).all (chkH mM_92) = true := by decide +kernel
theorem okm_92 : chkM mM_92 = true := by decide +kernel
set_option maxRecDepth 100000 in
theorem okw_92 : mCw mM_92 ∈ gF := List.mem_of_getElem? (i := 578) rfl
theorem oka_93 : (mCd mM_93).all (chkA mM_93) = true := by decide +kernel
theorem okh_93 : (mHd mM_93).all (chkH mM_93) = true := by decide +kernel
theorem okm_93 : chkM mM_93 = true := by decide +kernel
set_option maxRecDepth 100000 in
theorem okw_93 : mCw mM_93 ∈ gF := List.mem_of_getElem? (i := 388) rfl
theorem oka_94 : (mCd mM_94).all (chkA mM_94) = true := by decide +kernel
theorem okh_94 : (mHd mM_94).all (chkH mM_94) = true := by decide +kernel
theorem okm_94 : chkM mM_94 = true := by decide +kernel
set_option maxRecDepth 100000 in
theorem okw_94 : mCw mM_94 ∈ gF := List.mem_of_getElem? (i := 599) rfl
theorem oka_95 : (mCd mM_95).all (chkA mM_95) = true := by decide +kernel
theorem okh_95 : (mHd mM_95).all (chkH mM_95) = true := by decide +kernel
theorem okm_95 : chkM mM_95 = true := by decide +kernel
set_option maxRecDepth 100000 in
theorem okw_95 : mCw mM_95 ∈ gF := List.mem_of_getElem? (i := 330) rfl
theorem oka_96_0 : ((mc_96.drop 0).take 40).all (chkA mM_96) = true := by decide +kernel
theorem oka_96_40 : ((mc_96.drop 40).take 40).all (chkA mM_96) = true := by decide +kernel
theorem oka_96 : (mCd mM_96).all (chkA mM_96) = true := all_cut 40 [0, 40] (by decide +kernel) (by
  intro c hc
  simp only [List.mem_cons, List.not_mem_nil, or_false] at hc
  rcases hc with rfl | rfl
  · exact oka_96_0
  · exact oka_96_40)
theorem okh_96 : (mHd mM_96).all (chkH mM_96) = true := by decide +kernel
theorem okm_96 : chkM mM_96 = true := by decide +kernel
set_option maxRecDepth 100000 in
theorem okw_96 : mCw mM_96 ∈ gF := List.mem_of_getElem? (i := 714) rfl
theorem oka_97 : (mCd mM_97).all (chkA mM_97) = true := by decide +kernel
theorem okh_97 : (mHd mM_97).all (chkH mM_97) = true := by decide +kernel
theorem okm_97 : chkM mM_97 = true := by decide +kernel
set_option maxRecDepth 100000 in
theorem okw_97 : mCw mM_97 ∈ gF := List.mem_of_getElem? (i := 990) rfl
theorem oka_98 : (mCd mM_98).all (chkA mM_98) = true := by decide +kernel
theorem okh_98 : (mHd mM_98).all (chkH mM_98) = true := by decide +kernel
theorem okm_98 : chkM mM_98 = true := by decide +kernel
set_option maxRecDepth 100000 in
theorem okw_98 : mCw mM_98 ∈ gF := List.mem_of_getElem? (i := 1185) rfl
theorem oka_99 : (mCd mM_99).all (chkA mM_99) = true := by decide +kernel
theorem okh_99 : (mHd mM_99).all (chkH mM_99) = true := by decide +kernel
theorem okm_99 : chkM mM_99 = true := by decide +kernel
set_option maxRecDepth 100000 in
theorem okw_99 : mCw mM_99 ∈ gF := List.mem_of_getElem? (i := 271) rfl
theorem oka_100 : (mCd mM_100).all (chkA mM_100) = true := by decide +kernel
theorem okh_100 : (mHd mM_100).all (chkH mM_100) = true := by decide +kernel
theorem okm_100 : chkM mM_100 = true := by decide +kernel
set_option maxRecDepth 100000 in
theorem okw_100 : mCw mM_100 ∈ gF := List.mem_of_getElem? (i := 280) rfl
theorem oka_101_0 : ((mc_101.drop 0).take 40).all (chkA mM_101) = true := by decide +kernel
theorem oka_101_40 : ((mc_101.drop 40).take 40).all (chkA mM_101) = true := by decide +kernel
theorem oka_101_80 : ((mc_101.drop 80).take 40).all (chkA mM_101) = true := by decide +kernel
theorem oka_101 : (mCd mM_101).all (chkA mM_101) = true := all_cut 40 [0, 40, 80] (by decide +kernel) (by
  intro c hc
  simp only [List.mem_cons, List.not_mem_nil, or_false] at hc
  rcases hc with rfl | rfl | rfl
  · exact oka_101_0
  · exact oka_101_40
  · exact oka_101_80)
theorem okh_101 : (mHd mM_101).all (chkH mM_101) = true := by decide +kernel
theorem okm_101 : chkM mM_101 = true := by decide +kernel
set_option maxRecDepth 100000 in
theorem okw_101 : mCw mM_101 ∈ gF := List.mem_of_getElem? (i := 205) rfl
theorem oka_102 : (mCd mM_102).all (chkA mM_102) = true := by decide +kernel
theorem okh_102 : (mHd mM_102).all (chkH mM_102) = true := by decide +kernel
theorem okm_102 : chkM mM_102 = true := by decide +kernel
set_option maxRecDepth 100000 in
theorem okw_102 : mCw mM_102 ∈ gF := List.mem_of_getElem? (i := 1064) rfl
theorem oka_103 : (mCd mM_103).all (chkA mM_103) = true := by decide +kernel
theorem okh_103 : (mHd mM_103).all (chkH mM_103) = true := by decide +kernel
theorem okm_103 : chkM mM_103 = true := by decide +kernel
set_option maxRecDepth 100000 in
theorem okw_103 : mCw mM_103 ∈ gF := List.mem_of_getElem? (i := 289) rfl
theorem oka_104 : (mCd mM_104).all (chkA mM_104) = true := by decide +kernel
theorem okh_104 : (mHd mM_104).all (chkH mM_104) = true := by decide +kernel
theorem okm_104 : chkM mM_104 = true := by decide +kernel
set_option maxRecDepth 100000 in
theorem okw_104 : mCw mM_104 ∈ gF := List.mem_of_getElem? (i := 1002) rfl
theorem oka_105_0 : ((mc_105.drop 0).take 40).all (chkA mM_105) = true := by decide +kernel
theorem oka_105_40 : ((mc_105.drop 40).take 40).all (chkA mM_105) = true := by decide +kernel
theorem oka_105 : (mCd mM_105).all (chkA mM_105) = true := all_cut 40 [0, 40] (by decide +kernel) (by
  intro c hc
  simp only [List.mem_cons, List.not_mem_nil, or_false] at hc
  rcases hc with rfl | rfl
  · exact oka_105_0
  · exact oka_105_40)
theorem okh_105 : (mHd mM_105).all (chkH mM_105) = true := by decide +kernel
theorem okm_105 : chkM mM_105 = true := by decide +kernel
set_option maxRecDepth 100000 in
theorem okw_105 : mCw mM_105 ∈ gF := List.mem_of_getElem? (i := 986) rfl
theorem oka_106 : (mCd mM_106).all (chkA mM_106) = true := by decide +kernel
theorem okh_106 : (mHd mM_106).all (chkH mM_106) = true := by decide +kernel
theorem okm_106 : chkM mM_106 = true := by decide +kernel
set_option maxRecDepth 100000 in
theorem okw_106 : mCw mM_106 ∈ gF := List.mem_of_getElem? (i := 488) rfl
theorem oka_107_0 : ((mc_107.drop 0).take 40).all (chkA mM_107) = true := by decide +kernel
theorem oka_107_40 : ((mc_107.drop 40).take 40).all (chkA mM_107) = true := by decide +kernel
theorem oka_107 : (mCd mM_107).all (chkA mM_107) = true := all_cut 40 [0, 40] (by decide +kernel) (by
  intro c hc
  simp only [List.mem_cons, List.not_mem_nil, or_false] at hc
  rcases hc with rfl | rfl
  · exact oka_107_0
  · exact oka_107_40)
theorem okh_107 : (mHd mM_107).all (chkH mM_107) = true := by decide +kernel
theorem okm_107 : chkM mM_107 = true := by decide +kernel
set_option maxRecDepth 100000 in
theorem okw_107 : mCw mM_107 ∈ gF := List.mem_of_getElem? (i := 296) rfl
theorem oka_108 : (mCd mM_108).all (chkA mM_108) = true := by decide +kernel
theorem okh_108 : (mHd mM_108).all (chkH mM_108) = true := by decide +kernel
theorem okm_108 : chkM mM_108 = true := by decide +kernel
set_option maxRecDepth 100000 in
theorem okw_108 : mCw mM_108 ∈ gF := List.mem_of_getElem? (i := 982) rfl
theorem oka_109 : (mCd mM_109).all (chkA mM_109) = true := by decide +kernel
theorem okh_109 : (mHd mM_109).all (chkH mM_109) = true := by decide +kernel
theorem okm_109 : chkM mM_109 = true := by decide +kernel
set_option maxRecDepth 100000 in
theorem okw_109 : mCw mM_109 ∈ gF := List.mem_of_getElem? (i := 491) rfl
theorem oka_110 : (mCd mM_110).all (chkA mM_110) = true := by decide +kernel
theorem okh_110 : (mHd mM_110).all (chkH mM_110) = true := by decide +kernel
theorem okm_110 : chkM mM_110 = true := by decide +kernel
set_option maxRecDepth 100000 in
theorem okw_110 : mCw mM_110 ∈ gF := List.mem_of_getElem? (i := 268) rfl
theorem oka_111_0 : ((mc_111.drop 0).take 40).all (chkA mM_111) = true := by decide +kernel
theorem oka_111_40 : ((mc_111.drop 40).take 40).all (chkA mM_111) = true := by decide +kernel
theorem oka_111 : (mCd mM_111).all (chkA mM_111) = true := all_cut 40 [0, 40] (by decide +kernel) (by
  intro c hc
  simp only [List.mem_cons, List.not_mem_nil, or_false] at hc
  rcases hc with rfl | rfl
  · exact oka_111_0
  · exact oka_111_40)
theorem okh_111 : (mHd mM_111).all (chkH mM_111) = true := by decide +kernel
theorem okm_111 : chkM mM_111 = true := by decide +kernel
set_option maxRecDepth 100000 in
theorem okw_111 : mCw mM_111 ∈ gF := List.mem_of_getElem? (i := 895) rfl
theorem oka_112_0 : ((mc_112.drop 0).take 40).all (chkA mM_112) = true := by decide +kernel
theorem oka_112_40 : ((mc_112.drop 40).take 40).all (chkA mM_112) = true := by decide +kernel
theorem oka_112 : (mCd mM_112).all (chkA mM_112) = true := all_cut 40 [0, 40] (by decide +kernel) (by
  intro c hc
  simp only [List.mem_cons, List.not_mem_nil, or_false] at hc
  rcases hc with rfl | rfl
  · exact oka_112_0
  · exact oka_112_40)
theorem okh_112 : (mHd mM_112).all (chkH mM_112) = true := by decide +kernel
theorem okm_112 : chkM mM_112 = true := by decide +kernel
set_option maxRecDepth 100000 in
theorem okw_112 : mCw mM_112 ∈ gF := List.mem_of_getElem? (i := 581) rfl
theorem oka_113 : (mCd mM_113).all (chkA mM_113) = true := by decide +kernel
theorem okh_113 : (mHd mM_113).all (chkH mM_113) = true := by decide +kernel
theorem okm_113 : chkM mM_113 = true := by decide +kernel
set_option maxRecDepth 100000 in
theorem okw_113 : mCw mM_113 ∈ gF := List.mem_of_getElem? (i := 722) rfl
theorem oka_114 : (mCd mM_114).all (chkA mM_114) = true := by decide +kernel
theorem okh_114 : (mHd mM_114).all (chkH mM_114) = true := by decide +kernel
theorem okm_114 : chkM mM_114 = true := by decide +kernel
set_option maxRecDepth 100000 in
theorem okw_114 : mCw mM_114 ∈ gF := List.mem_of_getElem? (i := 1179) rfl
theorem oka_115 : (mCd mM_115).all (chkA mM_115) = true := by decide +kernel
theorem okh_115 : (mHd mM_115).all (chkH mM_115) = true := by decide +kernel
theorem okm_115 : chkM mM_115 = true := by decide +kernel
set_option maxRecDepth 100000 in
theorem okw_115 : mCw mM_115 ∈ gF := List.mem_of_getElem? (i := 1188) rfl
theorem oka_116 : (mCd mM_116).all (chkA mM_116) = true := by decide +kernel
theorem okh_116 : (mHd mM_116).all (chkH mM_116) = true := by decide +kernel
theorem okm_116 : chkM mM_116 = true := by decide +kernel
set_option maxRecDepth 100000 in
theorem okw_116 : mCw mM_116 ∈ gF := List.mem_of_getElem? (i := 710) rfl
theorem oka_117 : (mCd mM_117).all (chkA mM_117) = true := by decide +kernel
theorem okh_117 : (mHd mM_117).all (chkH mM_117) = true := by decide +kernel
theorem okm_117 : chkM mM_117 = true := by decide +kernel
set_option maxRecDepth 100000 in
theorem okw_117 : mCw mM_117 ∈ gF := List.mem_of_getElem? (i := 456) rfl
theorem oka_118 : (mCd mM_118).all (chkA mM_118) = true := by decide +kernel
theorem okh_118 : (mHd mM_118).all (chkH mM_118) = true := by decide +kernel
theorem okm_118 : chkM mM_118 = true := by decide +kernel
set_option maxRecDepth 100000 in
theorem okw_118 : mCw mM_118 ∈ gF := List.mem_of_getElem? (i := 994) rfl
theorem oka_119 : (mCd mM_119).all (chkA mM_119) = true := by decide +kernel
theorem okh_119 : (mHd mM_119).all (chkH mM_119) = true := by decide +kernel
theorem okm_119 : chkM mM_119 = true := by decide +kernel
set_option maxRecDepth 100000 in
theorem okw_119 : mCw mM_119 ∈ gF := List.mem_of_getElem? (i := 1060) rfl
theorem oka_120_0 : ((mc_120.drop 0).take 40).all (chkA mM_120) = true := by decide +kernel
theorem oka_120_40 : ((mc_120.drop 40).take 40).all (chkA mM_120) = true := by decide +kernel
theorem oka_120 : (mCd mM_120).all (chkA mM_120) = true := all_cut 40 [0, 40] (by decide +kernel) (by
  intro c hc
  simp only [List.mem_cons, List.not_mem_nil, or_false] at hc
  rcases hc with rfl | rfl
  · exact oka_120_0
  · exact oka_120_40)
theorem okh_120 : (mHd mM_120).all (chkH mM_120) = true := by decide +kernel
theorem okm_120 : chkM mM_120 = true := by decide +kernel
set_option maxRecDepth 100000 in
theorem okw_120 : mCw mM_120 ∈ gF := List.mem_of_getElem? (i := 1203) rfl
theorem oka_121_0 : ((mc_121.drop 0).take 40).all (chkA mM_121) = true := by decide +kernel
theorem oka_121_40 : ((mc_121.drop 40).take 40).all (chkA mM_121) = true := by decide +kernel
theorem oka_121_80 : ((mc_121.drop 80).take 40).all (chkA mM_121) = true := by decide +kernel
theorem oka_121 : (mCd mM_121).all (chkA mM_121) = true := all_cut 40 [0, 40, 80] (by decide +kernel) (by
  intro c hc
  simp only [List.mem_cons, List.not_mem_nil, or_false] at hc
  rcases hc with rfl | rfl | rfl
  · exact oka_121_0
  · exact oka_121_40
  · exact oka_121_80)
theorem okh_121 : (mHd mM_121).all (chkH mM_121) = true := by decide +kernel
theorem okm_121 : chkM mM_121 = true := by decide +kernel
set_option maxRecDepth 100000 in
theorem okw_121 : mCw mM_121 ∈ gF := List.mem_of_getElem? (i := 843) rfl
theorem oka_122 : (mCd mM_122).all (chkA mM_122) = true := by decide +kernel
theorem okh_122 : (mHd mM_122).all (chkH mM_122) = true := by decide +kernel
theorem okm_122 : chkM mM_122 = true := by decide +kernel
set_option maxRecDepth 100000 in
theorem okw_122 : mCw mM_122 ∈ gF := List.mem_of_getElem? (i := 998) rfl
theorem oka_123_0 : ((mc_123.drop 0).take 40).all (chkA mM_123) = true := by decide +kernel
theorem oka_123_40 : ((mc_123.drop 40).take 40).all (chkA mM_123) = true := by decide +kernel
theorem oka_123 : (mCd mM_123).all (chkA mM_123) = true := all_cut 40 [0, 40] (by decide +kernel) (by
  intro c hc
  simp only [List.mem_cons, List.not_mem_nil, or_false] at hc
  rcases hc with rfl | rfl
  · exact oka_123_0
  · exact oka_123_40)
theorem okh_123 : (mHd mM_123).all (chkH mM_123) = true := by decide +kernel
theorem okm_123 : chkM mM_123 = true := by decide +kernel
set_option maxRecDepth 100000 in
theorem okw_123 : mCw mM_123 ∈ gF := List.mem_of_getElem? (i := 1040) rfl
theorem oka_124_0 : ((mc_124.drop 0).take 40).all (chkA mM_124) = true := by decide +kernel
theorem oka_124_40 : ((mc_124.drop 40).take 40).all (chkA mM_124) = true := by decide +kernel
theorem oka_124 : (mCd mM_124).all (chkA mM_124) = true := all_cut 40 [0, 40] (by decide +kernel) (by
  intro c hc
  simp only [List.mem_cons, List.not_mem_nil, or_false] at hc
  rcases hc with rfl | rfl
  · exact oka_124_0
  · exact oka_124_40)
theorem okh_124 : (mHd mM_124).all (chkH mM_124) = true := by decide +kernel
theorem okm_124 : chkM mM_124 = true := by decide +kernel
set_option maxRecDepth 100000 in
theorem okw_124 : mCw mM_124 ∈ gF := List.mem_of_getElem? (i := 376) rfl
theorem oka_125 : (mCd mM_125).all (chkA mM_125) = true := by decide +kernel
theorem okh_125 : (mHd mM_125).all (chkH mM_125) = true := by decide +kernel
theorem okm_125 : chkM mM_125 = true := by decide +kernel
