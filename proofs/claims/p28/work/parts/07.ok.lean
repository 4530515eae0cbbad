theorem all_cut {α : Type} {P : α → Bool} {l : List α} (n : Nat) (cs : List Nat) (hcs : ∀ i, i < l.length → ∃ c ∈ cs, c ≤ i ∧ i < c + n) (h : ∀ c ∈ cs, ((l.drop c).take n).all P = true) : l.all P = true := by
  refine List.all_eq_true.mpr fun a ha => ?_
  obtain ⟨i, hi⟩ := List.getElem?_of_mem ha
  have hl := (List.getElem?_eq_some_iff.mp hi).1
  obtain ⟨c, hc, h1, h2⟩ := hcs i hl
  refine List.all_eq_true.mp (h c hc) a (List.mem_of_getElem? (i := i - c) ?_)
  rw [List.getElem?_take_of_lt (by omega), List.getElem?_drop, show c + (i - c) = i by omega]
  exact hi
theorem oka_0 : (mCd mM_0).all (chkA mM_0) = true := by decide +kernel
theorem okh_0 : (mHd mM_0).all (chkH mM_0) = true := by decide +kernel
theorem okm_0 : chkM mM_0 = true := by decide +kernel
set_option maxRecDepth 100000 in
theorem okw_0 : mCw mM_0 ∈ gF := List.mem_of_getElem? (i := 652) rfl
theorem oka_1 : (mCd mM_1).all (chkA mM_1) = true := by decide +kernel
theorem okh_1 : (mHd mM_1).all (chkH mM_1) = true := by decide +kernel
theorem okm_1 : chkM mM_1 = true := by decide +kernel
set_option maxRecDepth 100000 in
theorem okw_1 : mCw mM_1 ∈ gF := List.mem_of_getElem? (i := 484) rfl
theorem oka_2_0 : ((mc_2.drop 0).take 40).all (chkA mM_2) = true := by decide +kernel
theorem oka_2_40 : ((mc_2.drop 40).take 40).all (chkA mM_2) = true := by decide +kernel
theorem oka_2 : (mCd mM_2).all (chkA mM_2) = true := all_cut 40 [0, 40] (by decide +kernel) (by
  intro c hc
  simp only [List.mem_cons, List.not_mem_nil, or_false] at hc
  rcases hc with rfl | rfl
  · exact oka_2_0
  · exact oka_2_40)
theorem okh_2 : (mHd mM_2).all (chkH mM_2) = true := by decide +kernel
theorem okm_2 : chkM mM_2 = true := by decide +kernel
set_option maxRecDepth 100000 in
theorem okw_2 : mCw mM_2 ∈ gF := List.mem_of_getElem? (i := 56) rfl
theorem oka_3 : (mCd mM_3).all (chkA mM_3) = true := by decide +kernel
theorem okh_3 : (mHd mM_3).all (chkH mM_3) = true := by decide +kernel
theorem okm_3 : chkM mM_3 = true := by decide +kernel
set_option maxRecDepth 100000 in
theorem okw_3 : mCw mM_3 ∈ gF := List.mem_of_getElem? (i := 49) rfl
theorem oka_4 : (mCd mM_4).all (chkA mM_4) = true := by decide +kernel
theorem okh_4 : (mHd mM_4).all (chkH mM_4) = true := by decide +kernel
theorem okm_4 : chkM mM_4 = true := by decide +kernel
set_option maxRecDepth 100000 in
theorem okw_4 : mCw mM_4 ∈ gF := List.mem_of_getElem? (i := 59) rfl
theorem oka_5 : (mCd mM_5).all (chkA mM_5) = true := by decide +kernel
theorem okh_5 : (mHd mM_5).all (chkH mM_5) = true := by decide +kernel
theorem okm_5 : chkM mM_5 = true := by decide +kernel
set_option maxRecDepth 100000 in
theorem okw_5 : mCw mM_5 ∈ gF := List.mem_of_getElem? (i := 577) rfl
theorem oka_6 : (mCd mM_6).all (chkA mM_6) = true := by decide +kernel
theorem okh_6 : (mHd mM_6).all (chkH mM_6) = true := by decide +kernel
theorem okm_6 : chkM mM_6 = true := by decide +kernel
set_option maxRecDepth 100000 in
theorem okw_6 : mCw mM_6 ∈ gF := List.mem_of_getElem? (i := 582) rfl
theorem oka_7 : (mCd mM_7).all (chkA mM_7) = true := by decide +kernel
theorem okh_7 : (mHd mM_7).all (chkH mM_7) = true := by decide +kernel
theorem okm_7 : chkM mM_7 = true := by decide +kernel
set_option maxRecDepth 100000 in
theorem okw_7 : mCw mM_7 ∈ gF := List.mem_of_getElem? (i := 398) rfl
theorem oka_8 : (mCd mM_8).all (chkA mM_8) = true := by decide +kernel
theorem okh_8 : (mHd mM_8).all (chkH mM_8) = true := by decide +kernel
theorem okm_8 : chkM mM_8 = true := by decide +kernel
set_option maxRecDepth 100000 in
theorem okw_8 : mCw mM_8 ∈ gF := List.mem_of_getElem? (i := 285) rfl
theorem oka_9 : (mCd mM_9).all (chkA mM_9) = true := by decide +kernel
theorem okh_9 : (mHd mM_9).all (chkH mM_9) = true := by decide +kernel
theorem okm_9 : chkM mM_9 = true := by decide +kernel
set_option maxRecDepth 100000 in
theorem okw_9 : mCw mM_9 ∈ gF := List.mem_of_getElem? (i := 116) rfl
theorem oka_10 : (mCd mM_10).all (chkA mM_10) = true := by decide +kernel
theorem okh_10 : (mHd mM_10).all (chkH mM_10) = true := by decide +kernel
theorem okm_10 : chkM mM_10 = true := by decide +kernel
set_option maxRecDepth 100000 in
theorem okw_10 : mCw mM_10 ∈ gF := List.mem_of_getElem? (i := 353) rfl
theorem oka_11_0 : ((mc_11.drop 0).take 40).all (chkA mM_11) = true := by decide +kernel
theorem oka_11_40 : ((mc_11.drop 40).take 40).all (chkA mM_11) = true := by decide +kernel
theorem oka_11 : (mCd mM_11).all (chkA mM_11) = true := all_cut 40 [0, 40] (by decide +kernel) (by
  intro c hc
  simp only [List.mem_cons, List.not_mem_nil, or_false] at hc
  rcases hc with rfl | rfl
  · exact oka_11_0
  · exact oka_11_40)
theorem okh_11 : (mHd mM_11).all (chkH mM_11) = true := by decide +kernel
theorem okm_11 : chkM mM_11 = true := by decide +kernel
set_option maxRecDepth 100000 in
theorem okw_11 : mCw mM_11 ∈ gF := List.mem_of_getElem? (i := 292) rfl
theorem oka_12 : (mCd mM_12).all (chkA mM_12) = true := by decide +kernel
theorem okh_12 : (mHd mM_12).all (chkH mM_12) = true := by decide +kernel
theorem okm_12 : chkM mM_12 = true := by decide +kernel
set_option maxRecDepth 100000 in
theorem okw_12 : mCw mM_12 ∈ gF := List.mem_of_getElem? (i := 71) rfl
theorem oka_13 : (mCd mM_13).all (chkA mM_13) = true := by decide +kernel
theorem okh_13 : (mHd mM_13).all (chkH mM_13) = true := by decide +kernel
theorem okm_13 : chkM mM_13 = true := by decide +kernel
set_option maxRecDepth 100000 in
theorem okw_13 : mCw mM_13 ∈ gF := List.mem_of_getElem? (i := 92) rfl
theorem oka_14 : (mCd mM_14).all (chkA mM_14) = true := by decide +kernel
theorem okh_14 : (mHd mM_14).all (chkH mM_14) = true := by decide +kernel
theorem okm_14 : chkM mM_14 = true := by decide +kernel
set_option maxRecDepth 100000 in
theorem okw_14 : mCw mM_14 ∈ gF := List.mem_of_getElem? (i := 124) rfl
theorem oka_15 : (mCd mM_15).all (chkA mM_15) = true := by decide +kernel
theorem okh_15 : (mHd mM_15).all (chkH mM_15) = true := by decide +kernel
theorem okm_15 : chkM mM_15 = true := by decide +kernel
set_option maxRecDepth 100000 in
theorem okw_15 : mCw mM_15 ∈ gF := List.mem_of_getElem? (i := 345) rfl
theorem oka_16 : (mCd mM_16).all (chkA mM_16) = true := by decide +kernel
theorem okh_16 : (mHd mM_16).all (chkH mM_16) = true := by decide +kernel
theorem okm_16 : chkM mM_16 = true := by decide +kernel
set_option maxRecDepth 100000 in
theorem okw_16 : mCw mM_16 ∈ gF := List.mem_of_getElem? (i := 299) rfl
theorem oka_17 : (mCd mM_17).all (chkA mM_17) = true := by decide +kernel
theorem okh_17 : (mHd mM_17).all (chkH mM_17) = true := by decide +kernel
theorem okm_17 : chkM mM_17 = true := by decide +kernel
set_option maxRecDepth 100000 in
theorem okw_17 : mCw mM_17 ∈ gF := List.mem_of_getElem? (i := 120) rfl
theorem oka_18_0 : ((mc_18.drop 0).take 40).all (chkA mM_18) = true := by decide +kernel
theorem oka_18_40 : ((mc_18.drop 40).take 40).all (chkA mM_18) = true := by decide +kernel
theorem oka_18 : (mCd mM_18).all (chkA mM_18) = true := all_cut 40 [0, 40] (by decide +kernel) (by
  intro c hc
  simp only [List.mem_cons, List.not_mem_nil, or_false] at hc
  rcases hc with rfl | rfl
  · exact oka_18_0
  · exact oka_18_40)
theorem okh_18 : (mHd mM_18).all (chkH mM_18) = true := by decide +kernel
theorem okm_18 : chkM mM_18 = true := by decide +kernel
set_option maxRecDepth 100000 in
theorem okw_18 : mCw mM_18 ∈ gF := List.mem_of_getElem? (i := 88) rfl
theorem oka_19 : (mCd mM_19).all (chkA mM_19) = true := by decide +kernel
theorem okh_19 : (mHd mM_19).all (chkH mM_19) = true := by decide +kernel
theorem okm_19 : chkM mM_19 = true := by decide +kernel
set_option maxRecDepth 100000 in
theorem okw_19 : mCw mM_19 ∈ gF := List.mem_of_getElem? (i := 99) rfl
theorem oka_20 : (mCd mM_20).all (chkA mM_20) = true := by decide +kernel
theorem okh_20 : (mHd mM_20).all (chkH mM_20) = true := by decide +kernel
theorem okm_20 : chkM mM_20 = true := by decide +kernel
set_option maxRecDepth 100000 in
theorem okw_20 : mCw mM_20 ∈ gF := List.mem_of_getElem? (i := 337) rfl
theorem oka_21 : (mCd mM_21).all (chkA mM_21) = true := by decide +kernel
theorem okh_21 : (mHd mM_21).all (chkH mM_21) = true := by decide +kernel
theorem okm_21 : chkM mM_21 = true := by decide +kernel
set_option maxRecDepth 100000 in
theorem okw_21 : mCw mM_21 ∈ gF := List.mem_of_getElem? (i := 349) rfl
theorem oka_22 : (mCd mM_22).all (chkA mM_22) = true := by decide +kernel
theorem okh_22 : (mHd mM_22).all (chkH mM_22) = true := by decide +kernel
theorem okm_22 : chkM mM_22 = true := by decide +kernel
set_option maxRecDepth 100000 in
theorem okw_22 : mCw mM_22 ∈ gF := List.mem_of_getElem? (i := 417) rfl
theorem oka_23 : (mCd mM_23).all (chkA mM_23) = true := by decide +kernel
theorem okh_23 : (mHd mM_23).all (chkH mM_23) = true := by decide +kernel
theorem okm_23 : chkM mM_23 = true := by decide +kernel
set_option maxRecDepth 100000 in
theorem okw_23 : mCw mM_23 ∈ gF := List.mem_of_getElem? (i := 84) rfl
theorem oka_24 : (mCd mM_24).all (chkA mM_24) = true := by decide +kernel
theorem okh_24 : (mHd mM_24).all (chkH mM_24) = true := by decide +kernel
theorem okm_24 : chkM mM_24 = true := by decide +kernel
set_option maxRecDepth 100000 in
theorem okw_24 : mCw mM_24 ∈ gF := List.mem_of_getElem? (i := 572) rfl
theorem oka_25 : (mCd mM_25).all (chkA mM_25) = true := by decide +kernel
theorem okh_25 : (mHd mM_25).all (chkH mM_25) = true := by decide +kernel
theorem okm_25 : chkM mM_25 = true := by decide +kernel
set_option maxRecDepth 100000 in
theorem okw_25 : mCw mM_25 ∈ gF := List.mem_of_getElem? (i := 600) rfl
theorem oka_26_0 : ((mc_26.drop 0).take 40).all (chkA mM_26) = true := by decide +kernel
theorem oka_26_40 : ((mc_26.drop 40).take 40).all (chkA mM_26) = true := by decide +kernel
theorem oka_26 : (mCd mM_26).all (chkA mM_26) = true := all_cut 40 [0, 40] (by decide +kernel) (by
  intro c hc
  simp only [List.mem_cons, List.not_mem_nil, or_false] at hc
  rcases hc with rfl | rfl
  · exact oka_26_0
  · exact oka_26_40)
theorem okh_26 : (mHd mM_26).all (chkH mM_26) = true := by decide +kernel
theorem okm_26 : chkM mM_26 = true := by decide +kernel
set_option maxRecDepth 100000 in
theorem okw_26 : mCw mM_26 ∈ gF := List.mem_of_getElem? (i := 551) rfl
theorem oka_27 : (mCd mM_27).all (chkA mM_27) = true := by decide +kernel
theorem okh_27 : (mHd mM_27).all (chkH mM_27) = true := by decide +kernel
theorem okm_27 : chkM mM_27 = true := by decide +kernel
set_option maxRecDepth 100000 in
theorem okw_27 : mCw mM_27 ∈ gF := List.mem_of_getElem? (i := 563) rfl
theorem oka_28 : (mCd mM_28).all (chkA mM_28) = true := by decide +kernel
theorem okh_28 : (mHd mM_28).all (chkH mM_28) = true := by decide +kernel
theorem okm_28 : chkM mM_28 = true := by decide +kernel
set_option maxRecDepth 100000 in
theorem okw_28 : mCw mM_28 ∈ gF := List.mem_of_getElem? (i := 168) rfl
theorem oka_29 : (mCd mM_29).all (chkA mM_29) = true := by decide +kernel
theorem okh_29 : (mHd mM_29).all (chkH mM_29) = true := by decide +kernel
theorem okm_29 : chkM mM_29 = true := by decide +kernel
set_option maxRecDepth 100000 in
theorem okw_29 : mCw mM_29 ∈ gF := List.mem_of_getElem? (i := 882) rfl
theorem oka_30 : (mCd mM_30).all (chkA mM_30) = true := by decide +kernel
theorem okh_30 : (mHd mM_30).all (chkH mM_30) = true := by decide +kernel
theorem okm_30 : chkM mM_30 = true := by decide +kernel
set_option maxRecDepth 100000 in
theorem okw_30 : mCw mM_30 ∈ gF := List.mem_of_getElem? (i := 886) rfl
theorem oka_31 : (mCd mM_31).all (chkA mM_31) = true := by decide +kernel
theorem okh_31 : (mHd mM_31).all (chkH mM_31) = true := by decide +kernel
theorem okm_31 : chkM mM_31 = true := by decide +kernel
set_option maxRecDepth 100000 in
theorem okw_31 : mCw mM_31 ∈ gF := List.mem_of_getElem? (i := 589) rfl
theorem oka_32 : (mCd mM_32).all (chkA mM_32) = true := by decide +kernel
theorem okh_32 : (mHd mM_32).all (chkH mM_32) = true := by decide +kernel
theorem okm_32 : chkM mM_32 = true := by decide +kernel
set_option maxRecDepth 100000 in
theorem okw_32 : mCw mM_32 ∈ gF := List.mem_of_getElem? (i := 889) rfl
theorem oka_33 : (mCd mM_33).all (chkA mM_33) = true := by decide +kernel
theorem okh_33 : (mHd mM_33).all (chkH mM_33) = true := by decide +kernel
theorem okm_33 : chkM mM_33 = true := by decide +kernel
set_option maxRecDepth 100000 in
theorem okw_33 : mCw mM_33 ∈ gF := List.mem_of_getElem? (i := 838) rfl
theorem oka_34 : (mCd mM_34).all (chkA mM_34) = true := by decide +kernel
theorem okh_34 : (mHd mM_34).all (chkH mM_34) = true := by decide +kernel
theorem okm_34 : chkM mM_34 = true := by decide +kernel
set_option maxRecDepth 100000 in
theorem okw_34 : mCw mM_34 ∈ gF := List.mem_of_getElem? (i := 568) rfl
theorem oka_35_0 : ((mc_35.drop 0).take 40).all (chkA mM_35) = true := by decide +kernel
theorem oka_35_40 : ((mc_35.drop 40).take 40).all (chkA mM_35) = true := by decide +kernel
theorem oka_35_80 : ((mc_35.drop 80).take 40).all (chkA mM_35) = true := by decide +kernel
theorem oka_35 : (mCd mM_35).all (chkA mM_35) = true := all_cut 40 [0, 40, 80] (by decide +kernel) (by
  intro c hc
  simp only [List.mem_cons, List.not_mem_nil, or_false] at hc
  rcases hc with rfl | rfl | rfl
  · exact oka_35_0
  · exact oka_35_40
  · exact oka_35_80)
theorem okh_35 : (mHd mM_35).all (chkH mM_35) = true := by decide +kernel
theorem okm_35 : chkM mM_35 = true := by decide +kernel
set_option maxRecDepth 100000 in
theorem okw_35 : mCw mM_35 ∈ gF := List.mem_of_getElem? (i := 596) rfl
theorem oka_36_0 : ((mc_36.drop 0).take 40).all (chkA mM_36) = true := by decide +kernel
theorem oka_36_40 : ((mc_36.drop 40).take 40).all (chkA mM_36) = true := by decide +kernel
theorem oka_36_80 : ((mc_36.drop 80).take 40).all (chkA mM_36) = true := by decide +kernel
theorem oka_36 : (mCd mM_36).all (chkA mM_36) = true := all_cut 40 [0, 40, 80] (by decide +kernel) (by
  intro c hc
  simp only [List.mem_cons, List.not_mem_nil, or_false] at hc
  rcases hc with rfl | rfl | rfl
  · exact oka_36_0
  · exact oka_36_40
  · exact oka_36_80)
theorem okh_36 : (mHd mM_36).all (chkH mM_36) = true := by decide +kernel
theorem okm_36 : chkM mM_36 = true := by decide +kernel
set_option maxRecDepth 100000 in
theorem okw_36 : mCw mM_36 ∈ gF := List.mem_of_getElem? (i := 555) rfl
theorem oka_37 : (mCd mM_37).all (chkA mM_37) = true := by decide +kernel
theorem okh_37 : (mHd mM_37).all (chkH mM_37) = true := by decide +kernel
theorem okm_37 : chkM mM_37 = true := by decide +kernel
set_option maxRecDepth 100000 in
theorem okw_37 : mCw mM_37 ∈ gF := List.mem_of_getElem? (i := 667) rfl
theorem oka_38 : (mCd mM_38).all (chkA mM_38) = true := by decide +kernel
theorem okh_38 : (mHd mM_38).all (chkH mM_38) = true := by decide +kernel
theorem okm_38 : chkM mM_38 = true := by decide +kernel
set_option maxRecDepth 100000 in
theorem okw_38 : mCw mM_38 ∈ gF := List.mem_of_getElem? (i := 801) rfl
theorem oka_39 : (mCd mM_39).all (chkA mM_39) = true := by decide +kernel
theorem okh_39 : (mHd mM_39).all (chkH mM_39) = true := by decide +kernel
theorem okm_39 : chkM mM_39 = true := by decide +kernel
set_option maxRecDepth 100000 in
theorem okw_39 : mCw mM_39 ∈ gF := List.mem_of_getElem? (i := 460) rfl
theorem oka_40 : (mCd mM_40).all (chkA mM_40) = true := by decide +kernel
theorem okh_40 : (mHd mM_40).all (chkH mM_40) = true := by decide +kernel
theorem okm_40 : chkM mM_40 = true := by decide +kernel
set_option maxRecDepth 100000 in
theorem okw_40 : mCw mM_40 ∈ gF := List.mem_of_getElem? (i := 536) rfl
theorem oka_41 : (mCd mM_41).all (chkA mM_41) = true := by decide +kernel
theorem okh_41 : (mHd mM_41).all (chkH mM_41) = true := by decide +kernel
theorem okm_41 : chkM mM_41 = true := by decide +kernel
set_option maxRecDepth 100000 in
theorem okw_41 : mCw mM_41 ∈ gF := List.mem_of_getElem? (i := 848) rfl
theorem oka_42 : (mCd mM_42).all (chkA mM_42) = true := by decide +kernel
theorem okh_42 : (mHd mM_42).all (chkH mM_42) = true := by decide +kernel
theorem okm_42 : chkM mM_42 = true := by decide +kernel
set_option maxRecDepth 100000 in
theorem okw_42 : mCw mM_42 ∈ gF := List.mem_of_getElem? (i := 378) rfl
theorem oka_43 : (mCd mM_43).all (chkA mM_43) = true := by decide +kernel
theorem okh_43 : (mHd mM_43).all (chkH mM_43) = true := by decide +kernel
theorem okm_43 : chkM mM_43 = true := by decide +kernel
set_option maxRecDepth 100000 in
theorem okw_43 : mCw mM_43 ∈ gF := List.mem_of_getElem? (i := 435) rfl
theorem oka_44 : (mCd mM_44).all (chkA mM_44) = true := by decide +kernel
theorem okh_44 : (mHd mM_44).all (chkH mM_44) = true := by decide +kernel
theorem okm_44 : chkM mM_44 = true := by decide +kernel
set_option maxRecDepth 100000 in
theorem okw_44 : mCw mM_44 ∈ gF := List.mem_of_getElem? (i := 810) rfl
theorem oka_45 : (mCd mM_45).all (chkA mM_45) = true := by decide +kernel
theorem okh_45 : (mHd mM_45).all (chkH mM_45) = true := by decide +kernel
theorem okm_45 : chkM mM_45 = true := by decide +kernel
set_option maxRecDepth 100000 in
theorem okw_45 : mCw mM_45 ∈ gF := List.mem_of_getElem? (i := 402) rfl
theorem oka_46 : (mCd mM_46).all (chkA mM_46) = true := by decide +kernel
theorem okh_46 : (mHd mM_46).all (chkH mM_46) = true := by decide +kernel
theorem okm_46 : chkM mM_46 = true := by decide +kernel
set_option maxRecDepth 100000 in
theorem okw_46 : mCw mM_46 ∈ gF := List.mem_of_getElem? (i := 834) rfl
theorem oka_47_0 : ((mc_47.drop 0).take 40).all (chkA mM_47) = true := by decide +kernel
theorem oka_47_40 : ((mc_47.drop 40).take 40).all (chkA mM_47) = true := by decide +kernel
theorem oka_47 : (mCd mM_47).all (chkA mM_47) = true := all_cut 40 [0, 40] (by decide +kernel) (by
  intro c hc
  simp only [List.mem_cons, List.not_mem_nil, or_false] at hc
  rcases hc with rfl | rfl
  · exact oka_47_0
  · exact oka_47_40)
theorem okh_47 : (mHd mM_47).all (chkH mM_47) = true := by decide +kernel
theorem okm_47 : chkM mM_47 = true := by decide +kernel
set_option maxRecDepth 100000 in
theorem okw_47 : mCw mM_47 ∈ gF := List.mem_of_getElem? (i := 7) rfl
theorem oka_48 : (mCd mM_48).all (chkA mM_48) = true := by decide +kernel
theorem okh_48 : (mHd mM_48).all (chkH mM_48) = true := by decide +kernel
theorem okm_48 : chkM mM_48 = true := by decide +kernel
set_option maxRecDepth 100000 in
theorem okw_48 : mCw mM_48 ∈ gF := List.mem_of_getElem? (i := 690) rfl
theorem oka_49 : (mCd mM_49).all (chkA mM_49) = true := by decide +kernel
theorem okh_49 : (mHd mM_49).all (chkH mM_49) = true := by decide +kernel
theorem okm_49 : chkM mM_49 = true := by decide +kernel
set_option maxRecDepth 100000 in
theorem okw_49 : mCw mM_49 ∈ gF := List.mem_of_getElem? (i := 341) rfl
theorem oka_50 : (mCd mM_50).all (chkA mM_50) = true := by decide +kernel
theorem okh_50 : (mHd mM_50).all (chkH mM_50) = true := by decide +kernel
theorem okm_50 : chkM mM_50 = true := by decide +kernel
set_option maxRecDepth 100000 in
theorem okw_50 : mCw mM_50 ∈ gF := List.mem_of_getElem? (i := 824) rfl
theorem oka_51 : (mCd mM_51).all (chkA mM_51) = true := by decide +kernel
theorem okh_51 : (mHd mM_51).all (chkH mM_51) = true := by decide +kernel
theorem okm_51 : chkM mM_51 = true := by decide +kernel
set_option maxRecDepth 100000 in
theorem okw_51 : mCw mM_51 ∈ gF := List.mem_of_getElem? (i := 424) rfl
theorem oka_52 : (mCd mM_52).all (chkA mM_52) = true := by decide +kernel
theorem okh_52 : (mHd mM_52).all (chkH mM_52) = true := by decide +kernel
theorem okm_52 : chkM mM_52 = true := by decide +kernel
set_option maxRecDepth 100000 in
theorem okw_52 : mCw mM_52 ∈ gF := List.mem_of_getElem? (i := 715) rfl
theorem oka_53 : (mCd mM_53).all (chkA mM_53) = true := by decide +kernel
theorem okh_53 : (mHd mM_53).all (chkH mM_53) = true := by decide +kernel
theorem okm_53 : chkM mM_53 = true := by decide +kernel
set_option maxRecDepth 100000 in
theorem okw_53 : mCw mM_53 ∈ gF := List.mem_of_getElem? (i := 787) rfl
theorem oka_54 : (mCd mM_54).all (chkA mM_54) = true := by decide +kernel
theorem okh_54 : (mHd mM_54).all (chkH mM_54) = true := by decide +kernel
theorem okm_54 : chkM mM_54 = true := by decide +kernel
set_option maxRecDepth 100000 in
theorem okw_54 : mCw mM_54 ∈ gF := List.mem_of_getElem? (i := 607) rfl
theorem oka_55 : (mCd mM_55).all (chkA mM_55) = true := by decide +kernel
theorem okh_55 : (mHd mM_55).all (chkH mM_55) = true := by decide +kernel
theorem okm_55 : chkM mM_55 = true := by decide +kernel
set_option maxRecDepth 100000 in
theorem okw_55 : mCw mM_55 ∈ gF := List.mem_of_getElem? (i := 208) rfl
theorem oka_56 : (mCd mM_56).all (chkA mM_56) = true := by decide +kernel
theorem okh_56 : (mHd mM_56).all (chkH mM_56) = true := by decide +kernel
theorem okm_56 : chkM mM_56 = true := by decide +kernel
set_option maxRecDepth 100000 in
theorem okw_56 : mCw mM_56 ∈ gF := List.mem_of_getElem? (i := 394) rfl
theorem oka_57 : (mCd mM_57).all (chkA mM_57) = true := by decide +kernel
theorem okh_57 : (mHd mM_57).all (chkH mM_57) = true := by decide +kernel
theorem okm_57 : chkM mM_57 = true := by decide +kernel
set_option maxRecDepth 100000 in
theorem okw_57 : mCw mM_57 ∈ gF := List.mem_of_getElem? (i := 702) rfl
theorem oka_58 : (mCd mM_58).all (chkA mM_58) = true := by decide +kernel
theorem okh_58 : (mHd mM_58).all (chkH mM_58) = true := by decide +kernel
theorem okm_58 : chkM mM_58 = true := by decide +kernel
set_option maxRecDepth 100000 in
theorem okw_58 : mCw mM_58 ∈ gF := List.mem_of_getElem? (i := 214) rfl
theorem oka_59 : (mCd mM_59).all (chkA mM_59) = true := by decide +kernel
theorem okh_59 : (mHd mM_59).all (chkH mM_59) = true := by decide +kernel
theorem okm_59 : chkM mM_59 = true := by decide +kernel
set_option maxRecDepth 100000 in
theorem okw_59 : mCw mM_59 ∈ gF := List.mem_of_getElem? (i := 705) rfl
theorem oka_60 : (mCd mM_60).all (chkA mM_60) = true := by decide +kernel
theorem okh_60 : (mHd mM_60).all (chkH mM_60) = true := by decide +kernel
theorem okm_60 : chkM mM_60 = true := by decide +kernel
set_option maxRecDepth 100000 in
theorem okw_60 : mCw mM_60 ∈ gF := List.mem_of_getElem? (i := 463) rfl
theorem oka_61 : (mCd mM_61).all (chkA mM_61) = true := by decide +kernel
theorem okh_61 : (mHd mM_61).all (chkH mM_61) = true := by decide +kernel
theorem okm_61 : chkM mM_61 = true := by decide +kernel
set_option maxRecDepth 100000 in
theorem okw_61 : mCw mM_61 ∈ gF := List.mem_of_getElem? (i := 814) rfl
theorem oka_62 : (mCd mM_62).all (chkA mM_62) = true := by decide +kernel
theorem okh_62 : (mHd mM_62).all (chkH mM_62) = true := by decide +kernel
theorem okm_62 : chkM mM_62 = true := by decide +kernel
set_option maxRecDepth 100000 in
theorem okw_62 : mCw mM_62 ∈ gF := List.mem_of_getElem? (i := 611) rfl
theorem oka_63 : (mCd mM_63).all (chkA mM_63) = true := by decide +kernel
theorem okh_63 : (mHd mM_63).all (chkH mM_63) = true := by decide +kernel
theorem okm_63 : chkM mM_63 = true := by decide +kernel
set_option maxRecDepth 100000 in
theorem okw_63 : mCw mM_63 ∈ gF := List.mem_of_getElem? (i := 723) rfl
theorem oka_64 : (mCd mM_64).all (chkA mM_64) = true := by decide +kernel
theorem okh_64 : (mHd mM_64).all (chkH mM_64) = true := by decide +kernel
theorem okm_64 : chkM mM_64 = true := by decide +kernel
set_option maxRecDepth 100000 in
theorem okw_64 : mCw mM_64 ∈ gF := List.mem_of_getElem? (i := 859) rfl
theorem oka_65 : (mCd mM_65).all (chkA mM_65) = true := by decide +kernel
theorem okh_65 : (mHd mM_65).all (chkH mM_65) = true := by decide +kernel
theorem okm_65 : chkM mM_65 = true := by decide +kernel
set_option maxRecDepth 100000 in
theorem okw_65 : mCw mM_65 ∈ gF := List.mem_of_getElem? (i := 738) rfl
theorem oka_66 : (mCd mM_66).all (chkA mM_66) = true := by decide +kernel
theorem okh_66 : (mHd mM_66).all (chkH mM_66) = true := by decide +kernel
theorem okm_66 : chkM mM_66 = true := by decide +kernel
set_option maxRecDepth 100000 in
theorem okw_66 : mCw mM_66 ∈ gF := List.mem_of_getElem? (i := 446) rfl
theorem oka_67 : (mCd mM_67).all (chkA mM_67) = true := by decide +kernel
theorem okh_67 : (mHd mM_67).all (chkH mM_67) = true := by decide +kernel
theorem okm_67 : chkM mM_67 = true := by decide +kernel
set_option maxRecDepth 100000 in
theorem okw_67 : mCw mM_67 ∈ gF := List.mem_of_getElem? (i := 331) rfl
theorem oka_68 : (mCd mM_68).all (chkA mM_68) = true := by decide +kernel
theorem okh_68 : (mHd mM_68).all (chkH mM_68) = true := by decide +kernel
theorem okm_68 : chkM mM_68 = true := by decide +kernel
set_option maxRecDepth 100000 in
theorem okw_68 : mCw mM_68 ∈ gF := List.mem_of_getElem? (i := 413) rfl
theorem oka_69 : (mCd mM_69).all (chkA mM_69) = true := by decide +kernel
theorem okh_69 : (mHd mM_69).all (chkH mM_69) = true := by decide +kernel
theorem okm_69 : chkM mM_69 = true := by decide +kernel
set_option maxRecDepth 100000 in
theorem okw_69 : mCw mM_69 ∈ gF := List.mem_of_getElem? (i := 547) rfl
theorem oka_70 : (mCd mM_70).all (chkA mM_70) = true := by decide +kernel
theorem okh_70 : (mHd mM_70).all (chkH mM_70) = true := by decide +kernel
theorem okm_70 : chkM mM_70 = true := by decide +kernel
set_option maxRecDepth 100000 in
theorem okw_70 : mCw mM_70 ∈ gF := List.mem_of_getElem? (i := 95) rfl
theorem oka_71 : (mCd mM_71).all (chkA mM_71) = true := by decide +kernel
theorem okh_71 : (mHd mM_71).all (chkH mM_71) = true := by decide +kernel
theorem okm_71 : chkM mM_71 = true := by decide +kernel
set_option maxRecDepth 100000 in
theorem okw_71 : mCw mM_71 ∈ gF := List.mem_of_getElem? (i := 638) rfl
theorem oka_72 : (mCd mM_72).all (chkA mM_72) = true := by decide +kernel
theorem okh_72 : (mHd mM_72).all (chkH mM_72) = true := by decide +kernel
theorem okm_72 : chkM mM_72 = true := by decide +kernel
set_option maxRecDepth 100000 in
theorem okw_72 : mCw mM_72 ∈ gF := List.mem_of_getElem? (i := 130) rfl
theorem oka_73 : (mCd mM_73).all (chkA mM_73) = true := by decide +kernel
theorem okh_73 : (mHd mM_73).all (chkH mM_73) = true := by decide +kernel
theorem okm_73 : chkM mM_73 = true := by decide +kernel
set_option maxRecDepth 100000 in
theorem okw_73 : mCw mM_73 ∈ gF := List.mem_of_getElem? (i := 264) rfl
theorem oka_74 : (mCd mM_74).all (chkA mM_74) = true := by decide +kernel
theorem okh_74 : (mHd mM_74).all (chkH mM_74) = true := by decide +kernel
theorem okm_74 : chkM mM_74 = true := by decide +kernel
set_option maxRecDepth 100000 in
theorem okw_74 : mCw mM_74 ∈ gF := List.mem_of_getElem? (i := 244) rfl
theorem oka_75 : (mCd mM_75).all (chkA mM_75) = true := by decide +kernel
theorem okh_75 : (mHd mM_75).all (chkH mM_75) = true := by decide +kernel
theorem okm_75 : chkM mM_75 = true := by decide +kernel
set_option maxRecDepth 100000 in
theorem okw_75 : mCw mM_75 ∈ gF := List.mem_of_getElem? (i := 241) rfl
theorem oka_76 : (mCd mM_76).all (chkA mM_76) = true := by decide +kernel
theorem okh_76 : (mHd mM_76).all (chkH mM_76) = true := by decide +kernel
theorem okm_76 : chkM mM_76 = true := by decide +kernel
set_option maxRecDepth 100000 in
theorem okw_76 : mCw mM_76 ∈ gF := List.mem_of_getElem? (i := 267) rfl
theorem oka_77 : (mCd mM_77).all (chkA mM_77) = true := by decide +kernel
theorem okh_77 : (mHd mM_77).all (chkH mM_77) = true := by decide +kernel
theorem okm_77 : chkM mM_77 = true := by decide +kernel
set_option maxRecDepth 100000 in
theorem okw_77 : mCw mM_77 ∈ gF := List.mem_of_getElem? (i := 112) rfl
theorem oka_78 : (mCd mM_78).all (chkA mM_78) = true := by decide +kernel
theorem okh_78 : (mHd mM_78).all (chkH mM_78) = true := by decide +kernel
theorem okm_78 : chkM mM_78 = true := by decide +kernel
set_option maxRecDepth 100000 in
theorem okw_78 : mCw mM_78 ∈ gF := List.mem_of_getElem? (i := 518) rfl
theorem oka_79 : (mCd mM_79).all (chkA mM_79) = true := by decide +kernel
theorem okh_79 : (mHd mM_79).all (chkH mM_79) = true := by decide +kernel
theorem okm_79 : chkM mM_79 = true := by decide +kernel
set_option maxRecDepth 100000 in
theorem okw_79 : mCw mM_79 ∈ gF := List.mem_of_getElem? (i := 63) rfl
theorem oka_80 : (mCd mM_80).all (chkA mM_80) = true := by decide +kernel
theorem okh_80 : (mHd mM_80).all (chkH mM_80) = true := by decide +kernel
theorem okm_80 : chkM mM_80 = true := by decide +kernel
set_option maxRecDepth 100000 in
theorem okw_80 : mCw mM_80 ∈ gF := List.mem_of_getElem? (i := 67) rfl
theorem oka_81 : (mCd mM_81).all (chkA mM_81) = true := by decide +kernel
theorem okh_81 : (mHd mM_81).all (chkH mM_81) = true := by decide +kernel
theorem okm_81 : chkM mM_81 = true := by decide +kernel
set_option maxRecDepth 100000 in
theorem okw_81 : mCw mM_81 ∈ gF := List.mem_of_getElem? (i := 127) rfl
theorem oka_82 : (mCd mM_82).all (chkA mM_82) = true := by decide +kernel
theorem okh_82 : (mHd mM_82).all (chkH mM_82) = true := by decide +kernel
theorem okm_82 : chkM mM_82 = true := by decide +kernel
set_option maxRecDepth 100000 in
theorem okw_82 : mCw mM_82 ∈ gF := List.mem_of_getElem? (i := 261) rfl
theorem oka_83 : (mCd mM_83).all (chkA mM_83) = true := by decide +kernel
theorem okh_83 : (mHd mM_83).all (chkH mM_83) = true := by decide +kernel
theorem okm_83 : chkM mM_83 = true := by decide +kernel
set_option maxRecDepth 100000 in
theorem okw_83 : mCw mM_83 ∈ gF := List.mem_of_getElem? (i := 307) rfl
theorem oka_84 : (mCd mM_84).all (chkA mM_84) = true := by decide +kernel
theorem okh_84 : (mHd mM_84).all (chkH mM_84) = true := by decide +kernel
theorem okm_84 : chkM mM_84 = true := by decide +kernel
set_option maxRecDepth 100000 in
theorem okw_84 : mCw mM_84 ∈ gF := List.mem_of_getElem? (i := 303) rfl
theorem oka_85 : (mCd mM_85).all (chkA mM_85) = true := by decide +kernel
theorem okh_85 : (mHd mM_85).all (chkH mM_85) = true := by decide +kernel
theorem okm_85 : chkM mM_85 = true := by decide +kernel
set_option maxRecDepth 100000 in
theorem okw_85 : mCw mM_85 ∈ gF := List.mem_of_getElem? (i := 295) rfl
theorem oka_86 : (mCd mM_86).all (chkA mM_86) = true := by decide +kernel
theorem okh_86 : (mHd mM_86).all (chkH mM_86) = true := by decide +kernel
theorem okm_86 : chkM mM_86 = true := by decide +kernel
set_option maxRecDepth 100000 in
theorem okw_86 : mCw mM_86 ∈ gF := List.mem_of_getElem? (i := 106) rfl
theorem oka_87 : (mCd mM_87).all (chkA mM_87) = true := by decide +kernel
theorem okh_87 : (mHd mM_87).all (chkH mM_87) = true := by decide +kernel
theorem okm_87 : chkM mM_87 = true := by decide +kernel
set_option maxRecDepth 100000 in
theorem okw_87 : mCw mM_87 ∈ gF := List.mem_of_getElem? (i := 109) rfl
theorem oka_88 : (mCd mM_88).all (chkA mM_88) = true := by decide +kernel
theorem okh_88 : (mHd mM_88).all (chkH mM_88) = true := by decide +kernel
theorem okm_88 : chkM mM_88 = true := by decide +kernel
set_option maxRecDepth 100000 in
theorem okw_88 : mCw mM_88 ∈ gF := List.mem_of_getElem? (i := 767) rfl
theorem oka_89 : (mCd mM_89).all (chkA mM_89) = true := by decide +kernel
theorem okh_89 : (mHd mM_89).all (chkH mM_89) = true := by decide +kernel
theorem okm_89 : chkM mM_89 = true := by decide +kernel
set_option maxRecDepth 100000 in
theorem okw_89 : mCw mM_89 ∈ gF := List.mem_of_getElem? (i := 751) rfl
theorem oka_90 : (mCd mM_90).all (chkA mM_90) = true := by decide +kernel
theorem okh_90 : (mHd mM_90).all (chkH mM_90) = true := by decide +kernel
theorem okm_90 : chkM mM_90 = true := by decide +kernel
set_option maxRecDepth 100000 in
theorem okw_90 : mCw mM_90 ∈ gF := List.mem_of_getElem? (i := 791) rfl
theorem oka_91 : (mCd mM_91).all (chkA mM_91) = true := by decide +kernel
theorem okh_91 : (mHd mM_91).all (chkH mM_91) = true := by decide +kernel
theorem okm_91 : chkM mM_91 = true := by decide +kernel
set_option maxRecDepth 100000 in
theorem okw_91 : mCw mM_91 ∈ gF := List.mem_of_getElem? (i := 186) rfl
theorem oka_92 : (mCd mM_92).all (chkA mM_92) = true := by decide +kernel
theorem okh_92 : (mHd mM_92).all (chkH mM_92) = true := by decide +kernel
theorem okm_92 : chkM mM_92 = true := by decide +kernel
set_option maxRecDepth 100000 in
theorem okw_92 : mCw mM_92 ∈ gF := List.mem_of_getElem? (i := 746) rfl
theorem oka_93 : (mCd mM_93).all (chkA mM_93) = true := by decide +kernel
theorem okh_93 : (mHd mM_93).all (chkH mM_93) = true := by decide +kernel
theorem okm_93 : chkM mM_93 = true := by decide +kernel
set_option maxRecDepth 100000 in
theorem okw_93 : mCw mM_93 ∈ gF := List.mem_of_getElem? (i := 771) rfl
theorem oka_94 : (mCd mM_94).all (chkA mM_94) = true := by decide +kernel
theorem okh_94 : (mHd mM_94).all (chkH mM_94) = true := by decide +kernel
theorem okm_94 : chkM mM_94 = true := by decide +kernel
set_option maxRecDepth 100000 in
theorem okw_94 : mCw mM_94 ∈ gF := List.mem_of_getElem? (i := 760) rfl
theorem oka_95 : (mCd mM_95).all (chkA mM_95) = true := by decide +kernel
theorem okh_95 : (mHd mM_95).all (chkH mM_95) = true := by decide +kernel
theorem okm_95 : chkM mM_95 = true := by decide +kernel
set_option maxRecDepth 100000 in
theorem okw_95 : mCw mM_95 ∈ gF := List.mem_of_getElem? (i := 756) rfl
theorem oka_96 : (mCd mM_96).all (chkA mM_96) = true := by decide +kernel
theorem okh_96 : (mHd mM_96).all (chkH mM_96) = true := by decide +kernel
theorem okm_96 : chkM mM_96 = true := by decide +kernel
set_option maxRecDepth 100000 in
theorem okw_96 : mCw mM_96 ∈ gF := List.mem_of_getElem? (i := 779) rfl
theorem oka_97_0 : ((mc_97.drop 0).take 40).all (chkA mM_97) = true := by decide +kernel
theorem oka_97_40 : ((mc_97.drop 40).take 40).all (chkA mM_97) = true := by decide +kernel
theorem oka_97 : (mCd mM_97).all (chkA mM_97) = true := all_cut 40 [0, 40] (by decide +kernel) (by
  intro c hc
  simp only [List.mem_cons, List.not_mem_nil, or_false] at hc
  rcases hc with rfl | rfl
  · exact oka_97_0
  · exact oka_97_40)
theorem okh_97 : (mHd mM_97).all (chkH mM_97) = true := by decide +kernel
theorem okm_97 : chkM mM_97 = true := by decide +kernel
set_option maxRecDepth 100000 in
theorem okw_97 : mCw mM_97 ∈ gF := List.mem_of_getElem? (i := 742) rfl
theorem oka_98 : (mCd mM_98).all (chkA mM_98) = true := by decide +kernel
theorem okh_98 : (mHd mM_98).all (chkH mM_98) = true := by decide +kernel
theorem okm_98 : chkM mM_98 = true := by decide +kernel
set_option maxRecDepth 100000 in
theorem okw_98 : mCw mM_98 ∈ gF := List.mem_of_getElem? (i := 450) rfl
theorem oka_99 : (mCd mM_99).all (chkA mM_99) = true := by decide +kernel
theorem okh_99 : (mHd mM_99).all (chkH mM_99) = true := by decide +kernel
theorem okm_99 : chkM mM_99 = true := by decide +kernel
set_option maxRecDepth 100000 in
theorem okw_99 : mCw mM_99 ∈ gF := List.mem_of_getElem? (i := 764) rfl
theorem oka_100 : (mCd mM_100).all (chkA mM_100) = true := by decide +kernel
theorem okh_100 : (mHd mM_100).all (chkH mM_100) = true := by decide +kernel
theorem okm_100 : chkM mM_100 = true := by decide +kernel
set_option maxRecDepth 100000 in
theorem okw_100 : mCw mM_100 ∈ gF := List.mem_of_getElem? (i := 386) rfl
theorem oka_101_0 : ((mc_101.drop 0).take 40).all (chkA mM_101) = true := by decide +kernel
theorem oka_101_40 : ((mc_101.drop 40).take 40).all (chkA mM_101) = true := by decide +kernel
theorem oka_101 : (mCd mM_101).all (chkA mM_101) = true := all_cut 40 [0, 40] (by decide +kernel) (by
  intro c hc
  simp only [List.mem_cons, List.not_mem_nil, or_false] at hc
  rcases hc with rfl | rfl
  · exact oka_101_0
  · exact oka_101_40)
theorem okh_101 : (mHd mM_101).all (chkH mM_101) = true := by decide +kernel
theorem okm_101 : chkM mM_101 = true := by decide +kernel
set_option maxRecDepth 100000 in
theorem okw_101 : mCw mM_101 ∈ gF := List.mem_of_getElem? (i := 357) rfl
theorem oka_102 : (mCd mM_102).all (chkA mM_102) = true := by decide +kernel
theorem okh_102 : (mHd mM_102).all (chkH mM_102) = true := by decide +kernel
theorem okm_102 : chkM mM_102 = true := by decide +kernel
set_option maxRecDepth 100000 in
theorem okw_102 : mCw mM_102 ∈ gF := List.mem_of_getElem? (i := 406) rfl
theorem oka_103 : (mCd mM_103).all (chkA mM_103) = true := by decide +kernel
theorem okh_103 : (mHd mM_103).all (chkH mM_103) = true := by decide +kernel
theorem okm_103 : chkM mM_103 = true := by decide +kernel
set_option maxRecDepth 100000 in
theorem okw_103 : mCw mM_103 ∈ gF := List.mem_of_getElem? (i := 382) rfl
theorem oka_104 : (mCd mM_104).all (chkA mM_104) = true := by decide +kernel
theorem okh_104 : (mHd mM_104).all (chkH mM_104) = true := by decide +kernel
theorem okm_104 : chkM mM_104 = true := by decide +kernel
set_option maxRecDepth 100000 in
theorem okw_104 : mCw mM_104 ∈ gF := List.mem_of_getElem? (i := 195) rfl
theorem oka_105_0 : ((mc_105.drop 0).take 40).all (chkA mM_105) = true := by decide +kernel
theorem oka_105_40 : ((mc_105.drop 40).take 40).all (chkA mM_105) = true := by decide +kernel
theorem oka_105 : (mCd mM_105).all (chkA mM_105) = true := all_cut 40 [0, 40] (by decide +kernel) (by
  intro c hc
  simp only [List.mem_cons, List.not_mem_nil, or_false] at hc
  rcases hc with rfl | rfl
  · exact oka_105_0
  · exact oka_105_40)
theorem okh_105 : (mHd mM_105).all (chkH mM_105) = true := by decide +kernel
theorem okm_105 : chkM mM_105 = true := by decide +kernel
set_option maxRecDepth 100000 in
theorem okw_105 : mCw mM_105 ∈ gF := List.mem_of_getElem? (i := 366) rfl
theorem oka_106 : (mCd mM_106).all (chkA mM_106) = true := by decide +kernel
theorem okh_106 : (mHd mM_106).all (chkH mM_106) = true := by decide +kernel
theorem okm_106 : chkM mM_106 = true := by decide +kernel
set_option maxRecDepth 100000 in
theorem okw_106 : mCw mM_106 ∈ gF := List.mem_of_getElem? (i := 370) rfl
theorem oka_107 : (mCd mM_107).all (chkA mM_107) = true := by decide +kernel
theorem okh_107 : (mHd mM_107).all (chkH mM_107) = true := by decide +kernel
theorem okm_107 : chkM mM_107 = true := by decide +kernel
set_option maxRecDepth 100000 in
theorem okw_107 : mCw mM_107 ∈ gF := List.mem_of_getElem? (i := 362) rfl
theorem oka_108_0 : ((mc_108.drop 0).take 40).all (chkA mM_108) = true := by decide +kernel
theorem oka_108_40 : ((mc_108.drop 40).take 40).all (chkA mM_108) = true := by decide +kernel
theorem oka_108 : (mCd mM_108).all (chkA mM_108) = true := all_cut 40 [0, 40] (by decide +kernel) (by
  intro c hc
  simp only [List.mem_cons, List.not_mem_nil, or_false] at hc
  rcases hc with rfl | rfl
  · exact oka_108_0
  · exact oka_108_40)
theorem okh_108 : (mHd mM_108).all (chkH mM_108) = true := by decide +kernel
theorem okm_108 : chkM mM_108 = true := by decide +kernel
set_option maxRecDepth 100000 in
theorem okw_108 : mCw mM_108 ∈ gF := List.mem_of_getElem? (i := 230) rfl
theorem oka_109 : (mCd mM_109).all (chkA mM_109) = true := by decide +kernel
theorem okh_109 : (mHd mM_109).all (chkH mM_109) = true := by decide +kernel
theorem okm_109 : chkM mM_109 = true := by decide +kernel
set_option maxRecDepth 100000 in
theorem okw_109 : mCw mM_109 ∈ gF := List.mem_of_getElem? (i := 225) rfl
theorem oka_110 : (mCd mM_110).all (chkA mM_110) = true := by decide +kernel
theorem okh_110 : (mHd mM_110).all (chkH mM_110) = true := by decide +kernel
theorem okm_110 : chkM mM_110 = true := by decide +kernel
set_option maxRecDepth 100000 in
theorem okw_110 : mCw mM_110 ∈ gF := List.mem_of_getElem? (i := 524) rfl
theorem oka_111 : (mCd mM_111).all (chkA mM_111) = true := by decide +kernel
theorem okh_111 : (mHd mM_111).all (chkH mM_111) = true := by decide +kernel
theorem okm_111 : chkM mM_111 = true := by decide +kernel
set_option maxRecDepth 100000 in
theorem okw_111 : mCw mM_111 ∈ gF := List.mem_of_getElem? (i := 138) rfl
theorem oka_112 : (mCd mM_112).all (chkA mM_112) = true := by decide +kernel
theorem okh_112 : (mHd mM_112).all (chkH mM_112) = true := by decide +kernel
theorem okm_112 : chkM mM_112 = true := by decide +kernel
set_option maxRecDepth 100000 in
theorem okw_112 : mCw mM_112 ∈ gF := List.mem_of_getElem? (i := 252) rfl
theorem oka_113 : (mCd mM_113).all (chkA mM_113) = true := by decide +kernel
theorem okh_113 : (mHd mM_113).all (chkH mM_113) = true := by decide +kernel
theorem okm_113 : chkM mM_113 = true := by decide +kernel
set_option maxRecDepth 100000 in
theorem okw_113 : mCw mM_113 ∈ gF := List.mem_of_getElem? (i := 439) rfl
theorem oka_114 : (mCd mM_114).all (chkA mM_114) = true := by decide +kernel
theorem okh_114 : (mHd mM_114).all (chkH mM_114) = true := by decide +kernel
theorem okm_114 : chkM mM_114 = true := by decide +kernel
set_option maxRecDepth 100000 in
theorem okw_114 : mCw mM_114 ∈ gF := List.mem_of_getElem? (i := 428) rfl
theorem oka_115 : (mCd mM_115).all (chkA mM_115) = true := by decide +kernel
theorem okh_115 : (mHd mM_115).all (chkH mM_115) = true := by decide +kernel
theorem okm_115 : chkM mM_115 = true := by decide +kernel
set_option maxRecDepth 100000 in
theorem okw_115 : mCw mM_115 ∈ gF := List.mem_of_getElem? (i := 238) rfl
theorem oka_116 : (mCd mM_116).all (chkA mM_116) = true := by decide +kernel
theorem okh_116 : (mHd mM_116).all (chkH mM_116) = true := by decide +kernel
theorem okm_116 : chkM mM_116 = true := by decide +kernel
set_option maxRecDepth 100000 in
theorem okw_116 : mCw mM_116 ∈ gF := List.mem_of_getElem? (i := 477) rfl
theorem oka_117 : (mCd mM_117).all (chkA mM_117) = true := by decide +kernel
theorem okh_117 : (mHd mM_117).all (chkH mM_117) = true := by decide +kernel
theorem okm_117 : chkM mM_117 = true := by decide +kernel
set_option maxRecDepth 100000 in
theorem okw_117 : mCw mM_117 ∈ gF := List.mem_of_getElem? (i := 511) rfl
theorem oka_118 : (mCd mM_118).all (chkA mM_118) = true := by decide +kernel
theorem okh_118 : (mHd mM_118).all (chkH mM_118) = true := by decide +kernel
theorem okm_118 : chkM mM_118 = true := by decide +kernel
set_option maxRecDepth 100000 in
theorem okw_118 : mCw mM_118 ∈ gF := List.mem_of_getElem? (i := 155) rfl
theorem oka_119 : (mCd mM_119).all (chkA mM_119) = true := by decide +kernel
theorem okh_119 : (mHd mM_119).all (chkH mM_119) = true := by decide +kernel
theorem okm_119 : chkM mM_119 = true := by decide +kernel
set_option maxRecDepth 100000 in
theorem okw_119 : mCw mM_119 ∈ gF := List.mem_of_getElem? (i := 495) rfl
theorem oka_120_0 : ((mc_120.drop 0).take 40).all (chkA mM_120) = true := by decide +kernel
theorem oka_120_40 : ((mc_120.drop 40).take 40).all (chkA mM_120) = true := by decide +kernel
theorem oka_120 : (mCd mM_120).all (chkA mM_120) = true := all_cut 40 [0, 40] (by decide +kernel) (by
  intro c hc
  simp only [List.mem_cons, List.not_mem_nil, or_false] at hc
  rcases hc with rfl | rfl
  · exact oka_120_0
  · exact oka_120_40)
theorem okh_120 : (mHd mM_120).all (chkH mM_120) = true := by decide +kernel
theorem okm_120 : chkM mM_120 = true := by decide +kernel
set_option maxRecDepth 100000 in
theorem okw_120 : mCw mM_120 ∈ gF := List.mem_of_getElem? (i := 503) rfl
theorem oka_121 : (mCd mM_121).all (chkA mM_121) = true := by decide +kernel
theorem okh_121 : (mHd mM_121).all (chkH mM_121) = true := by decide +kernel
theorem okm_121 : chkM mM_121 = true := by decide +kernel
set_option maxRecDepth 100000 in
theorem okw_121 : mCw mM_121 ∈ gF := List.mem_of_getElem? (i := 491) rfl
theorem oka_122 : (mCd mM_122).all (chkA mM_122) = true := by decide +kernel
theorem okh_122 : (mHd mM_122).all (chkH mM_122) = true := by decide +kernel
theorem okm_122 : chkM mM_122 = true := by decide +kernel
set_option maxRecDepth 100000 in
theorem okw_122 : mCw mM_122 ∈ gF := List.mem_of_getElem? (i := 507) rfl
theorem oka_123_0 : ((mc_123.drop 0).take 40).all (chkA mM_123) = true := by decide +kernel
theorem oka_123_40 : ((mc_123.drop 40).take 40).all (chkA mM_123) = true := by decide +kernel
theorem oka_123 : (mCd mM_123).all (chkA mM_123) = true := all_cut 40 [0, 40] (by decide +kernel) (by
  intro c hc
  simp only [List.mem_cons, List.not_mem_nil, or_false] at hc
  rcases hc with rfl | rfl
  · exact oka_123_0
  · exact oka_123_40)
theorem okh_123 : (mHd mM_123).all (chkH mM_123) = true := by decide +kernel
theorem okm_123 : chkM mM_123 = true := by decide +kernel
set_option maxRecDepth 100000 in
theorem okw_123 : mCw mM_123 ∈ gF := List.mem_of_getElem? (i := 499) rfl
theorem oka_124 : (mCd mM_124).all (chkA mM_124) = true := by decide +kernel
theorem okh_124 : (mHd mM_124).all (chkH mM_124) = true := by decide +kernel
theorem okm_124 : chkM mM_124 = true := by decide +kernel
set_option maxRecDepth 100000 in
theorem okw_124 : mCw mM_124 ∈ gF := List.mem_of_getElem? (i := 644) rfl
theorem oka_125 : (mCd mM_125).all (chkA mM_125) = true := by decide +kernel
theorem okh_125 : (mHd mM_125).all (chkH mM_125) = true := by decide +kernel
theorem okm_125 : chkM mM_125 = true := by decide +kernel
set_option maxRecDepth 100000 in
theorem okw_125 : mCw mM_125 ∈ gF := List.mem_of_getElem? (i := 678) rfl
theorem oka_126 : (mCd mM_126).all (chkA mM_126) = true := by decide +kernel
theorem okh_126 : (mHd mM_126).all (chkH mM_126) = true := by decide +kernel
theorem okm_126 : chkM mM_126 = true := by decide +kernel
set_option maxRecDepth 100000 in
theorem okw_126 : mCw mM_126 ∈ gF := List.mem_of_getElem? (i := 731) rfl
theorem oka_127 : (mCd mM_127).all (chkA mM_127) = true := by decide +kernel
theorem okh_127 : (mHd mM_127).all (chkH mM_127) = true := by decide +kernel
theorem okm_127 : chkM mM_127 = true := by decide +kernel
set_option maxRecDepth 100000 in
theorem okw_127 : mCw mM_127 ∈ gF := List.mem_of_getElem? (i := 671) rfl
theorem oka_128 : (mCd mM_128).all (chkA mM_128) = true := by decide +kernel
theorem okh_128 : (mHd mM_128).all (chkH mM_128) = true := by decide +kernel
theorem okm_128 : chkM mM_128 = true := by decide +kernel
set_option maxRecDepth 100000 in
theorem okw_128 : mCw mM_128 ∈ gF := List.mem_of_getElem? (i := 220) rfl
theorem oka_129 : (mCd mM_129).all (chkA mM_129) = true := by decide +kernel
theorem okh_129 : (mHd mM_129).all (chkH mM_129) = true := by decide +kernel
theorem okm_129 : chkM mM_129 = true := by decide +kernel
set_option maxRecDepth 100000 in
theorem okw_129 : mCw mM_129 ∈ gF := List.mem_of_getElem? (i := 271) rfl
theorem oka_130 : (mCd mM_130).all (chkA mM_130) = true := by decide +kernel
theorem okh_130 : (mHd mM_130).all (chkH mM_130) = true := by decide +kernel
theorem okm_130 : chkM mM_130 = true := by decide +kernel
set_option maxRecDepth 100000 in
theorem okw_130 : mCw mM_130 ∈ gF := List.mem_of_getElem? (i := 904) rfl
theorem oka_131_0 : ((mc_131.drop 0).take 40).all (chkA mM_131) = true := by decide +kernel
theorem oka_131_40 : ((mc_131.drop 40).take 40).all (chkA mM_131) = true := by decide +kernel
theorem oka_131 : (mCd mM_131).all (chkA mM_131) = true := all_cut 40 [0, 40] (by decide +kernel) (by
  intro c hc
  simp only [List.mem_cons, List.not_mem_nil, or_false] at hc
  rcases hc with rfl | rfl
  · exact oka_131_0
  · exact oka_131_40)
theorem okh_131 : (mHd mM_131).all (chkH mM_131) = true := by decide +kernel
theorem okm_131 : chkM mM_131 = true := by decide +kernel
set_option maxRecDepth 100000 in
theorem okw_131 : mCw mM_131 ∈ gF := List.mem_of_getElem? (i := 648) rfl
theorem oka_132 : (mCd mM_132).all (chkA mM_132) = true := by decide +kernel
theorem okh_132 : (mHd mM_132).all (chkH mM_132) = true := by decide +kernel
theorem okm_132 : chkM mM_132 = true := by decide +kernel
set_option maxRecDepth 100000 in
theorem okw_132 : mCw mM_132 ∈ gF := List.mem_of_getElem? (i := 162) rfl
theorem oka_133 : (mCd mM_133).all (chkA mM_133) = true := by decide +kernel
theorem okh_133 : (mHd mM_133).all (chkH mM_133) = true := by decide +kernel
theorem okm_133 : chkM mM_133 = true := by decide +kernel
set_option maxRecDepth 100000 in
theorem okw_133 : mCw mM_133 ∈ gF := List.mem_of_getElem? (i := 275) rfl
theorem oka_134 : (mCd mM_134).all (chkA mM_134) = true := by decide +kernel
theorem okh_134 : (mHd mM_134).all (chkH mM_134) = true := by decide +kernel
theorem okm_134 : chkM mM_134 = true := by decide +kernel
set_option maxRecDepth 100000 in
theorem okw_134 : mCw mM_134 ∈ gF := List.mem_of_getElem? (i := 634) rfl
theorem oka_135 : (mCd mM_135).all (chkA mM_135) = true := by decide +kernel
theorem okh_135 : (mHd mM_135).all (chkH mM_135) = true := by decide +kernel
theorem okm_135 : chkM mM_135 = true := by decide +kernel
set_option maxRecDepth 100000 in
theorem okw_135 : mCw mM_135 ∈ gF := List.mem_of_getElem? (i := 625) rfl
theorem oka_136 : (mCd mM_136).all (chkA mM_136) = true := by decide +kernel
theorem okh_136 : (mHd mM_136).all (chkH mM_136) = true := by decide +kernel
theorem okm_136 : chkM mM_136 = true := by decide +kernel
set_option maxRecDepth 100000 in
theorem okw_136 : mCw mM_136 ∈ gF := List.mem_of_getElem? (i := 234) rfl
theorem oka_137 : (mCd mM_137).all (chkA mM_137) = true := by decide +kernel
theorem okh_137 : (mHd mM_137).all (chkH mM_137) = true := by decide +kernel
theorem okm_137 : chkM mM_137 = true := by decide +kernel
set_option maxRecDepth 100000 in
theorem okw_137 : mCw mM_137 ∈ gF := List.mem_of_getElem? (i := 248) rfl
theorem oka_138 : (mCd mM_138).all (chkA mM_138) = true := by decide +kernel
theorem okh_138 : (mHd mM_138).all (chkH mM_138) = true := by decide +kernel
theorem okm_138 : chkM mM_138 = true := by decide +kernel
set_option maxRecDepth 100000 in
theorem okw_138 : mCw mM_138 ∈ gF := List.mem_of_getElem? (i := 621) rfl
theorem oka_139 : (mCd mM_139).all (chkA mM_139) = true := by decide +kernel
theorem okh_139 : (mHd mM_139).all (chkH mM_139) = true := by decide +kernel
theorem okm_139 : chkM mM_139 = true := by decide +kernel
set_option maxRecDepth 100000 in
theorem okw_139 : mCw mM_139 ∈ gF := List.mem_of_getElem? (i := 281) rfl
theorem oka_140 : (mCd mM_140).all (chkA mM_140) = true := by decide +kernel
theorem okh_140 : (mHd mM_140).all (chkH mM_140) = true := by decide +kernel
theorem okm_140 : chkM mM_140 = true := by decide +kernel
set_option maxRecDepth 100000 in
theorem okw_140 : mCw mM_140 ∈ gF := List.mem_of_getElem? (i := 727) rfl
theorem oka_141 : (mCd mM_141).all (chkA mM_141) = true := by decide +kernel
theorem okh_141 : (mHd mM_141).all (chkH mM_141) = true := by decide +kernel
theorem okm_141 : chkM mM_141 = true := by decide +kernel
set_option maxRecDepth 100000 in
theorem okw_141 : mCw mM_141 ∈ gF := List.mem_of_getElem? (i := 176) rfl
theorem oka_142_0 : ((mc_142.drop 0).take 40).all (chkA mM_142) = true := by decide +kernel
theorem oka_142_40 : ((mc_142.drop 40).take 40).all (chkA mM_142) = true := by decide +kernel
theorem oka_142 : (mCd mM_142).all (chkA mM_142) = true := all_cut 40 [0, 40] (by decide +kernel) (by
  intro c hc
  simp only [List.mem_cons, List.not_mem_nil, or_false] at hc
  rcases hc with rfl | rfl
  · exact oka_142_0
  · exact oka_142_40)
theorem okh_142 : (mHd mM_142).all (chkH mM_142) = true := by decide +kernel
theorem okm_142 : chkM mM_142 = true := by decide +kernel
set_option maxRecDepth 100000 in
theorem okw_142 : mCw mM_142 ∈ gF := List.mem_of_getElem? (i := 898) rfl
theorem oka_143_0 : ((mc_143.drop 0).take 40).all (chkA mM_143) = true := by decide +kernel
theorem oka_143_40 : ((mc_143.drop 40).take 40).all (chkA mM_143) = true := by decide +kernel
theorem oka_143 : (mCd mM_143).all (chkA mM_143) = true := all_cut 40 [0, 40] (by decide +kernel) (by
  intro c hc
  simp only [List.mem_cons, List.not_mem_nil, or_false] at hc
  rcases hc with rfl | rfl
  · exact oka_143_0
  · exact oka_143_40)
theorem okh_143 : (mHd mM_143).all (chkH mM_143) = true := by decide +kernel
theorem okm_143 : chkM mM_143 = true := by decide +kernel
set_option maxRecDepth 100000 in
theorem okw_143 : mCw mM_143 ∈ gF := List.mem_of_getElem? (i := 870) rfl
theorem oka_144 : (mCd mM_144).all (chkA mM_144) = true := by decide +kernel
theorem okh_144 : (mHd mM_144).all (chkH mM_144) = true := by decide +kernel
theorem okm_144 : chkM mM_144 = true := by decide +kernel
set_option maxRecDepth 100000 in
theorem okw_144 : mCw mM_144 ∈ gF := List.mem_of_getElem? (i := 863) rfl
theorem oka_145_0 : ((mc_145.drop 0).take 40).all (chkA mM_145) = true := by decide +kernel
theorem oka_145_40 : ((mc_145.drop 40).take 40).all (chkA mM_145) = true := by decide +kernel
theorem oka_145 : (mCd mM_145).all (chkA mM_145) = true := all_cut 40 [0, 40] (by decide +kernel) (by
  intro c hc
  simp only [List.mem_cons, List.not_mem_nil, or_false] at hc
  rcases hc with rfl | rfl
  · exact oka_145_0
  · exact oka_145_40)
theorem okh_145 : (mHd mM_145).all (chkH mM_145) = true := by decide +kernel
theorem okm_145 : chkM mM_145 = true := by decide +kernel
set_option maxRecDepth 100000 in
theorem okw_145 : mCw mM_145 ∈ gF := List.mem_of_getElem? (i := 876) rfl
theorem oka_146 : (mCd mM_146).all (chkA mM_146) = true := by decide +kernel
theorem okh_146 : (mHd mM_146).all (chkH mM_146) = true := by decide +kernel
theorem okm_146 : chkM mM_146 = true := by decide +kernel
set_option maxRecDepth 100000 in
theorem okw_146 : mCw mM_146 ∈ gF := List.mem_of_getElem? (i := 468) rfl
theorem oka_147 : (mCd mM_147).all (chkA mM_147) = true := by decide +kernel
theorem okh_147 : (mHd mM_147).all (chkH mM_147) = true := by decide +kernel
theorem okm_147 : chkM mM_147 = true := by decide +kernel
set_option maxRecDepth 100000 in
theorem okw_147 : mCw mM_147 ∈ gF := List.mem_of_getElem? (i := 540) rfl
theorem oka_148 : (mCd mM_148).all (chkA mM_148) = true := by decide +kernel
theorem okh_148 : (mHd mM_148).all (chkH mM_148) = true := by decide +kernel
theorem okm_148 : chkM mM_148 = true := by decide +kernel
set_option maxRecDepth 100000 in
theorem okw_148 : mCw mM_148 ∈ gF := List.mem_of_getElem? (i := 144) rfl
theorem oka_149_0 : ((mc_149.drop 0).take 40).all (chkA mM_149) = true := by decide +kernel
theorem oka_149_40 : ((mc_149.drop 40).take 40).all (chkA mM_149) = true := by decide +kernel
theorem oka_149 : (mCd mM_149).all (chkA mM_149) = true := all_cut 40 [0, 40] (by decide +kernel) (by
  intro c hc
  simp only [List.mem_cons, List.not_mem_nil, or_false] at hc
  rcases hc with rfl | rfl
  · exact oka_149_0
  · exact oka_149_40)
theorem okh_149 : (mHd mM_149).all (chkH mM_149) = true := by decide +kernel
theorem okm_149 : chkM mM_149 = true := by decide +kernel
set_option maxRecDepth 100000 in
theorem okw_149 : mCw mM_149 ∈ gF := List.mem_of_getElem? (i := 630) rfl
theorem oka_150_0 : ((mc_150.drop 0).take 40).all (chkA mM_150) = true := by decide +kernel
theorem oka_150_40 : ((mc_150.drop 40).take 40).all (chkA mM_150) = true := by decide +kernel
theorem oka_150_80 : ((mc_150.drop 80).take 40).all (chkA mM_150) = true := by decide +kernel
theorem oka_150 : (mCd mM_150).all (chkA mM_150) = true := all_cut 40 [0, 40, 80] (by decide +kernel) (by
  intro c hc
  simp only [List.mem_cons, List.not_mem_nil, or_false] at hc
  rcases hc with rfl | rfl | rfl
  · exact oka_150_0
  · exact oka_150_40
  · exact oka_150_80)
theorem okh_150 : (mHd mM_150).all (chkH mM_150) = true := by decide +kernel
theorem okm_150 : chkM mM_150 = true := by decide +kernel
set_option maxRecDepth 100000 in
theorem okw_150 : mCw mM_150 ∈ gF := List.mem_of_getElem? (i := 472) rfl
theorem oka_151_0 : ((mc_151.drop 0).take 40).all (chkA mM_151) = true := by decide +kernel
theorem oka_151_40 : ((mc_151.drop 40).take 40).all (chkA mM_151) = true := by decide +kernel
theorem oka_151 : (mCd mM_151).all (chkA mM_151) = true := all_cut 40 [0, 40] (by decide +kernel) (by
  intro c hc
  simp only [List.mem_cons, List.not_mem_nil, or_false] at hc
  rcases hc with rfl | rfl
  · exact oka_151_0
  · exact oka_151_40)
theorem okh_151 : (mHd mM_151).all (chkH mM_151) = true := by decide +kernel
theorem okm_151 : chkM mM_151 = true := by decide +kernel
set_option maxRecDepth 100000 in
theorem okw_151 : mCw mM_151 ∈ gF := List.mem_of_getElem? (i := 515) rfl
theorem oka_152_0 : ((mc_152.drop 0).take 40).all (chkA mM_152) = true := by decide +kernel
theorem oka_152_40 : ((mc_152.drop 40).take 40).all (chkA mM_152) = true := by decide +kernel
theorem oka_152 : (mCd mM_152).all (chkA mM_152) = true := all_cut 40 [0, 40] (by decide +kernel) (by
  intro c hc
  simp only [List.mem_cons, List.not_mem_nil, or_false] at hc
  rcases hc with rfl | rfl
  · exact oka_152_0
  · exact oka_152_40)
theorem okh_152 : (mHd mM_152).all (chkH mM_152) = true := by decide +kernel
theorem okm_152 : chkM mM_152 = true := by decide +kernel
set_option maxRecDepth 100000 in
theorem okw_152 : mCw mM_152 ∈ gF := List.mem_of_getElem? (i := 528) rfl
theorem oka_153 : (mCd mM_153).all (chkA mM_153) = true := by decide +kernel
theorem okh_153 : (mHd mM_153).all (chkH mM_153) = true := by decide +kernel
theorem okm_153 : chkM mM_153 = true := by decide +kernel
set_option maxRecDepth 100000 in
theorem okw_153 : mCw mM_153 ∈ gF := List.mem_of_getElem? (i := 487) rfl
theorem oka_154_0 : ((mc_154.drop 0).take 40).all (chkA mM_154) = true := by decide +kernel
theorem oka_154_40 : ((mc_154.drop 40).take 40).all (chkA mM_154) = true := by decide +kernel
theorem oka_154 : (mCd mM_154).all (chkA mM_154) = true := all_cut 40 [0, 40] (by decide +kernel) (by
  intro c hc
  simp only [List.mem_cons, List.not_mem_nil, or_false] at hc
  rcases hc with rfl | rfl
  · exact oka_154_0
  · exact oka_154_40)
theorem okh_154 : (mHd mM_154).all (chkH mM_154) = true := by decide +kernel
theorem okm_154 : chkM mM_154 = true := by decide +kernel
set_option maxRecDepth 100000 in
theorem okw_154 : mCw mM_154 ∈ gF := List.mem_of_getElem? (i := 616) rfl
theorem oka_155_0 : ((mc_155.drop 0).take 40).all (chkA mM_155) = true := by decide +kernel
theorem oka_155_40 : ((mc_155.drop 40).take 40).all (chkA mM_155) = true := by decide +kernel
theorem oka_155_80 : ((mc_155.drop 80).take 40).all (chkA mM_155) = true := by decide +kernel
theorem oka_155_120 : ((mc_155.drop 120).take 40).all (chkA mM_155) = true := by decide +kernel
theorem oka_155_160 : ((mc_155.drop 160).take 40).all (chkA mM_155) = true := by decide +kernel
theorem oka_155_200 : ((mc_155.drop 200).take 40).all (chkA mM_155) = true := by decide +kernel
theorem oka_155 : (mCd mM_155).all (chkA mM_155) = true := all_cut 40 [0, 40, 80, 120, 160, 200] (by decide +kernel) (by
  intro c hc
  simp only [List.mem_cons, List.not_mem_nil, or_false] at hc
  rcases hc with rfl | rfl | rfl | rfl | rfl | rfl
  · exact oka_155_0
  · exact oka_155_40
  · exact oka_155_80
  · exact oka_155_120
  · exact oka_155_160
  · exact oka_155_200)
theorem okh_155 : (mHd mM_155).all (chkH mM_155) = true := by decide +kernel
theorem okm_155 : chkM mM_155 = true := by decide +kernel
set_option maxRecDepth 100000 in
theorem okw_155 : mCw mM_155 ∈ gF := List.mem_of_getElem? (i := 316) rfl
theorem oka_156 : (mCd mM_156).all (chkA mM_156) = true := by decide +kernel
theorem okh_156 : (mHd mM_156).all (chkH mM_156) = true := by decide +kernel
theorem okm_156 : chkM mM_156 = true := by decide +kernel
set_option maxRecDepth 100000 in
theorem okw_156 : mCw mM_156 ∈ gF := List.mem_of_getElem? (i := 311) rfl
theorem oka_157 : (mCd mM_157).all (chkA mM_157) = true := by decide +kernel
theorem okh_157 : (mHd mM_157).all (chkH mM_157) = true := by decide +kernel
theorem okm_157 : chkM mM_157 = true := by decide +kernel
set_option maxRecDepth 100000 in
theorem okw_157 : mCw mM_157 ∈ gF := List.mem_of_getElem? (i := 797) rfl
theorem oka_158_0 : ((mc_158.drop 0).take 40).all (chkA mM_158) = true := by decide +kernel
theorem oka_158_40 : ((mc_158.drop 40).take 40).all (chkA mM_158) = true := by decide +kernel
theorem oka_158_80 : ((mc_158.drop 80).take 40).all (chkA mM_158) = true := by decide +kernel
theorem oka_158_120 : ((mc_158.drop 120).take 40).all (chkA mM_158) = true := by decide +kernel
theorem oka_158_160 : ((mc_158.drop 160).take 40).all (chkA mM_158) = true := by decide +kernel
theorem oka_158 : (mCd mM_158).all (chkA mM_158) = true := all_cut 40 [0, 40, 80, 120, 160] (by decide +kernel) (by
  intro c hc
  simp only [List.mem_cons, List.not_mem_nil, or_false] at hc
  rcases hc with rfl | rfl | rfl | rfl | rfl
  · exact oka_158_0
  · exact oka_158_40
  · exact oka_158_80
  · exact oka_158_120
  · exact oka_158_160)
theorem okh_158 : (mHd mM_158).all (chkH mM_158) = true := by decide +kernel
theorem okm_158 : chkM mM_158 = true := by decide +kernel
set_option maxRecDepth 100000 in
theorem okw_158 : mCw mM_158 ∈ gF := List.mem_of_getElem? (i := 323) rfl
theorem oka_159 : (mCd mM_159).all (chkA mM_159) = true := by decide +kernel
theorem okh_159 : (mHd mM_159).all (chkH mM_159) = true := by decide +kernel
theorem okm_159 : chkM mM_159 = true := by decide +kernel
set_option maxRecDepth 100000 in
theorem okw_159 : mCw mM_159 ∈ gF := List.mem_of_getElem? (i := 456) rfl
theorem oka_160 : (mCd mM_160).all (chkA mM_160) = true := by decide +kernel
theorem okh_160 : (mHd mM_160).all (chkH mM_160) = true := by decide +kernel
theorem okm_160 : chkM mM_160 = true := by decide +kernel
set_option maxRecDepth 100000 in
theorem okw_160 : mCw mM_160 ∈ gF := List.mem_of_getElem? (i := 532) rfl
theorem oka_161 : (mCd mM_161).all (chkA mM_161) = true := by decide +kernel
theorem okh_161 : (mHd mM_161).all (chkH mM_161) = true := by decide +kernel
theorem okm_161 : chkM mM_161 = true := by decide +kernel
set_option maxRecDepth 100000 in
theorem okw_161 : mCw mM_161 ∈ gF := List.mem_of_getElem? (i := 844) rfl
theorem oka_162 : (mCd mM_162).all (chkA mM_162) = true := by decide +kernel
theorem okh_162 : (mHd mM_162).all (chkH mM_162) = true := by decide +kernel
theorem okm_162 : chkM mM_162 = true := by decide +kernel
set_option maxRecDepth 100000 in
theorem okw_162 : mCw mM_162 ∈ gF := List.mem_of_getElem? (i := 373) rfl
theorem oka_163 : (mCd mM_163).all (chkA mM_163) = true := by decide +kernel
theorem okh_163 : (mHd mM_163).all (chkH mM_163) = true := by decide +kernel
theorem okm_163 : chkM mM_163 = true := by decide +kernel
set_option maxRecDepth 100000 in
theorem okw_163 : mCw mM_163 ∈ gF := List.mem_of_getElem? (i := 431) rfl
theorem oka_164 : (mCd mM_164).all (chkA mM_164) = true := by decide +kernel
theorem okh_164 : (mHd mM_164).all (chkH mM_164) = true := by decide +kernel
theorem okm_164 : chkM mM_164 = true := by decide +kernel
set_option maxRecDepth 100000 in
theorem okw_164 : mCw mM_164 ∈ gF := List.mem_of_getElem? (i := 806) rfl
theorem oka_165_0 : ((mc_165.drop 0).take 40).all (chkA mM_165) = true := by decide +kernel
theorem oka_165_40 : ((mc_165.drop 40).take 40).all (chkA mM_165) = true := by decide +kernel
theorem oka_165_80 : ((mc_165.drop 80).take 40).all (chkA mM_165) = true := by decide +kernel
theorem oka_165_120 : ((mc_165.drop 120).take 40).all (chkA mM_165) = true := by decide +kernel
theorem oka_165_160 : ((mc_165.drop 160).take 40).all (chkA mM_165) = true := by decide +kernel
theorem oka_165_200 : ((mc_165.drop 200).take 40).all (chkA mM_165) = true := by decide +kernel
theorem oka_165 : (mCd mM_165).all (chkA mM_165) = true := all_cut 40 [0, 40, 80, 120, 160, 200] (by decide +kernel) (by
  intro c hc
  simp only [List.mem_cons, List.not_mem_nil, or_false] at hc
  rcases hc with rfl | rfl | rfl | rfl | rfl | rfl
  · exact oka_165_0
  · exact oka_165_40
  · exact oka_165_80
  · exact oka_165_120
  · exact oka_165_160
  · exact oka_165_200)
theorem okh_165 : (mHd mM_165).all (chkH mM_165) = true := by decide +kernel
theorem okm_165 : chkM mM_165 = true := by decide +kernel
set_option maxRecDepth 100000 in
theorem okw_165 : mCw mM_165 ∈ gF := List.mem_of_getElem? (i := 794) rfl
theorem oka_166 : (mCd mM_166).all (chkA mM_166) = true := by decide +kernel
theorem okh_166 : (mHd mM_166).all (chkH mM_166) = true := by decide +kernel
theorem okm_166 : chkM mM_166 = true := by decide +kernel
set_option maxRecDepth 100000 in
theorem okw_166 : mCw mM_166 ∈ gF := List.mem_of_getElem? (i := 830) rfl
theorem oka_167_0 : ((mc_167.drop 0).take 40).all (chkA mM_167) = true := by decide +kernel
theorem oka_167_40 : ((mc_167.drop 40).take 40).all (chkA mM_167) = true := by decide +kernel
theorem oka_167_80 : ((mc_167.drop 80).take 40).all (chkA mM_167) = true := by decide +kernel
theorem oka_167 : (mCd mM_167).all (chkA mM_167) = true := all_cut 40 [0, 40, 80] (by decide +kernel) (by
  intro c hc
  simp only [List.mem_cons, List.not_mem_nil, or_false] at hc
  rcases hc with rfl | rfl | rfl
  · exact oka_167_0
  · exact oka_167_40
  · exact oka_167_80)
theorem okh_167 : (mHd mM_167).all (chkH mM_167) = true := by decide +kernel
theorem okm_167 : chkM mM_167 = true := by decide +kernel
set_option maxRecDepth 100000 in
theorem okw_167 : mCw mM_167 ∈ gF := List.mem_of_getElem? (i := 841) rfl
theorem oka_168 : (mCd mM_168).all (chkA mM_168) = true := by decide +kernel
theorem okh_168 : (mHd mM_168).all (chkH mM_168) = true := by decide +kernel
theorem okm_168 : chkM mM_168 = true := by decide +kernel
set_option maxRecDepth 100000 in
theorem okw_168 : mCw mM_168 ∈ gF := List.mem_of_getElem? (i := 686) rfl
theorem oka_169_0 : ((mc_169.drop 0).take 40).all (chkA mM_169) = true := by decide +kernel
theorem oka_169_40 : ((mc_169.drop 40).take 40).all (chkA mM_169) = true := by decide +kernel
theorem oka_169_80 : ((mc_169.drop 80).take 40).all (chkA mM_169) = true := by decide +kernel
theorem oka_169_120 : ((mc_169.drop 120).take 40).all (chkA mM_169) = true := by decide +kernel
theorem oka_169_160 : ((mc_169.drop 160).take 40).all (chkA mM_169) = true := by decide +kernel
theorem oka_169_200 : ((mc_169.drop 200).take 40).all (chkA mM_169) = true := by decide +kernel
theorem oka_169 : (mCd mM_169).all (chkA mM_169) = true := all_cut 40 [0, 40, 80, 120, 160, 200] (by decide +kernel) (by
  intro c hc
  simp only [List.mem_cons, List.not_mem_nil, or_false] at hc
  rcases hc with rfl | rfl | rfl | rfl | rfl | rfl
  · exact oka_169_0
  · exact oka_169_40
  · exact oka_169_80
  · exact oka_169_120
  · exact oka_169_160
  · exact oka_169_200)
theorem okh_169 : (mHd mM_169).all (chkH mM_169) = true := by decide +kernel
theorem okm_169 : chkM mM_169 = true := by decide +kernel
set_option maxRecDepth 100000 in
theorem okw_169 : mCw mM_169 ∈ gF := List.mem_of_getElem? (i := 694) rfl
theorem oka_170_0 : ((mc_170.drop 0).take 40).all (chkA mM_170) = true := by decide +kernel
theorem oka_170_40 : ((mc_170.drop 40).take 40).all (chkA mM_170) = true := by decide +kernel
theorem oka_170_80 : ((mc_170.drop 80).take 40).all (chkA mM_170) = true := by decide +kernel
theorem oka_170_120 : ((mc_170.drop 120).take 40).all (chkA mM_170) = true := by decide +kernel
theorem oka_170_160 : ((mc_170.drop 160).take 40).all (chkA mM_170) = true := by decide +kernel
theorem oka_170_200 : ((mc_170.drop 200).take 40).all (chkA mM_170) = true := by decide +kernel
theorem oka_170 : (mCd mM_170).all (chkA mM_170) = true := all_cut 40 [0, 40, 80, 120, 160, 200] (by decide +kernel) (by
  intro c hc
  simp only [List.mem_cons, List.not_mem_nil, or_false] at hc
  rcases hc with rfl | rfl | rfl | rfl | rfl | rfl
  · exact oka_170_0
  · exact oka_170_40
  · exact oka_170_80
  · exact oka_170_120
  · exact oka_170_160
  · exact oka_170_200)
theorem okh_170 : (mHd mM_170).all (chkH mM_170) = true := by decide +kernel
theorem okm_170 : chkM mM_170 = true := by decide +kernel
set_option maxRecDepth 100000 in
theorem okw_170 : mCw mM_170 ∈ gF := List.mem_of_getElem? (i := 827) rfl
theorem oka_171 : (mCd mM_171).all (chkA mM_171) = true := by decide +kernel
theorem okh_171 : (mHd mM_171).all (chkH mM_171) = true := by decide +kernel
theorem okm_171 : chkM mM_171 = true := by decide +kernel
set_option maxRecDepth 100000 in
theorem okw_171 : mCw mM_171 ∈ gF := List.mem_of_getElem? (i := 820) rfl
theorem oka_172_0 : ((mc_172.drop 0).take 40).all (chkA mM_172) = true := by decide +kernel
theorem oka_172_40 : ((mc_172.drop 40).take 40).all (chkA mM_172) = true := by decide +kernel
theorem oka_172 : (mCd mM_172).all (chkA mM_172) = true := all_cut 40 [0, 40] (by decide +kernel) (by
  intro c hc
  simp only [List.mem_cons, List.not_mem_nil, or_false] at hc
  rcases hc with rfl | rfl
  · exact oka_172_0
  · exact oka_172_40)
theorem okh_172 : (mHd mM_172).all (chkH mM_172) = true := by decide +kernel
theorem oka_173 : (mCd mM_173).all (chkA mM_173) = true := by decide +kernel
theorem okh_173 : (mHd mM_173).all (chkH mM_173) = true := by decide +kernel
theorem okm_173 : chkM mM_173 = true := by decide +kernel
set_option maxRecDepth 100000 in
theorem okw_173 : mCw mM_173 ∈ gF := List.mem_of_getElem? (i := 319) rfl
theorem oka_174 : (mCd mM_174).all (chkA mM_174) = true := by decide +kernel
theorem okh_174 : (mHd mM_174).all (chkH mM_174) = true := by decide +kernel
theorem okm_174 : chkM mM_174 = true := by decide +kernel
set_option maxRecDepth 100000 in
theorem okw_174 : mCw mM_174 ∈ gF := List.mem_of_getElem? (i := 420) rfl
theorem oka_175 : (mCd mM_175).all (chkA mM_175) = true := by decide +kernel
theorem okh_175 : (mHd mM_175).all (chkH mM_175) = true := by decide +kernel
theorem okm_175 : chkM mM_175 = true := by decide +kernel
set_option maxRecDepth 100000 in
theorem okw_175 : mCw mM_175 ∈ gF := List.mem_of_getElem? (i := 711) rfl
theorem oka_176 : (mCd mM_176).all (chkA mM_176) = true := by decide +kernel
theorem okh_176 : (mHd mM_176).all (chkH mM_176) = true := by decide +kernel
theorem okm_176 : chkM mM_176 = true := by decide +kernel
set_option maxRecDepth 100000 in
theorem okw_176 : mCw mM_176 ∈ gF := List.mem_of_getElem? (i := 783) rfl
theorem oka_177 : (mCd mM_177).all (chkA mM_177) = true := by decide +kernel
theorem okh_177 : (mHd mM_177).all (chkH mM_177) = true := by decide +kernel
theorem okm_177 : chkM mM_177 = true := by decide +kernel
set_option maxRecDepth 100000 in
theorem okw_177 : mCw mM_177 ∈ gF := List.mem_of_getElem? (i := 603) rfl
theorem oka_178 : (mCd mM_178).all (chkA mM_178) = true := by decide +kernel
theorem okh_178 : (mHd mM_178).all (chkH mM_178) = true := by decide +kernel
theorem okm_178 : chkM mM_178 = true := by decide +kernel
set_option maxRecDepth 100000 in
theorem okw_178 : mCw mM_178 ∈ gF := List.mem_of_getElem? (i := 202) rfl
theorem oka_179_0 : ((mc_179.drop 0).take 40).all (chkA mM_179) = true := by decide +kernel
theorem oka_179_40 : ((mc_179.drop 40).take 40).all (chkA mM_179) = true := by decide +kernel
theorem oka_179_80 : ((mc_179.drop 80).take 40).all (chkA mM_179) = true := by decide +kernel
theorem oka_179_120 : ((mc_179.drop 120).take 40).all (chkA mM_179) = true := by decide +kernel
theorem oka_179_160 : ((mc_179.drop 160).take 40).all (chkA mM_179) = true := by decide +kernel
theorem oka_179_200 : ((mc_179.drop 200).take 40).all (chkA mM_179) = true := by decide +kernel
theorem oka_179 : (mCd mM_179).all (chkA mM_179) = true := all_cut 40 [0, 40, 80, 120, 160, 200] (by decide +kernel) (by
  intro c hc
  simp only [List.mem_cons, List.not_mem_nil, or_false] at hc
  rcases hc with rfl | rfl | rfl | rfl | rfl | rfl
  · exact oka_179_0
  · exact oka_179_40
  · exact oka_179_80
  · exact oka_179_120
  · exact oka_179_160
  · exact oka_179_200)
theorem okh_179 : (mHd mM_179).all (chkH mM_179) = true := by decide +kernel
theorem okm_179 : chkM mM_179 = true := by decide +kernel
set_option maxRecDepth 100000 in
theorem okw_179 : mCw mM_179 ∈ gF := List.mem_of_getElem? (i := 453) rfl
theorem oka_180 : (mCd mM_180).all (chkA mM_180) = true := by decide +kernel
theorem okh_180 : (mHd mM_180).all (chkH mM_180) = true := by decide +kernel
theorem okm_180 : chkM mM_180 = true := by decide +kernel
set_option maxRecDepth 100000 in
theorem okw_180 : mCw mM_180 ∈ gF := List.mem_of_getElem? (i := 389) rfl
theorem oka_181 : (mCd mM_181).all (chkA mM_181) = true := by decide +kernel
theorem okh_181 : (mHd mM_181).all (chkH mM_181) = true := by decide +kernel
theorem okm_181 : chkM mM_181 = true := by decide +kernel
set_option maxRecDepth 100000 in
theorem okw_181 : mCw mM_181 ∈ gF := List.mem_of_getElem? (i := 698) rfl
theorem oka_182 : (mCd mM_182).all (chkA mM_182) = true := by decide +kernel
theorem okh_182 : (mHd mM_182).all (chkH mM_182) = true := by decide +kernel
theorem okm_182 : chkM mM_182 = true := by decide +kernel
set_option maxRecDepth 100000 in
theorem okw_182 : mCw mM_182 ∈ gF := List.mem_of_getElem? (i := 719) rfl
theorem oka_183 : (mCd mM_183).all (chkA mM_183) = true := by decide +kernel
theorem okh_183 : (mHd mM_183).all (chkH mM_183) = true := by decide +kernel
theorem okm_183 : chkM mM_183 = true := by decide +kernel
set_option maxRecDepth 100000 in
theorem okw_183 : mCw mM_183 ∈ gF := List.mem_of_getElem? (i := 855) rfl
theorem oka_184_0 : ((mc_184.drop 0).take 40).all (chkA mM_184) = true := by decide +kernel
theorem oka_184_40 : ((mc_184.drop 40).take 40).all (chkA mM_184) = true := by decide +kernel
theorem oka_184 : (mCd mM_184).all (chkA mM_184) = true := all_cut 40 [0, 40] (by decide +kernel) (by
  intro c hc
  simp only [List.mem_cons, List.not_mem_nil, or_false] at hc
  rcases hc with rfl | rfl
  · exact oka_184_0
  · exact oka_184_40)
theorem okh_184 : (mHd mM_184).all (chkH mM_184) = true := by decide +kernel
theorem okm_184 : chkM mM_184 = true := by decide +kernel
set_option maxRecDepth 100000 in
theorem okw_184 : mCw mM_184 ∈ gF := List.mem_of_getElem? (i := 852) rfl
theorem oka_185 : (mCd mM_185).all (chkA mM_185) = true := by decide +kernel
theorem okh_185 : (mHd mM_185).all (chkH mM_185) = true := by decide +kernel
theorem okm_185 : chkM mM_185 = true := by decide +kernel
set_option maxRecDepth 100000 in
theorem okw_185 : mCw mM_185 ∈ gF := List.mem_of_getElem? (i := 734) rfl
theorem oka_186 : (mCd mM_186).all (chkA mM_186) = true := by decide +kernel
theorem okh_186 : (mHd mM_186).all (chkH mM_186) = true := by decide +kernel
theorem okm_186 : chkM mM_186 = true := by decide +kernel
set_option maxRecDepth 100000 in
theorem okw_186 : mCw mM_186 ∈ gF := List.mem_of_getElem? (i := 442) rfl
theorem oka_187 : (mCd mM_187).all (chkA mM_187) = true := by decide +kernel
theorem okh_187 : (mHd mM_187).all (chkH mM_187) = true := by decide +kernel
theorem okm_187 : chkM mM_187 = true := by decide +kernel
set_option maxRecDepth 100000 in
theorem okw_187 : mCw mM_187 ∈ gF := List.mem_of_getElem? (i := 327) rfl
theorem oka_188 : (mCd mM_188).all (chkA mM_188) = true := by decide +kernel
theorem okh_188 : (mHd mM_188).all (chkH mM_188) = true := by decide +kernel
theorem okm_188 : chkM mM_188 = true := by decide +kernel
set_option maxRecDepth 100000 in
theorem okw_188 : mCw mM_188 ∈ gF := List.mem_of_getElem? (i := 683) rfl
theorem oka_189 : (mCd mM_189).all (chkA mM_189) = true := by decide +kernel
theorem okh_189 : (mHd mM_189).all (chkH mM_189) = true := by decide +kernel
theorem okm_189 : chkM mM_189 = true := by decide +kernel
set_option maxRecDepth 100000 in
theorem okw_189 : mCw mM_189 ∈ gF := List.mem_of_getElem? (i := 409) rfl
theorem oka_190 : (mCd mM_190).all (chkA mM_190) = true := by decide +kernel
theorem okh_190 : (mHd mM_190).all (chkH mM_190) = true := by decide +kernel
theorem okm_190 : chkM mM_190 = true := by decide +kernel
set_option maxRecDepth 100000 in
theorem okw_190 : mCw mM_190 ∈ gF := List.mem_of_getElem? (i := 543) rfl
