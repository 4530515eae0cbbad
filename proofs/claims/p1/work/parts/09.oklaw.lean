theorem oka_240_0 : ((mc_240.drop 0).take 40).all (chkA mM_240) = true := by decide +kernel
theorem oka_240_40 : ((mc_240.drop 40).take 40).all (chkA mM_240) = true := by decide +kernel
theorem oka_240_80 : ((mc_240.drop 80).take 40).all (chkA mM_240) = true := by decide +kernel
theorem oka_240_120 : ((mc_240.drop 120).take 40).all (chkA mM_240) = true := by decide +kernel
theorem oka_240_160 : ((mc_240.drop 160).take 40).all (chkA mM_240) = true := by decide +kernel
theorem oka_240_200 : ((mc_240.drop 200).take 40).all (chkA mM_240) = true := by decide +kernel
theorem oka_240_240 : ((mc_240.drop 240).take 40).all (chkA mM_240) = true := by decide +kernel
theorem oka_240_280 : ((mc_240.drop 280).take 40).all (chkA mM_240) = true := by decide +kernel
theorem oka_240_320 : ((mc_240.drop 320).take 40).all (chkA mM_240) = true := by decide +kernel
theorem oka_240_360 : ((mc_240.drop 360).take 40).all (chkA mM_240) = true := by decide +kernel
theorem oka_240_400 : ((mc_240.drop 400).take 40).all (chkA mM_240) = true := by decide +kernel
theorem oka_240_440 : ((mc_240.drop 440).take 40).all (chkA mM_240) = true := by decide +kernel
theorem oka_240_480 : ((mc_240.drop 480).take 40).all (chkA mM_240) = true := by decide +kernel
theorem oka_240_520 : ((mc_240.drop 520).take 40).all (chkA mM_240) = true := by decide +kernel
theorem oka_240_560 : ((mc_240.drop 560).take 40).all (chkA mM_240) = true := by decide +kernel
theorem oka_240_600 : ((mc_240.drop 600).take 40).all (chkA mM_240) = true := by decide +kernel
theorem oka_240_640 : ((mc_240.drop 640).take 40).all (chkA mM_240) = true := by decide +kernel
theorem oka_240_680 : ((mc_240.drop 680).take 40).all (chkA mM_240) = true := by decide +kernel
theorem oka_240_720 : ((mc_240.drop 720).take 40).all (chkA mM_240) = true := by decide +kernel
theorem oka_240_760 : ((mc_240.drop 760).take 40).all (chkA mM_240) = true := by decide +kernel
theorem oka_240_800 : ((mc_240.drop 800).take 40).all (chkA mM_240) = true := by decide +kernel
theorem oka_240_840 : ((mc_240.drop 840).take 40).all (chkA mM_240) = true := by decide +kernel
theorem oka_240_880 : ((mc_240.drop 880).take 40).all (chkA mM_240) = true := by decide +kernel
theorem oka_240_920 : ((mc_240.drop 920).take 40).all (chkA mM_240) = true := by decide +kernel
theorem oka_240_960 : ((mc_240.drop 960).take 40).all (chkA mM_240) = true := by decide +kernel
theorem oka_240_1000 : ((mc_240.drop 1000).take 40).all (chkA mM_240) = true := by decide +kernel
theorem oka_240_1040 : ((mc_240.drop 1040).take 40).all (chkA mM_240) = true := by decide +kernel
theorem oka_240_1080 : ((mc_240.drop 1080).take 40).all (chkA mM_240) = true := by decide +kernel
theorem oka_240_1120 : ((mc_240.drop 1120).take 40).all (chkA mM_240) = true := by decide +kernel
theorem oka_240_1160 : ((mc_240.drop 1160).take 40).all (chkA mM_240) = true := by decide +kernel
theorem oka_240_1200 : ((mc_240.drop 1200).take 40).all (chkA mM_240) = true := by decide +kernel
theorem oka_240 : (mCd mM_240).all (chkA mM_240) = true := all_cut 40 [0, 40, 80, 120, 160, 200, 240, 280, 320, 360, 400, 440, 480, 520, 560, 600, 640, 680, 720, 760, 800, 840, 880, 920, 960, 1000, 1040, 1080, 1120, 1160, 1200] (by decide +kernel) (by
  intro c hc
  simp only [List.mem_cons, List.not_mem_nil, or_false] at hc
  rcases hc with rfl | rfl | rfl | rfl | rfl | rfl | rfl | rfl | rfl | rfl | rfl | rfl | rfl | rfl | rfl | rfl | rfl | rfl | rfl | rfl | rfl | rfl | rfl | rfl | rfl | rfl | rfl | rfl | rfl | rfl | rfl
  · exact oka_240_0
  · exact oka_240_40
  · exact oka_240_80
  · exact oka_240_120
  · exact oka_240_160
  · exact oka_240_200
  · exact oka_240_240
  · exact oka_240_280
  · exact oka_240_320
  · exact oka_240_360
  · exact oka_240_400
  · exact oka_240_440
  · exact oka_240_480
  · exact oka_240_520
  · exact oka_240_560
  · exact oka_240_600
  · exact oka_240_640
  · exact oka_240_680
  · exact oka_240_720
  · exact oka_240_760
  · exact oka_240_800
  · exact oka_240_840
  · exact oka_240_880
  · exact oka_240_920
  · exact oka_240_960
  · exact oka_240_1000
  · exact oka_240_1040
  · exact oka_240_1080
  · exact oka_240_1120
  · exact oka_240_1160
  · exact oka_240_1200)
theorem okh_240 : (mHd mM_240).all (chkH mM_240) = true := by decide +kernel
