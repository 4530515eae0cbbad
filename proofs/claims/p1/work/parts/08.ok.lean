set_option maxRecDepth 100000 in
theorem okw_125 : mCw mM_125 ∈ gF := List.mem_of_getElem? (i := 292) rfl
theorem oka_126 : (mCd mM_126).all (chkA mM_126) = true := by decide +kernel
theorem okh_126 : (mHd mM_126).all (chkH mM_126) = true := by decide +kernel
theorem okm_126 : chkM mM_126 = true := by decide +kernel
set_option maxRecDepth 100000 in
theorem okw_126 : mCw mM_126 ∈ gF := List.mem_of_getElem? (i := 1081) rfl
theorem oka_127_0 : ((mc_127.drop 0).take 40).all (chkA mM_127) = true := by decide +kernel
theorem oka_127_40 : ((mc_127.drop 40).take 40).all (chkA mM_127) = true := by decide +kernel
theorem oka_127_80 : ((mc_127.drop 80).take 40).all (chkA mM_127) = true := by decide +kernel
theorem oka_127 : (mCd mM_127).all (chkA mM_127) = true := all_cut 40 [0, 40, 80] (by decide +kernel) (by
  intro c hc
  simp only [List.mem_cons, List.not_mem_nil, or_false] at hc
  rcases hc with rfl | rfl | rfl
  · exact oka_127_0
  · exact oka_127_40
  · exact oka_127_80)
theorem okh_127 : (mHd mM_127).all (chkH mM_127) = true := by decide +kernel
theorem okm_127 : chkM mM_127 = true := by decide +kernel
set_option maxRecDepth 100000 in
theorem okw_127 : mCw mM_127 ∈ gF := List.mem_of_getElem? (i := 1100) rfl
theorem oka_128 : (mCd mM_128).all (chkA mM_128) = true := by decide +kernel
theorem okh_128 : (mHd mM_128).all (chkH mM_128) = true := by decide +kernel
theorem okm_128 : chkM mM_128 = true := by decide +kernel
set_option maxRecDepth 100000 in
theorem okw_128 : mCw mM_128 ∈ gF := List.mem_of_getElem? (i := 1048) rfl
theorem oka_129_0 : ((mc_129.drop 0).take 40).all (chkA mM_129) = true := by decide +kernel
theorem oka_129_40 : ((mc_129.drop 40).take 40).all (chkA mM_129) = true := by decide +kernel
theorem oka_129 : (mCd mM_129).all (chkA mM_129) = true := all_cut 40 [0, 40] (by decide +kernel) (by
  intro c hc
  simp only [List.mem_cons, List.not_mem_nil, or_false] at hc
  rcases hc with rfl | rfl
  · exact oka_129_0
  · exact oka_129_40)
theorem okh_129 : (mHd mM_129).all (chkH mM_129) = true := by decide +kernel
theorem okm_129 : chkM mM_129 = true := by decide +kernel
set_option maxRecDepth 100000 in
theorem okw_129 : mCw mM_129 ∈ gF := List.mem_of_getElem? (i := 978) rfl
theorem oka_130_0 : ((mc_130.drop 0).take 40).all (chkA mM_130) = true := by decide +kernel
theorem oka_130_40 : ((mc_130.drop 40).take 40).all (chkA mM_130) = true := by decide +kernel
theorem oka_130 : (mCd mM_130).all (chkA mM_130) = true := all_cut 40 [0, 40] (by decide +kernel) (by
  intro c hc
  simp only [List.mem_cons, List.not_mem_nil, or_false] at hc
  rcases hc with rfl | rfl
  · exact oka_130_0
  · exact oka_130_40)
theorem okh_130 : (mHd mM_130).all (chkH mM_130) = true := by decide +kernel
theorem okm_130 : chkM mM_130 = true := by decide +kernel
set_option maxRecDepth 100000 in
theorem okw_130 : mCw mM_130 ∈ gF := List.mem_of_getElem? (i := 1006) rfl
theorem oka_131 : (mCd mM_131).all (chkA mM_131) = true := by decide +kernel
theorem okh_131 : (mHd mM_131).all (chkH mM_131) = true := by decide +kernel
theorem okm_131 : chkM mM_131 = true := by decide +kernel
set_option maxRecDepth 100000 in
theorem okw_131 : mCw mM_131 ∈ gF := List.mem_of_getElem? (i := 1168) rfl
theorem oka_132_0 : ((mc_132.drop 0).take 40).all (chkA mM_132) = true := by decide +kernel
theorem oka_132_40 : ((mc_132.drop 40).take 40).all (chkA mM_132) = true := by decide +kernel
theorem oka_132 : (mCd mM_132).all (chkA mM_132) = true := all_cut 40 [0, 40] (by decide +kernel) (by
  intro c hc
  simp only [List.mem_cons, List.not_mem_nil, or_false] at hc
  rcases hc with rfl | rfl
  · exact oka_132_0
  · exact oka_132_40)
theorem okh_132 : (mHd mM_132).all (chkH mM_132) = true := by decide +kernel
theorem okm_132 : chkM mM_132 = true := by decide +kernel
set_option maxRecDepth 100000 in
theorem okw_132 : mCw mM_132 ∈ gF := List.mem_of_getElem? (i := 1115) rfl
theorem oka_133 : (mCd mM_133).all (chkA mM_133) = true := by decide +kernel
theorem okh_133 : (mHd mM_133).all (chkH mM_133) = true := by decide +kernel
theorem okm_133 : chkM mM_133 = true := by decide +kernel
set_option maxRecDepth 100000 in
theorem okw_133 : mCw mM_133 ∈ gF := List.mem_of_getElem? (i := 277) rfl
theorem oka_134 : (mCd mM_134).all (chkA mM_134) = true := by decide +kernel
theorem okh_134 : (mHd mM_134).all (chkH mM_134) = true := by decide +kernel
theorem okm_134 : chkM mM_134 = true := by decide +kernel
set_option maxRecDepth 100000 in
theorem okw_134 : mCw mM_134 ∈ gF := List.mem_of_getElem? (i := 286) rfl
theorem oka_135 : (mCd mM_135).all (chkA mM_135) = true := by decide +kernel
theorem okh_135 : (mHd mM_135).all (chkH mM_135) = true := by decide +kernel
theorem okm_135 : chkM mM_135 = true := by decide +kernel
set_option maxRecDepth 100000 in
theorem okw_135 : mCw mM_135 ∈ gF := List.mem_of_getElem? (i := 584) rfl
theorem oka_136_0 : ((mc_136.drop 0).take 40).all (chkA mM_136) = true := by decide +kernel
theorem oka_136_40 : ((mc_136.drop 40).take 40).all (chkA mM_136) = true := by decide +kernel
theorem oka_136 : (mCd mM_136).all (chkA mM_136) = true := all_cut 40 [0, 40] (by decide +kernel) (by
  intro c hc
  simp only [List.mem_cons, List.not_mem_nil, or_false] at hc
  rcases hc with rfl | rfl
  · exact oka_136_0
  · exact oka_136_40)
theorem okh_136 : (mHd mM_136).all (chkH mM_136) = true := by decide +kernel
theorem okm_136 : chkM mM_136 = true := by decide +kernel
set_option maxRecDepth 100000 in
theorem okw_136 : mCw mM_136 ∈ gF := List.mem_of_getElem? (i := 410) rfl
theorem oka_137 : (mCd mM_137).all (chkA mM_137) = true := by decide +kernel
theorem okh_137 : (mHd mM_137).all (chkH mM_137) = true := by decide +kernel
theorem okm_137 : chkM mM_137 = true := by decide +kernel
set_option maxRecDepth 100000 in
theorem okw_137 : mCw mM_137 ∈ gF := List.mem_of_getElem? (i := 335) rfl
theorem oka_138_0 : ((mc_138.drop 0).take 40).all (chkA mM_138) = true := by decide +kernel
theorem oka_138_40 : ((mc_138.drop 40).take 40).all (chkA mM_138) = true := by decide +kernel
theorem oka_138 : (mCd mM_138).all (chkA mM_138) = true := all_cut 40 [0, 40] (by decide +kernel) (by
  intro c hc
  simp only [List.mem_cons, List.not_mem_nil, or_false] at hc
  rcases hc with rfl | rfl
  · exact oka_138_0
  · exact oka_138_40)
theorem okh_138 : (mHd mM_138).all (chkH mM_138) = true := by decide +kernel
theorem okm_138 : chkM mM_138 = true := by decide +kernel
set_option maxRecDepth 100000 in
theorem okw_138 : mCw mM_138 ∈ gF := List.mem_of_getElem? (i := 1015) rfl
theorem oka_139_0 : ((mc_139.drop 0).take 40).all (chkA mM_139) = true := by decide +kernel
theorem oka_139_40 : ((mc_139.drop 40).take 40).all (chkA mM_139) = true := by decide +kernel
theorem oka_139_80 : ((mc_139.drop 80).take 40).all (chkA mM_139) = true := by decide +kernel
theorem oka_139_120 : ((mc_139.drop 120).take 40).all (chkA mM_139) = true := by decide +kernel
theorem oka_139 : (mCd mM_139).all (chkA mM_139) = true := all_cut 40 [0, 40, 80, 120] (by decide +kernel) (by
  intro c hc
  simp only [List.mem_cons, List.not_mem_nil, or_false] at hc
  rcases hc with rfl | rfl | rfl | rfl
  · exact oka_139_0
  · exact oka_139_40
  · exact oka_139_80
  · exact oka_139_120)
theorem okh_139 : (mHd mM_139).all (chkH mM_139) = true := by decide +kernel
theorem okm_139 : chkM mM_139 = true := by decide +kernel
set_option maxRecDepth 100000 in
theorem okw_139 : mCw mM_139 ∈ gF := List.mem_of_getElem? (i := 1011) rfl
theorem oka_140 : (mCd mM_140).all (chkA mM_140) = true := by decide +kernel
theorem okh_140 : (mHd mM_140).all (chkH mM_140) = true := by decide +kernel
theorem okm_140 : chkM mM_140 = true := by decide +kernel
set_option maxRecDepth 100000 in
theorem okw_140 : mCw mM_140 ∈ gF := List.mem_of_getElem? (i := 274) rfl
theorem oka_141 : (mCd mM_141).all (chkA mM_141) = true := by decide +kernel
theorem okh_141 : (mHd mM_141).all (chkH mM_141) = true := by decide +kernel
theorem okm_141 : chkM mM_141 = true := by decide +kernel
set_option maxRecDepth 100000 in
theorem okw_141 : mCw mM_141 ∈ gF := List.mem_of_getElem? (i := 425) rfl
theorem oka_142_0 : ((mc_142.drop 0).take 40).all (chkA mM_142) = true := by decide +kernel
theorem oka_142_40 : ((mc_142.drop 40).take 40).all (chkA mM_142) = true := by decide +kernel
theorem oka_142 : (mCd mM_142).all (chkA mM_142) = true := all_cut 40 [0, 40] (by decide +kernel) (by
  intro c hc
  simp only [List.mem_cons, List.not_mem_nil, or_false] at hc
  rcases hc with rfl | rfl
  · exact oka_142_0
  · exact oka_142_40)
theorem okh_142 : (mHd mM_142).all (chkH mM_142) = true := by decide +kernel
theorem okm_142 : chkM mM_142 = true := by decide +kernel
set_option maxRecDepth 100000 in
theorem okw_142 : mCw mM_142 ∈ gF := List.mem_of_getElem? (i := 703) rfl
theorem oka_143_0 : ((mc_143.drop 0).take 40).all (chkA mM_143) = true := by decide +kernel
theorem oka_143_40 : ((mc_143.drop 40).take 40).all (chkA mM_143) = true := by decide +kernel
theorem oka_143 : (mCd mM_143).all (chkA mM_143) = true := all_cut 40 [0, 40] (by decide +kernel) (by
  intro c hc
  simp only [List.mem_cons, List.not_mem_nil, or_false] at hc
  rcases hc with rfl | rfl
  · exact oka_143_0
  · exact oka_143_40)
theorem okh_143 : (mHd mM_143).all (chkH mM_143) = true := by decide +kernel
theorem okm_143 : chkM mM_143 = true := by decide +kernel
set_option maxRecDepth 100000 in
theorem okw_143 : mCw mM_143 ∈ gF := List.mem_of_getElem? (i := 567) rfl
theorem oka_144_0 : ((mc_144.drop 0).take 40).all (chkA mM_144) = true := by decide +kernel
theorem oka_144_40 : ((mc_144.drop 40).take 40).all (chkA mM_144) = true := by decide +kernel
theorem oka_144 : (mCd mM_144).all (chkA mM_144) = true := all_cut 40 [0, 40] (by decide +kernel) (by
  intro c hc
  simp only [List.mem_cons, List.not_mem_nil, or_false] at hc
  rcases hc with rfl | rfl
  · exact oka_144_0
  · exact oka_144_40)
theorem okh_144 : (mHd mM_144).all (chkH mM_144) = true := by decide +kernel
theorem okm_144 : chkM mM_144 = true := by decide +kernel
set_option maxRecDepth 100000 in
theorem okw_144 : mCw mM_144 ∈ gF := List.mem_of_getElem? (i := 848) rfl
theorem oka_145 : (mCd mM_145).all (chkA mM_145) = true := by decide +kernel
theorem okh_145 : (mHd mM_145).all (chkH mM_145) = true := by decide +kernel
theorem okm_145 : chkM mM_145 = true := by decide +kernel
set_option maxRecDepth 100000 in
theorem okw_145 : mCw mM_145 ∈ gF := List.mem_of_getElem? (i := 99) rfl
theorem oka_146 : (mCd mM_146).all (chkA mM_146) = true := by decide +kernel
theorem okh_146 : (mHd mM_146).all (chkH mM_146) = true := by decide +kernel
theorem okm_146 : chkM mM_146 = true := by decide +kernel
set_option maxRecDepth 100000 in
theorem okw_146 : mCw mM_146 ∈ gF := List.mem_of_getElem? (i := 794) rfl
theorem oka_147 : (mCd mM_147).all (chkA mM_147) = true := by decide +kernel
theorem okh_147 : (mHd mM_147).all (chkH mM_147) = true := by decide +kernel
theorem okm_147 : chkM mM_147 = true := by decide +kernel
set_option maxRecDepth 100000 in
theorem okw_147 : mCw mM_147 ∈ gF := List.mem_of_getElem? (i := 134) rfl
theorem oka_148 : (mCd mM_148).all (chkA mM_148) = true := by decide +kernel
theorem okh_148 : (mHd mM_148).all (chkH mM_148) = true := by decide +kernel
theorem okm_148 : chkM mM_148 = true := by decide +kernel
set_option maxRecDepth 100000 in
theorem okw_148 : mCw mM_148 ∈ gF := List.mem_of_getElem? (i := 545) rfl
theorem oka_149 : (mCd mM_149).all (chkA mM_149) = true := by decide +kernel
theorem okh_149 : (mHd mM_149).all (chkH mM_149) = true := by decide +kernel
theorem okm_149 : chkM mM_149 = true := by decide +kernel
set_option maxRecDepth 100000 in
theorem okw_149 : mCw mM_149 ∈ gF := List.mem_of_getElem? (i := 663) rfl
theorem oka_150 : (mCd mM_150).all (chkA mM_150) = true := by decide +kernel
theorem okh_150 : (mHd mM_150).all (chkH mM_150) = true := by decide +kernel
theorem okm_150 : chkM mM_150 = true := by decide +kernel
set_option maxRecDepth 100000 in
theorem okw_150 : mCw mM_150 ∈ gF := List.mem_of_getElem? (i := 791) rfl
theorem oka_151 : (mCd mM_151).all (chkA mM_151) = true := by decide +kernel
theorem okh_151 : (mHd mM_151).all (chkH mM_151) = true := by decide +kernel
theorem okm_151 : chkM mM_151 = true := by decide +kernel
set_option maxRecDepth 100000 in
theorem okw_151 : mCw mM_151 ∈ gF := List.mem_of_getElem? (i := 548) rfl
theorem oka_152 : (mCd mM_152).all (chkA mM_152) = true := by decide +kernel
theorem okh_152 : (mHd mM_152).all (chkH mM_152) = true := by decide +kernel
theorem okm_152 : chkM mM_152 = true := by decide +kernel
set_option maxRecDepth 100000 in
theorem okw_152 : mCw mM_152 ∈ gF := List.mem_of_getElem? (i := 116) rfl
theorem oka_153 : (mCd mM_153).all (chkA mM_153) = true := by decide +kernel
theorem okh_153 : (mHd mM_153).all (chkH mM_153) = true := by decide +kernel
theorem okm_153 : chkM mM_153 = true := by decide +kernel
set_option maxRecDepth 100000 in
theorem okw_153 : mCw mM_153 ∈ gF := List.mem_of_getElem? (i := 660) rfl
theorem oka_154 : (mCd mM_154).all (chkA mM_154) = true := by decide +kernel
theorem okh_154 : (mHd mM_154).all (chkH mM_154) = true := by decide +kernel
theorem okm_154 : chkM mM_154 = true := by decide +kernel
set_option maxRecDepth 100000 in
theorem okw_154 : mCw mM_154 ∈ gF := List.mem_of_getElem? (i := 67) rfl
theorem oka_155 : (mCd mM_155).all (chkA mM_155) = true := by decide +kernel
theorem okh_155 : (mHd mM_155).all (chkH mM_155) = true := by decide +kernel
theorem okm_155 : chkM mM_155 = true := by decide +kernel
set_option maxRecDepth 100000 in
theorem okw_155 : mCw mM_155 ∈ gF := List.mem_of_getElem? (i := 71) rfl
theorem oka_156 : (mCd mM_156).all (chkA mM_156) = true := by decide +kernel
theorem okh_156 : (mHd mM_156).all (chkH mM_156) = true := by decide +kernel
theorem okm_156 : chkM mM_156 = true := by decide +kernel
set_option maxRecDepth 100000 in
theorem okw_156 : mCw mM_156 ∈ gF := List.mem_of_getElem? (i := 131) rfl
theorem oka_157 : (mCd mM_157).all (chkA mM_157) = true := by decide +kernel
theorem okh_157 : (mHd mM_157).all (chkH mM_157) = true := by decide +kernel
theorem okm_157 : chkM mM_157 = true := by decide +kernel
set_option maxRecDepth 100000 in
theorem okw_157 : mCw mM_157 ∈ gF := List.mem_of_getElem? (i := 542) rfl
theorem oka_158 : (mCd mM_158).all (chkA mM_158) = true := by decide +kernel
theorem okh_158 : (mHd mM_158).all (chkH mM_158) = true := by decide +kernel
theorem okm_158 : chkM mM_158 = true := by decide +kernel
set_option maxRecDepth 100000 in
theorem okw_158 : mCw mM_158 ∈ gF := List.mem_of_getElem? (i := 520) rfl
theorem oka_159 : (mCd mM_159).all (chkA mM_159) = true := by decide +kernel
theorem okh_159 : (mHd mM_159).all (chkH mM_159) = true := by decide +kernel
theorem okm_159 : chkM mM_159 = true := by decide +kernel
set_option maxRecDepth 100000 in
theorem okw_159 : mCw mM_159 ∈ gF := List.mem_of_getElem? (i := 675) rfl
theorem oka_160 : (mCd mM_160).all (chkA mM_160) = true := by decide +kernel
theorem okh_160 : (mHd mM_160).all (chkH mM_160) = true := by decide +kernel
theorem okm_160 : chkM mM_160 = true := by decide +kernel
set_option maxRecDepth 100000 in
theorem okw_160 : mCw mM_160 ∈ gF := List.mem_of_getElem? (i := 670) rfl
theorem oka_161 : (mCd mM_161).all (chkA mM_161) = true := by decide +kernel
theorem okh_161 : (mHd mM_161).all (chkH mM_161) = true := by decide +kernel
theorem okm_161 : chkM mM_161 = true := by decide +kernel
set_option maxRecDepth 100000 in
theorem okw_161 : mCw mM_161 ∈ gF := List.mem_of_getElem? (i := 110) rfl
theorem oka_162 : (mCd mM_162).all (chkA mM_162) = true := by decide +kernel
theorem okh_162 : (mHd mM_162).all (chkH mM_162) = true := by decide +kernel
theorem okm_162 : chkM mM_162 = true := by decide +kernel
set_option maxRecDepth 100000 in
theorem okw_162 : mCw mM_162 ∈ gF := List.mem_of_getElem? (i := 113) rfl
theorem oka_163 : (mCd mM_163).all (chkA mM_163) = true := by decide +kernel
theorem okh_163 : (mHd mM_163).all (chkH mM_163) = true := by decide +kernel
theorem okm_163 : chkM mM_163 = true := by decide +kernel
set_option maxRecDepth 100000 in
theorem okw_163 : mCw mM_163 ∈ gF := List.mem_of_getElem? (i := 1151) rfl
theorem oka_164 : (mCd mM_164).all (chkA mM_164) = true := by decide +kernel
theorem okh_164 : (mHd mM_164).all (chkH mM_164) = true := by decide +kernel
theorem okm_164 : chkM mM_164 = true := by decide +kernel
set_option maxRecDepth 100000 in
theorem okw_164 : mCw mM_164 ∈ gF := List.mem_of_getElem? (i := 1135) rfl
theorem oka_165 : (mCd mM_165).all (chkA mM_165) = true := by decide +kernel
theorem okh_165 : (mHd mM_165).all (chkH mM_165) = true := by decide +kernel
theorem okm_165 : chkM mM_165 = true := by decide +kernel
set_option maxRecDepth 100000 in
theorem okw_165 : mCw mM_165 ∈ gF := List.mem_of_getElem? (i := 1199) rfl
theorem oka_166 : (mCd mM_166).all (chkA mM_166) = true := by decide +kernel
theorem okh_166 : (mHd mM_166).all (chkH mM_166) = true := by decide +kernel
theorem okm_166 : chkM mM_166 = true := by decide +kernel
set_option maxRecDepth 100000 in
theorem okw_166 : mCw mM_166 ∈ gF := List.mem_of_getElem? (i := 190) rfl
theorem oka_167 : (mCd mM_167).all (chkA mM_167) = true := by decide +kernel
theorem okh_167 : (mHd mM_167).all (chkH mM_167) = true := by decide +kernel
theorem okm_167 : chkM mM_167 = true := by decide +kernel
set_option maxRecDepth 100000 in
theorem okw_167 : mCw mM_167 ∈ gF := List.mem_of_getElem? (i := 1130) rfl
theorem oka_168 : (mCd mM_168).all (chkA mM_168) = true := by decide +kernel
theorem okh_168 : (mHd mM_168).all (chkH mM_168) = true := by decide +kernel
theorem okm_168 : chkM mM_168 = true := by decide +kernel
set_option maxRecDepth 100000 in
theorem okw_168 : mCw mM_168 ∈ gF := List.mem_of_getElem? (i := 1155) rfl
theorem oka_169 : (mCd mM_169).all (chkA mM_169) = true := by decide +kernel
theorem okh_169 : (mHd mM_169).all (chkH mM_169) = true := by decide +kernel
theorem okm_169 : chkM mM_169 = true := by decide +kernel
set_option maxRecDepth 100000 in
theorem okw_169 : mCw mM_169 ∈ gF := List.mem_of_getElem? (i := 1144) rfl
theorem oka_170 : (mCd mM_170).all (chkA mM_170) = true := by decide +kernel
theorem okh_170 : (mHd mM_170).all (chkH mM_170) = true := by decide +kernel
theorem okm_170 : chkM mM_170 = true := by decide +kernel
set_option maxRecDepth 100000 in
theorem okw_170 : mCw mM_170 ∈ gF := List.mem_of_getElem? (i := 1140) rfl
theorem oka_171 : (mCd mM_171).all (chkA mM_171) = true := by decide +kernel
theorem okh_171 : (mHd mM_171).all (chkH mM_171) = true := by decide +kernel
theorem okm_171 : chkM mM_171 = true := by decide +kernel
set_option maxRecDepth 100000 in
theorem okw_171 : mCw mM_171 ∈ gF := List.mem_of_getElem? (i := 1163) rfl
theorem oka_172_0 : ((mc_172.drop 0).take 40).all (chkA mM_172) = true := by decide +kernel
theorem oka_172_40 : ((mc_172.drop 40).take 40).all (chkA mM_172) = true := by decide +kernel
theorem oka_172 : (mCd mM_172).all (chkA mM_172) = true := all_cut 40 [0, 40] (by decide +kernel) (by
  intro c hc
  simp only [List.mem_cons, List.not_mem_nil, or_false] at hc
  rcases hc with rfl | rfl
  · exact oka_172_0
  · exact oka_172_40)
theorem okh_172 : (mHd mM_172).all (chkH mM_172) = true := by decide +kernel
theorem okm_172 : chkM mM_172 = true := by decide +kernel
set_option maxRecDepth 100000 in
theorem okw_172 : mCw mM_172 ∈ gF := List.mem_of_getElem? (i := 1126) rfl
theorem oka_173 : (mCd mM_173).all (chkA mM_173) = true := by decide +kernel
theorem okh_173 : (mHd mM_173).all (chkH mM_173) = true := by decide +kernel
theorem okm_173 : chkM mM_173 = true := by decide +kernel
set_option maxRecDepth 100000 in
theorem okw_173 : mCw mM_173 ∈ gF := List.mem_of_getElem? (i := 1111) rfl
theorem oka_174 : (mCd mM_174).all (chkA mM_174) = true := by decide +kernel
theorem okh_174 : (mHd mM_174).all (chkH mM_174) = true := by decide +kernel
theorem okm_174 : chkM mM_174 = true := by decide +kernel
set_option maxRecDepth 100000 in
theorem okw_174 : mCw mM_174 ∈ gF := List.mem_of_getElem? (i := 1148) rfl
theorem oka_175 : (mCd mM_175).all (chkA mM_175) = true := by decide +kernel
theorem okh_175 : (mHd mM_175).all (chkH mM_175) = true := by decide +kernel
theorem okm_175 : chkM mM_175 = true := by decide +kernel
set_option maxRecDepth 100000 in
theorem okw_175 : mCw mM_175 ∈ gF := List.mem_of_getElem? (i := 321) rfl
theorem oka_176_0 : ((mc_176.drop 0).take 40).all (chkA mM_176) = true := by decide +kernel
theorem oka_176_40 : ((mc_176.drop 40).take 40).all (chkA mM_176) = true := by decide +kernel
theorem oka_176 : (mCd mM_176).all (chkA mM_176) = true := all_cut 40 [0, 40] (by decide +kernel) (by
  intro c hc
  simp only [List.mem_cons, List.not_mem_nil, or_false] at hc
  rcases hc with rfl | rfl
  · exact oka_176_0
  · exact oka_176_40)
theorem okh_176 : (mHd mM_176).all (chkH mM_176) = true := by decide +kernel
theorem okm_176 : chkM mM_176 = true := by decide +kernel
set_option maxRecDepth 100000 in
theorem okw_176 : mCw mM_176 ∈ gF := List.mem_of_getElem? (i := 360) rfl
theorem oka_177 : (mCd mM_177).all (chkA mM_177) = true := by decide +kernel
theorem okh_177 : (mHd mM_177).all (chkH mM_177) = true := by decide +kernel
theorem okm_177 : chkM mM_177 = true := by decide +kernel
set_option maxRecDepth 100000 in
theorem okw_177 : mCw mM_177 ∈ gF := List.mem_of_getElem? (i := 384) rfl
theorem oka_178 : (mCd mM_178).all (chkA mM_178) = true := by decide +kernel
theorem okh_178 : (mHd mM_178).all (chkH mM_178) = true := by decide +kernel
theorem okm_178 : chkM mM_178 = true := by decide +kernel
set_option maxRecDepth 100000 in
theorem okw_178 : mCw mM_178 ∈ gF := List.mem_of_getElem? (i := 316) rfl
theorem oka_179 : (mCd mM_179).all (chkA mM_179) = true := by decide +kernel
theorem okh_179 : (mHd mM_179).all (chkH mM_179) = true := by decide +kernel
theorem okm_179 : chkM mM_179 = true := by decide +kernel
set_option maxRecDepth 100000 in
theorem okw_179 : mCw mM_179 ∈ gF := List.mem_of_getElem? (i := 199) rfl
theorem oka_180_0 : ((mc_180.drop 0).take 40).all (chkA mM_180) = true := by decide +kernel
theorem oka_180_40 : ((mc_180.drop 40).take 40).all (chkA mM_180) = true := by decide +kernel
theorem oka_180 : (mCd mM_180).all (chkA mM_180) = true := all_cut 40 [0, 40] (by decide +kernel) (by
  intro c hc
  simp only [List.mem_cons, List.not_mem_nil, or_false] at hc
  rcases hc with rfl | rfl
  · exact oka_180_0
  · exact oka_180_40)
theorem okh_180 : (mHd mM_180).all (chkH mM_180) = true := by decide +kernel
theorem okm_180 : chkM mM_180 = true := by decide +kernel
set_option maxRecDepth 100000 in
theorem okw_180 : mCw mM_180 ∈ gF := List.mem_of_getElem? (i := 368) rfl
theorem oka_181 : (mCd mM_181).all (chkA mM_181) = true := by decide +kernel
theorem okh_181 : (mHd mM_181).all (chkH mM_181) = true := by decide +kernel
theorem okm_181 : chkM mM_181 = true := by decide +kernel
set_option maxRecDepth 100000 in
theorem okw_181 : mCw mM_181 ∈ gF := List.mem_of_getElem? (i := 372) rfl
theorem oka_182 : (mCd mM_182).all (chkA mM_182) = true := by decide +kernel
theorem okh_182 : (mHd mM_182).all (chkH mM_182) = true := by decide +kernel
theorem okm_182 : chkM mM_182 = true := by decide +kernel
set_option maxRecDepth 100000 in
theorem okw_182 : mCw mM_182 ∈ gF := List.mem_of_getElem? (i := 364) rfl
theorem oka_183_0 : ((mc_183.drop 0).take 40).all (chkA mM_183) = true := by decide +kernel
theorem oka_183_40 : ((mc_183.drop 40).take 40).all (chkA mM_183) = true := by decide +kernel
theorem oka_183 : (mCd mM_183).all (chkA mM_183) = true := all_cut 40 [0, 40] (by decide +kernel) (by
  intro c hc
  simp only [List.mem_cons, List.not_mem_nil, or_false] at hc
  rcases hc with rfl | rfl
  · exact oka_183_0
  · exact oka_183_40)
theorem okh_183 : (mHd mM_183).all (chkH mM_183) = true := by decide +kernel
theorem okm_183 : chkM mM_183 = true := by decide +kernel
set_option maxRecDepth 100000 in
theorem okw_183 : mCw mM_183 ∈ gF := List.mem_of_getElem? (i := 928) rfl
theorem oka_184 : (mCd mM_184).all (chkA mM_184) = true := by decide +kernel
theorem okh_184 : (mHd mM_184).all (chkH mM_184) = true := by decide +kernel
theorem okm_184 : chkM mM_184 = true := by decide +kernel
set_option maxRecDepth 100000 in
theorem okw_184 : mCw mM_184 ∈ gF := List.mem_of_getElem? (i := 923) rfl
theorem oka_185 : (mCd mM_185).all (chkA mM_185) = true := by decide +kernel
theorem okh_185 : (mHd mM_185).all (chkH mM_185) = true := by decide +kernel
theorem okm_185 : chkM mM_185 = true := by decide +kernel
set_option maxRecDepth 100000 in
theorem okw_185 : mCw mM_185 ∈ gF := List.mem_of_getElem? (i := 690) rfl
theorem oka_186 : (mCd mM_186).all (chkA mM_186) = true := by decide +kernel
theorem okh_186 : (mHd mM_186).all (chkH mM_186) = true := by decide +kernel
theorem okm_186 : chkM mM_186 = true := by decide +kernel
set_option maxRecDepth 100000 in
theorem okw_186 : mCw mM_186 ∈ gF := List.mem_of_getElem? (i := 142) rfl
theorem oka_187 : (mCd mM_187).all (chkA mM_187) = true := by decide +kernel
theorem okh_187 : (mHd mM_187).all (chkH mM_187) = true := by decide +kernel
theorem okm_187 : chkM mM_187 = true := by decide +kernel
set_option maxRecDepth 100000 in
theorem okw_187 : mCw mM_187 ∈ gF := List.mem_of_getElem? (i := 682) rfl
theorem oka_188 : (mCd mM_188).all (chkA mM_188) = true := by decide +kernel
theorem okh_188 : (mHd mM_188).all (chkH mM_188) = true := by decide +kernel
theorem okm_188 : chkM mM_188 = true := by decide +kernel
set_option maxRecDepth 100000 in
theorem okw_188 : mCw mM_188 ∈ gF := List.mem_of_getElem? (i := 436) rfl
theorem oka_189 : (mCd mM_189).all (chkA mM_189) = true := by decide +kernel
theorem okh_189 : (mHd mM_189).all (chkH mM_189) = true := by decide +kernel
theorem okm_189 : chkM mM_189 = true := by decide +kernel
set_option maxRecDepth 100000 in
theorem okw_189 : mCw mM_189 ∈ gF := List.mem_of_getElem? (i := 451) rfl
theorem oka_190 : (mCd mM_190).all (chkA mM_190) = true := by decide +kernel
theorem okh_190 : (mHd mM_190).all (chkH mM_190) = true := by decide +kernel
theorem okm_190 : chkM mM_190 = true := by decide +kernel
set_option maxRecDepth 100000 in
theorem okw_190 : mCw mM_190 ∈ gF := List.mem_of_getElem? (i := 788) rfl
theorem oka_191 : (mCd mM_191).all (chkA mM_191) = true := by decide +kernel
theorem okh_191 : (mHd mM_191).all (chkH mM_191) = true := by decide +kernel
theorem okm_191 : chkM mM_191 = true := by decide +kernel
set_option maxRecDepth 100000 in
theorem okw_191 : mCw mM_191 ∈ gF := List.mem_of_getElem? (i := 619) rfl
theorem oka_192 : (mCd mM_192).all (chkA mM_192) = true := by decide +kernel
theorem okh_192 : (mHd mM_192).all (chkH mM_192) = true := by decide +kernel
theorem okm_192 : chkM mM_192 = true := by decide +kernel
set_option maxRecDepth 100000 in
theorem okw_192 : mCw mM_192 ∈ gF := List.mem_of_getElem? (i := 653) rfl
theorem oka_193 : (mCd mM_193).all (chkA mM_193) = true := by decide +kernel
theorem okh_193 : (mHd mM_193).all (chkH mM_193) = true := by decide +kernel
theorem okm_193 : chkM mM_193 = true := by decide +kernel
set_option maxRecDepth 100000 in
theorem okw_193 : mCw mM_193 ∈ gF := List.mem_of_getElem? (i := 159) rfl
theorem oka_194 : (mCd mM_194).all (chkA mM_194) = true := by decide +kernel
theorem okh_194 : (mHd mM_194).all (chkH mM_194) = true := by decide +kernel
theorem okm_194 : chkM mM_194 = true := by decide +kernel
set_option maxRecDepth 100000 in
theorem okw_194 : mCw mM_194 ∈ gF := List.mem_of_getElem? (i := 637) rfl
theorem oka_195_0 : ((mc_195.drop 0).take 40).all (chkA mM_195) = true := by decide +kernel
theorem oka_195_40 : ((mc_195.drop 40).take 40).all (chkA mM_195) = true := by decide +kernel
theorem oka_195 : (mCd mM_195).all (chkA mM_195) = true := all_cut 40 [0, 40] (by decide +kernel) (by
  intro c hc
  simp only [List.mem_cons, List.not_mem_nil, or_false] at hc
  rcases hc with rfl | rfl
  · exact oka_195_0
  · exact oka_195_40)
theorem okh_195 : (mHd mM_195).all (chkH mM_195) = true := by decide +kernel
theorem okm_195 : chkM mM_195 = true := by decide +kernel
set_option maxRecDepth 100000 in
theorem okw_195 : mCw mM_195 ∈ gF := List.mem_of_getElem? (i := 645) rfl
theorem oka_196 : (mCd mM_196).all (chkA mM_196) = true := by decide +kernel
theorem okh_196 : (mHd mM_196).all (chkH mM_196) = true := by decide +kernel
theorem okm_196 : chkM mM_196 = true := by decide +kernel
set_option maxRecDepth 100000 in
theorem okw_196 : mCw mM_196 ∈ gF := List.mem_of_getElem? (i := 633) rfl
theorem oka_197 : (mCd mM_197).all (chkA mM_197) = true := by decide +kernel
theorem okh_197 : (mHd mM_197).all (chkH mM_197) = true := by decide +kernel
theorem okm_197 : chkM mM_197 = true := by decide +kernel
set_option maxRecDepth 100000 in
theorem okw_197 : mCw mM_197 ∈ gF := List.mem_of_getElem? (i := 649) rfl
theorem oka_198_0 : ((mc_198.drop 0).take 40).all (chkA mM_198) = true := by decide +kernel
theorem oka_198_40 : ((mc_198.drop 40).take 40).all (chkA mM_198) = true := by decide +kernel
theorem oka_198 : (mCd mM_198).all (chkA mM_198) = true := all_cut 40 [0, 40] (by decide +kernel) (by
  intro c hc
  simp only [List.mem_cons, List.not_mem_nil, or_false] at hc
  rcases hc with rfl | rfl
  · exact oka_198_0
  · exact oka_198_40)
theorem okh_198 : (mHd mM_198).all (chkH mM_198) = true := by decide +kernel
theorem okm_198 : chkM mM_198 = true := by decide +kernel
set_option maxRecDepth 100000 in
theorem okw_198 : mCw mM_198 ∈ gF := List.mem_of_getElem? (i := 641) rfl
theorem oka_199 : (mCd mM_199).all (chkA mM_199) = true := by decide +kernel
theorem okh_199 : (mHd mM_199).all (chkH mM_199) = true := by decide +kernel
theorem okm_199 : chkM mM_199 = true := by decide +kernel
set_option maxRecDepth 100000 in
theorem okw_199 : mCw mM_199 ∈ gF := List.mem_of_getElem? (i := 800) rfl
theorem oka_200 : (mCd mM_200).all (chkA mM_200) = true := by decide +kernel
theorem okh_200 : (mHd mM_200).all (chkH mM_200) = true := by decide +kernel
theorem okm_200 : chkM mM_200 = true := by decide +kernel
set_option maxRecDepth 100000 in
theorem okw_200 : mCw mM_200 ∈ gF := List.mem_of_getElem? (i := 834) rfl
theorem oka_201 : (mCd mM_201).all (chkA mM_201) = true := by decide +kernel
theorem okh_201 : (mHd mM_201).all (chkH mM_201) = true := by decide +kernel
theorem okm_201 : chkM mM_201 = true := by decide +kernel
set_option maxRecDepth 100000 in
theorem okw_201 : mCw mM_201 ∈ gF := List.mem_of_getElem? (i := 1096) rfl
theorem oka_202 : (mCd mM_202).all (chkA mM_202) = true := by decide +kernel
theorem okh_202 : (mHd mM_202).all (chkH mM_202) = true := by decide +kernel
theorem okm_202 : chkM mM_202 = true := by decide +kernel
set_option maxRecDepth 100000 in
theorem okw_202 : mCw mM_202 ∈ gF := List.mem_of_getElem? (i := 827) rfl
theorem oka_203 : (mCd mM_203).all (chkA mM_203) = true := by decide +kernel
theorem okh_203 : (mHd mM_203).all (chkH mM_203) = true := by decide +kernel
theorem okm_203 : chkM mM_203 = true := by decide +kernel
set_option maxRecDepth 100000 in
theorem okw_203 : mCw mM_203 ∈ gF := List.mem_of_getElem? (i := 838) rfl
theorem oka_204 : (mCd mM_204).all (chkA mM_204) = true := by decide +kernel
theorem okh_204 : (mHd mM_204).all (chkH mM_204) = true := by decide +kernel
theorem okm_204 : chkM mM_204 = true := by decide +kernel
set_option maxRecDepth 100000 in
theorem okw_204 : mCw mM_204 ∈ gF := List.mem_of_getElem? (i := 1027) rfl
theorem oka_205 : (mCd mM_205).all (chkA mM_205) = true := by decide +kernel
theorem okh_205 : (mHd mM_205).all (chkH mM_205) = true := by decide +kernel
theorem okm_205 : chkM mM_205 = true := by decide +kernel
set_option maxRecDepth 100000 in
theorem okw_205 : mCw mM_205 ∈ gF := List.mem_of_getElem? (i := 971) rfl
theorem oka_206_0 : ((mc_206.drop 0).take 40).all (chkA mM_206) = true := by decide +kernel
theorem oka_206_40 : ((mc_206.drop 40).take 40).all (chkA mM_206) = true := by decide +kernel
theorem oka_206 : (mCd mM_206).all (chkA mM_206) = true := all_cut 40 [0, 40] (by decide +kernel) (by
  intro c hc
  simp only [List.mem_cons, List.not_mem_nil, or_false] at hc
  rcases hc with rfl | rfl
  · exact oka_206_0
  · exact oka_206_40)
theorem okh_206 : (mHd mM_206).all (chkH mM_206) = true := by decide +kernel
theorem okm_206 : chkM mM_206 = true := by decide +kernel
set_option maxRecDepth 100000 in
theorem okw_206 : mCw mM_206 ∈ gF := List.mem_of_getElem? (i := 804) rfl
theorem oka_207 : (mCd mM_207).all (chkA mM_207) = true := by decide +kernel
theorem okh_207 : (mHd mM_207).all (chkH mM_207) = true := by decide +kernel
theorem okm_207 : chkM mM_207 = true := by decide +kernel
set_option maxRecDepth 100000 in
theorem okw_207 : mCw mM_207 ∈ gF := List.mem_of_getElem? (i := 166) rfl
theorem oka_208 : (mCd mM_208).all (chkA mM_208) = true := by decide +kernel
theorem okh_208 : (mHd mM_208).all (chkH mM_208) = true := by decide +kernel
theorem okm_208 : chkM mM_208 = true := by decide +kernel
set_option maxRecDepth 100000 in
theorem okw_208 : mCw mM_208 ∈ gF := List.mem_of_getElem? (i := 1031) rfl
theorem oka_209 : (mCd mM_209).all (chkA mM_209) = true := by decide +kernel
theorem okh_209 : (mHd mM_209).all (chkH mM_209) = true := by decide +kernel
theorem okm_209 : chkM mM_209 = true := by decide +kernel
set_option maxRecDepth 100000 in
theorem okw_209 : mCw mM_209 ∈ gF := List.mem_of_getElem? (i := 780) rfl
theorem oka_210 : (mCd mM_210).all (chkA mM_210) = true := by decide +kernel
theorem okh_210 : (mHd mM_210).all (chkH mM_210) = true := by decide +kernel
theorem okm_210 : chkM mM_210 = true := by decide +kernel
set_option maxRecDepth 100000 in
theorem okw_210 : mCw mM_210 ∈ gF := List.mem_of_getElem? (i := 768) rfl
theorem oka_211 : (mCd mM_211).all (chkA mM_211) = true := by decide +kernel
theorem okh_211 : (mHd mM_211).all (chkH mM_211) = true := by decide +kernel
theorem okm_211 : chkM mM_211 = true := by decide +kernel
set_option maxRecDepth 100000 in
theorem okw_211 : mCw mM_211 ∈ gF := List.mem_of_getElem? (i := 784) rfl
theorem oka_212 : (mCd mM_212).all (chkA mM_212) = true := by decide +kernel
theorem okh_212 : (mHd mM_212).all (chkH mM_212) = true := by decide +kernel
theorem okm_212 : chkM mM_212 = true := by decide +kernel
set_option maxRecDepth 100000 in
theorem okw_212 : mCw mM_212 ∈ gF := List.mem_of_getElem? (i := 772) rfl
theorem oka_213 : (mCd mM_213).all (chkA mM_213) = true := by decide +kernel
theorem okh_213 : (mHd mM_213).all (chkH mM_213) = true := by decide +kernel
theorem okm_213 : chkM mM_213 = true := by decide +kernel
set_option maxRecDepth 100000 in
theorem okw_213 : mCw mM_213 ∈ gF := List.mem_of_getElem? (i := 763) rfl
theorem oka_214 : (mCd mM_214).all (chkA mM_214) = true := by decide +kernel
theorem okh_214 : (mHd mM_214).all (chkH mM_214) = true := by decide +kernel
theorem okm_214 : chkM mM_214 = true := by decide +kernel
set_option maxRecDepth 100000 in
theorem okw_214 : mCw mM_214 ∈ gF := List.mem_of_getElem? (i := 1036) rfl
theorem oka_215 : (mCd mM_215).all (chkA mM_215) = true := by decide +kernel
theorem okh_215 : (mHd mM_215).all (chkH mM_215) = true := by decide +kernel
theorem okm_215 : chkM mM_215 = true := by decide +kernel
set_option maxRecDepth 100000 in
theorem okw_215 : mCw mM_215 ∈ gF := List.mem_of_getElem? (i := 1092) rfl
theorem oka_216 : (mCd mM_216).all (chkA mM_216) = true := by decide +kernel
theorem okh_216 : (mHd mM_216).all (chkH mM_216) = true := by decide +kernel
theorem okm_216 : chkM mM_216 = true := by decide +kernel
set_option maxRecDepth 100000 in
theorem okw_216 : mCw mM_216 ∈ gF := List.mem_of_getElem? (i := 180) rfl
theorem oka_217_0 : ((mc_217.drop 0).take 40).all (chkA mM_217) = true := by decide +kernel
theorem oka_217_40 : ((mc_217.drop 40).take 40).all (chkA mM_217) = true := by decide +kernel
theorem oka_217 : (mCd mM_217).all (chkA mM_217) = true := all_cut 40 [0, 40] (by decide +kernel) (by
  intro c hc
  simp only [List.mem_cons, List.not_mem_nil, or_false] at hc
  rcases hc with rfl | rfl
  · exact oka_217_0
  · exact oka_217_40)
theorem okh_217 : (mHd mM_217).all (chkH mM_217) = true := by decide +kernel
theorem okm_217 : chkM mM_217 = true := by decide +kernel
set_option maxRecDepth 100000 in
theorem okw_217 : mCw mM_217 ∈ gF := List.mem_of_getElem? (i := 965) rfl
theorem oka_218_0 : ((mc_218.drop 0).take 40).all (chkA mM_218) = true := by decide +kernel
theorem oka_218_40 : ((mc_218.drop 40).take 40).all (chkA mM_218) = true := by decide +kernel
theorem oka_218 : (mCd mM_218).all (chkA mM_218) = true := all_cut 40 [0, 40] (by decide +kernel) (by
  intro c hc
  simp only [List.mem_cons, List.not_mem_nil, or_false] at hc
  rcases hc with rfl | rfl
  · exact oka_218_0
  · exact oka_218_40)
theorem okh_218 : (mHd mM_218).all (chkH mM_218) = true := by decide +kernel
theorem okm_218 : chkM mM_218 = true := by decide +kernel
set_option maxRecDepth 100000 in
theorem okw_218 : mCw mM_218 ∈ gF := List.mem_of_getElem? (i := 937) rfl
theorem oka_219 : (mCd mM_219).all (chkA mM_219) = true := by decide +kernel
theorem okh_219 : (mHd mM_219).all (chkH mM_219) = true := by decide +kernel
theorem okm_219 : chkM mM_219 = true := by decide +kernel
set_option maxRecDepth 100000 in
theorem okw_219 : mCw mM_219 ∈ gF := List.mem_of_getElem? (i := 918) rfl
theorem oka_220_0 : ((mc_220.drop 0).take 40).all (chkA mM_220) = true := by decide +kernel
theorem oka_220_40 : ((mc_220.drop 40).take 40).all (chkA mM_220) = true := by decide +kernel
theorem oka_220 : (mCd mM_220).all (chkA mM_220) = true := all_cut 40 [0, 40] (by decide +kernel) (by
  intro c hc
  simp only [List.mem_cons, List.not_mem_nil, or_false] at hc
  rcases hc with rfl | rfl
  · exact oka_220_0
  · exact oka_220_40)
theorem okh_220 : (mHd mM_220).all (chkH mM_220) = true := by decide +kernel
theorem okm_220 : chkM mM_220 = true := by decide +kernel
set_option maxRecDepth 100000 in
theorem okw_220 : mCw mM_220 ∈ gF := List.mem_of_getElem? (i := 943) rfl
theorem oka_221 : (mCd mM_221).all (chkA mM_221) = true := by decide +kernel
theorem okh_221 : (mHd mM_221).all (chkH mM_221) = true := by decide +kernel
theorem okm_221 : chkM mM_221 = true := by decide +kernel
set_option maxRecDepth 100000 in
theorem okw_221 : mCw mM_221 ∈ gF := List.mem_of_getElem? (i := 610) rfl
theorem oka_222 : (mCd mM_222).all (chkA mM_222) = true := by decide +kernel
theorem okh_222 : (mHd mM_222).all (chkH mM_222) = true := by decide +kernel
theorem okm_222 : chkM mM_222 = true := by decide +kernel
set_option maxRecDepth 100000 in
theorem okw_222 : mCw mM_222 ∈ gF := List.mem_of_getElem? (i := 737) rfl
theorem oka_223 : (mCd mM_223).all (chkA mM_223) = true := by decide +kernel
theorem okh_223 : (mHd mM_223).all (chkH mM_223) = true := by decide +kernel
theorem okm_223 : chkM mM_223 = true := by decide +kernel
set_option maxRecDepth 100000 in
theorem okw_223 : mCw mM_223 ∈ gF := List.mem_of_getElem? (i := 148) rfl
theorem oka_224_0 : ((mc_224.drop 0).take 40).all (chkA mM_224) = true := by decide +kernel
theorem oka_224_40 : ((mc_224.drop 40).take 40).all (chkA mM_224) = true := by decide +kernel
theorem oka_224 : (mCd mM_224).all (chkA mM_224) = true := all_cut 40 [0, 40] (by decide +kernel) (by
  intro c hc
  simp only [List.mem_cons, List.not_mem_nil, or_false] at hc
  rcases hc with rfl | rfl
  · exact oka_224_0
  · exact oka_224_40)
theorem okh_224 : (mHd mM_224).all (chkH mM_224) = true := by decide +kernel
theorem okm_224 : chkM mM_224 = true := by decide +kernel
set_option maxRecDepth 100000 in
theorem okw_224 : mCw mM_224 ∈ gF := List.mem_of_getElem? (i := 776) rfl
theorem oka_225_0 : ((mc_225.drop 0).take 40).all (chkA mM_225) = true := by decide +kernel
theorem oka_225_40 : ((mc_225.drop 40).take 40).all (chkA mM_225) = true := by decide +kernel
theorem oka_225_80 : ((mc_225.drop 80).take 40).all (chkA mM_225) = true := by decide +kernel
theorem oka_225 : (mCd mM_225).all (chkA mM_225) = true := all_cut 40 [0, 40, 80] (by decide +kernel) (by
  intro c hc
  simp only [List.mem_cons, List.not_mem_nil, or_false] at hc
  rcases hc with rfl | rfl | rfl
  · exact oka_225_0
  · exact oka_225_40
  · exact oka_225_80)
theorem okh_225 : (mHd mM_225).all (chkH mM_225) = true := by decide +kernel
theorem okm_225 : chkM mM_225 = true := by decide +kernel
set_option maxRecDepth 100000 in
theorem okw_225 : mCw mM_225 ∈ gF := List.mem_of_getElem? (i := 614) rfl
theorem oka_226_0 : ((mc_226.drop 0).take 40).all (chkA mM_226) = true := by decide +kernel
theorem oka_226_40 : ((mc_226.drop 40).take 40).all (chkA mM_226) = true := by decide +kernel
theorem oka_226 : (mCd mM_226).all (chkA mM_226) = true := all_cut 40 [0, 40] (by decide +kernel) (by
  intro c hc
  simp only [List.mem_cons, List.not_mem_nil, or_false] at hc
  rcases hc with rfl | rfl
  · exact oka_226_0
  · exact oka_226_40)
theorem okh_226 : (mHd mM_226).all (chkH mM_226) = true := by decide +kernel
theorem okm_226 : chkM mM_226 = true := by decide +kernel
set_option maxRecDepth 100000 in
theorem okw_226 : mCw mM_226 ∈ gF := List.mem_of_getElem? (i := 657) rfl
theorem oka_227_0 : ((mc_227.drop 0).take 40).all (chkA mM_227) = true := by decide +kernel
theorem oka_227_40 : ((mc_227.drop 40).take 40).all (chkA mM_227) = true := by decide +kernel
theorem oka_227 : (mCd mM_227).all (chkA mM_227) = true := all_cut 40 [0, 40] (by decide +kernel) (by
  intro c hc
  simp only [List.mem_cons, List.not_mem_nil, or_false] at hc
  rcases hc with rfl | rfl
  · exact oka_227_0
  · exact oka_227_40)
theorem okh_227 : (mHd mM_227).all (chkH mM_227) = true := by decide +kernel
theorem okm_227 : chkM mM_227 = true := by decide +kernel
set_option maxRecDepth 100000 in
theorem okw_227 : mCw mM_227 ∈ gF := List.mem_of_getElem? (i := 694) rfl
theorem oka_228 : (mCd mM_228).all (chkA mM_228) = true := by decide +kernel
theorem okh_228 : (mHd mM_228).all (chkH mM_228) = true := by decide +kernel
theorem okm_228 : chkM mM_228 = true := by decide +kernel
set_option maxRecDepth 100000 in
theorem okw_228 : mCw mM_228 ∈ gF := List.mem_of_getElem? (i := 629) rfl
theorem oka_229_0 : ((mc_229.drop 0).take 40).all (chkA mM_229) = true := by decide +kernel
theorem oka_229_40 : ((mc_229.drop 40).take 40).all (chkA mM_229) = true := by decide +kernel
theorem oka_229 : (mCd mM_229).all (chkA mM_229) = true := all_cut 40 [0, 40] (by decide +kernel) (by
  intro c hc
  simp only [List.mem_cons, List.not_mem_nil, or_false] at hc
  rcases hc with rfl | rfl
  · exact oka_229_0
  · exact oka_229_40)
theorem okh_229 : (mHd mM_229).all (chkH mM_229) = true := by decide +kernel
theorem okm_229 : chkM mM_229 = true := by decide +kernel
set_option maxRecDepth 100000 in
theorem okw_229 : mCw mM_229 ∈ gF := List.mem_of_getElem? (i := 758) rfl
theorem oka_230 : (mCd mM_230).all (chkA mM_230) = true := by decide +kernel
theorem okh_230 : (mHd mM_230).all (chkH mM_230) = true := by decide +kernel
theorem okm_230 : chkM mM_230 = true := by decide +kernel
set_option maxRecDepth 100000 in
theorem okw_230 : mCw mM_230 ∈ gF := List.mem_of_getElem? (i := 851) rfl
theorem oka_231 : (mCd mM_231).all (chkA mM_231) = true := by decide +kernel
theorem okh_231 : (mHd mM_231).all (chkH mM_231) = true := by decide +kernel
theorem okm_231 : chkM mM_231 = true := by decide +kernel
set_option maxRecDepth 100000 in
theorem okw_231 : mCw mM_231 ∈ gF := List.mem_of_getElem? (i := 602) rfl
theorem oka_232 : (mCd mM_232).all (chkA mM_232) = true := by decide +kernel
theorem okh_232 : (mHd mM_232).all (chkH mM_232) = true := by decide +kernel
theorem okm_232 : chkM mM_232 = true := by decide +kernel
set_option maxRecDepth 100000 in
theorem okw_232 : mCw mM_232 ∈ gF := List.mem_of_getElem? (i := 729) rfl
theorem oka_233 : (mCd mM_233).all (chkA mM_233) = true := by decide +kernel
theorem okh_233 : (mHd mM_233).all (chkH mM_233) = true := by decide +kernel
theorem okm_233 : chkM mM_233 = true := by decide +kernel
set_option maxRecDepth 100000 in
theorem okw_233 : mCw mM_233 ∈ gF := List.mem_of_getElem? (i := 460) rfl
theorem oka_234 : (mCd mM_234).all (chkA mM_234) = true := by decide +kernel
theorem okh_234 : (mHd mM_234).all (chkH mM_234) = true := by decide +kernel
theorem okm_234 : chkM mM_234 = true := by decide +kernel
set_option maxRecDepth 100000 in
theorem okw_234 : mCw mM_234 ∈ gF := List.mem_of_getElem? (i := 300) rfl
theorem oka_235 : (mCd mM_235).all (chkA mM_235) = true := by decide +kernel
theorem okh_235 : (mHd mM_235).all (chkH mM_235) = true := by decide +kernel
theorem okm_235 : chkM mM_235 = true := by decide +kernel
set_option maxRecDepth 100000 in
theorem okw_235 : mCw mM_235 ∈ gF := List.mem_of_getElem? (i := 428) rfl
theorem oka_236 : (mCd mM_236).all (chkA mM_236) = true := by decide +kernel
theorem okh_236 : (mHd mM_236).all (chkH mM_236) = true := by decide +kernel
theorem okm_236 : chkM mM_236 = true := by decide +kernel
set_option maxRecDepth 100000 in
theorem okw_236 : mCw mM_236 ∈ gF := List.mem_of_getElem? (i := 868) rfl
theorem oka_237 : (mCd mM_237).all (chkA mM_237) = true := by decide +kernel
theorem okh_237 : (mHd mM_237).all (chkH mM_237) = true := by decide +kernel
theorem okm_237 : chkM mM_237 = true := by decide +kernel
set_option maxRecDepth 100000 in
theorem okw_237 : mCw mM_237 ∈ gF := List.mem_of_getElem? (i := 587) rfl
theorem oka_238 : (mCd mM_238).all (chkA mM_238) = true := by decide +kernel
theorem okh_238 : (mHd mM_238).all (chkH mM_238) = true := by decide +kernel
theorem okm_238 : chkM mM_238 = true := by decide +kernel
set_option maxRecDepth 100000 in
theorem okw_238 : mCw mM_238 ∈ gF := List.mem_of_getElem? (i := 476) rfl
theorem oka_239 : (mCd mM_239).all (chkA mM_239) = true := by decide +kernel
theorem okh_239 : (mHd mM_239).all (chkH mM_239) = true := by decide +kernel
theorem okm_239 : chkM mM_239 = true := by decide +kernel
set_option maxRecDepth 100000 in
theorem okw_239 : mCw mM_239 ∈ gF := List.mem_of_getElem? (i := 887) rfl
theorem oka_241 : (mCd mM_241).all (chkA mM_241) = true := by decide +kernel
theorem okh_241 : (mHd mM_241).all (chkH mM_241) = true := by decide +kernel
theorem okm_241 : chkM mM_241 = true := by decide +kernel
set_option maxRecDepth 100000 in
theorem okw_241 : mCw mM_241 ∈ gF := List.mem_of_getElem? (i := 443) rfl
theorem oka_242 : (mCd mM_242).all (chkA mM_242) = true := by decide +kernel
theorem okh_242 : (mHd mM_242).all (chkH mM_242) = true := by decide +kernel
theorem okm_242 : chkM mM_242 = true := by decide +kernel
set_option maxRecDepth 100000 in
theorem okw_242 : mCw mM_242 ∈ gF := List.mem_of_getElem? (i := 1051) rfl
theorem oka_243 : (mCd mM_243).all (chkA mM_243) = true := by decide +kernel
theorem okh_243 : (mHd mM_243).all (chkH mM_243) = true := by decide +kernel
theorem okm_243 : chkM mM_243 = true := by decide +kernel
set_option maxRecDepth 100000 in
theorem okw_243 : mCw mM_243 ∈ gF := List.mem_of_getElem? (i := 1191) rfl
theorem oka_244 : (mCd mM_244).all (chkA mM_244) = true := by decide +kernel
theorem okh_244 : (mHd mM_244).all (chkH mM_244) = true := by decide +kernel
theorem okm_244 : chkM mM_244 = true := by decide +kernel
set_option maxRecDepth 100000 in
theorem okw_244 : mCw mM_244 ∈ gF := List.mem_of_getElem? (i := 745) rfl
theorem oka_245 : (mCd mM_245).all (chkA mM_245) = true := by decide +kernel
theorem okh_245 : (mHd mM_245).all (chkH mM_245) = true := by decide +kernel
theorem okm_245 : chkM mM_245 = true := by decide +kernel
set_option maxRecDepth 100000 in
theorem okw_245 : mCw mM_245 ∈ gF := List.mem_of_getElem? (i := 1018) rfl
theorem oka_246 : (mCd mM_246).all (chkA mM_246) = true := by decide +kernel
theorem okh_246 : (mHd mM_246).all (chkH mM_246) = true := by decide +kernel
theorem okm_246 : chkM mM_246 = true := by decide +kernel
set_option maxRecDepth 100000 in
theorem okw_246 : mCw mM_246 ∈ gF := List.mem_of_getElem? (i := 338) rfl
theorem oka_247 : (mCd mM_247).all (chkA mM_247) = true := by decide +kernel
theorem okh_247 : (mHd mM_247).all (chkH mM_247) = true := by decide +kernel
theorem okm_247 : chkM mM_247 = true := by decide +kernel
set_option maxRecDepth 100000 in
theorem okw_247 : mCw mM_247 ∈ gF := List.mem_of_getElem? (i := 1067) rfl
theorem oka_248 : (mCd mM_248).all (chkA mM_248) = true := by decide +kernel
theorem okh_248 : (mHd mM_248).all (chkH mM_248) = true := by decide +kernel
theorem okm_248 : chkM mM_248 = true := by decide +kernel
set_option maxRecDepth 100000 in
theorem okw_248 : mCw mM_248 ∈ gF := List.mem_of_getElem? (i := 1084) rfl
theorem oka_249 : (mCd mM_249).all (chkA mM_249) = true := by decide +kernel
theorem okh_249 : (mHd mM_249).all (chkH mM_249) = true := by decide +kernel
theorem okm_249 : chkM mM_249 = true := by decide +kernel
set_option maxRecDepth 100000 in
theorem okw_249 : mCw mM_249 ∈ gF := List.mem_of_getElem? (i := 898) rfl
theorem oka_250 : (mCd mM_250).all (chkA mM_250) = true := by decide +kernel
theorem okh_250 : (mHd mM_250).all (chkH mM_250) = true := by decide +kernel
theorem okm_250 : chkM mM_250 = true := by decide +kernel
set_option maxRecDepth 100000 in
theorem okw_250 : mCw mM_250 ∈ gF := List.mem_of_getElem? (i := 1118) rfl
theorem oka_251 : (mCd mM_251).all (chkA mM_251) = true := by decide +kernel
theorem okh_251 : (mHd mM_251).all (chkH mM_251) = true := by decide +kernel
theorem okm_251 : chkM mM_251 = true := by decide +kernel
set_option maxRecDepth 100000 in
theorem okw_251 : mCw mM_251 ∈ gF := List.mem_of_getElem? (i := 1103) rfl
theorem oka_252 : (mCd mM_252).all (chkA mM_252) = true := by decide +kernel
theorem okh_252 : (mHd mM_252).all (chkH mM_252) = true := by decide +kernel
theorem okm_252 : chkM mM_252 = true := by decide +kernel
set_option maxRecDepth 100000 in
theorem okw_252 : mCw mM_252 ∈ gF := List.mem_of_getElem? (i := 391) rfl
theorem oka_253 : (mCd mM_253).all (chkA mM_253) = true := by decide +kernel
theorem okh_253 : (mHd mM_253).all (chkH mM_253) = true := by decide +kernel
theorem okm_253 : chkM mM_253 = true := by decide +kernel
set_option maxRecDepth 100000 in
theorem okw_253 : mCw mM_253 ∈ gF := List.mem_of_getElem? (i := 413) rfl
theorem oka_254 : (mCd mM_254).all (chkA mM_254) = true := by decide +kernel
theorem okh_254 : (mHd mM_254).all (chkH mM_254) = true := by decide +kernel
theorem okm_254 : chkM mM_254 = true := by decide +kernel
set_option maxRecDepth 100000 in
theorem okw_254 : mCw mM_254 ∈ gF := List.mem_of_getElem? (i := 494) rfl
