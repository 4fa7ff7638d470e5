set_option maxRecDepth 100000 in
theorem chk_159_6 : ((((((((pCode 159).drop 40).drop 40).drop 40).drop 40).drop 40).drop 40).take 40).all (chkFl 159) = true := by decide +kernel
set_option maxRecDepth 100000 in
theorem chk_159_7 : (((((((((pCode 159).drop 40).drop 40).drop 40).drop 40).drop 40).drop 40).drop 40).take 40).all (chkFl 159) = true := by decide +kernel
set_option maxRecDepth 100000 in
theorem chk_159_8 : ((((((((((pCode 159).drop 40).drop 40).drop 40).drop 40).drop 40).drop 40).drop 40).drop 40).take 40).all (chkFl 159) = true := by decide +kernel
set_option maxRecDepth 100000 in
theorem chk_159_9 : (((((((((((pCode 159).drop 40).drop 40).drop 40).drop 40).drop 40).drop 40).drop 40).drop 40).drop 40).take 40).all (chkFl 159) = true := by decide +kernel
set_option maxRecDepth 100000 in
theorem chk_159_10 : ((((((((((((pCode 159).drop 40).drop 40).drop 40).drop 40).drop 40).drop 40).drop 40).drop 40).drop 40).drop 40).take 40).all (chkFl 159) = true := by decide +kernel
set_option maxRecDepth 100000 in
theorem chk_159_11 : (((((((((((((pCode 159).drop 40).drop 40).drop 40).drop 40).drop 40).drop 40).drop 40).drop 40).drop 40).drop 40).drop 40).take 40).all (chkFl 159) = true := by decide +kernel
set_option maxRecDepth 100000 in
theorem chk_159_12 : (((((((((((((pCode 159).drop 40).drop 40).drop 40).drop 40).drop 40).drop 40).drop 40).drop 40).drop 40).drop 40).drop 40).drop 40).all (chkFl 159) = true := by decide +kernel
theorem chk_159 : chkM 159 = true := (all_cut 40 chk_159_0 (all_cut 40 chk_159_1 (all_cut 40 chk_159_2 (all_cut 40 chk_159_3 (all_cut 40 chk_159_4 (all_cut 40 chk_159_5 (all_cut 40 chk_159_6 (all_cut 40 chk_159_7 (all_cut 40 chk_159_8 (all_cut 40 chk_159_9 (all_cut 40 chk_159_10 (all_cut 40 chk_159_11 chk_159_12))))))))))))
set_option maxRecDepth 100000 in
theorem chk_160 : chkM 160 = true := by decide +kernel
set_option maxRecDepth 100000 in
theorem chk_161 : chkM 161 = true := by decide +kernel
set_option maxRecDepth 100000 in
theorem chk_162 : chkM 162 = true := by decide +kernel
set_option maxRecDepth 100000 in
theorem chk_163 : chkM 163 = true := by decide +kernel
set_option maxRecDepth 100000 in
theorem chk_164 : chkM 164 = true := by decide +kernel
set_option maxRecDepth 100000 in
theorem chk_165 : chkM 165 = true := by decide +kernel
set_option maxRecDepth 100000 in
theorem chk_166 : chkM 166 = true := by decide +kernel
set_option maxRecDepth 100000 in
theorem chk_167 : chkM 167 = true := by decide +kernel
set_option maxRecDepth 100000 in
theorem chk_168 : chkM 168 = true := by decide +kernel
set_option maxRecDepth 100000 in
theorem chk_169_0 : ((pCode 169).take 40).all (chkFl 169) = true := by decide +kernel
set_option maxRecDepth 100000 in
theorem chk_169_1 : (((pCode 169).drop 40).take 40).all (chkFl 169) = true := by decide +kernel
set_option maxRecDepth 100000 in
theorem chk_169_2 : ((((pCode 169).drop 40).drop 40).take 40).all (chkFl 169) = true := by decide +kernel
set_option maxRecDepth 100000 in
theorem chk_169_3 : (((((pCode 169).drop 40).drop 40).drop 40).take 40).all (chkFl 169) = true := by decide +kernel
set_option maxRecDepth 100000 in
theorem chk_169_4 : (((((pCode 169).drop 40).drop 40).drop 40).drop 40).all (chkFl 169) = true := by decide +kernel
theorem chk_169 : chkM 169 = true := (all_cut 40 chk_169_0 (all_cut 40 chk_169_1 (all_cut 40 chk_169_2 (all_cut 40 chk_169_3 chk_169_4))))
set_option maxRecDepth 100000 in
theorem chk_170 : chkM 170 = true := by decide +kernel
set_option maxRecDepth 100000 in
theorem chk_171 : chkM 171 = true := by decide +kernel
set_option maxRecDepth 100000 in
theorem chk_172 : chkM 172 = true := by decide +kernel
set_option maxRecDepth 100000 in
theorem chk_173 : chkM 173 = true := by decide +kernel
set_option maxRecDepth 100000 in
theorem chk_174 : chkM 174 = true := by decide +kernel
set_option maxRecDepth 100000 in
theorem chk_175 : chkM 175 = true := by decide +kernel
set_option maxRecDepth 100000 in
theorem chk_176 : chkM 176 = true := by decide +kernel
