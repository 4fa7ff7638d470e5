set_option maxRecDepth 100000 in
theorem chk_142 : chkM 142 = true := by decide +kernel
set_option maxRecDepth 100000 in
theorem chk_143 : chkM 143 = true := by decide +kernel
set_option maxRecDepth 100000 in
theorem chk_144 : chkM 144 = true := by decide +kernel
set_option maxRecDepth 100000 in
theorem chk_145 : chkM 145 = true := by decide +kernel
set_option maxRecDepth 100000 in
theorem chk_146 : chkM 146 = true := by decide +kernel
set_option maxRecDepth 100000 in
theorem chk_147 : chkM 147 = true := by decide +kernel
set_option maxRecDepth 100000 in
theorem chk_148 : chkM 148 = true := by decide +kernel
set_option maxRecDepth 100000 in
theorem chk_149 : chkM 149 = true := by decide +kernel
set_option maxRecDepth 100000 in
theorem chk_150 : chkM 150 = true := by decide +kernel
set_option maxRecDepth 100000 in
theorem chk_151 : chkM 151 = true := by decide +kernel
set_option maxRecDepth 100000 in
theorem chk_152 : chkM 152 = true := by decide +kernel
set_option maxRecDepth 100000 in
theorem chk_153 : chkM 153 = true := by decide +kernel
set_option maxRecDepth 100000 in
theorem chk_154 : chkM 154 = true := by decide +kernel
set_option maxRecDepth 100000 in
theorem chk_155 : chkM 155 = true := by decide +kernel
set_option maxRecDepth 100000 in
theorem chk_156 : chkM 156 = true := by decide +kernel
set_option maxRecDepth 100000 in
theorem chk_157 : chkM 157 = true := by decide +kernel
set_option maxRecDepth 100000 in
theorem chk_158 : chkM 158 = true := by decide +kernel
set_option maxRecDepth 100000 in
theorem chk_159 : chkM 159 = true := by decide +kernel
