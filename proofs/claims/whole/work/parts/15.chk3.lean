set_option maxRecDepth 100000 in
theorem chk_160 : chkM 160 = true := by decide +kernel
set_option maxRecDepth 100000 in
theorem chk_161 : chkM 161 = true := by decide +kernel
set_option maxRecDepth 100000 in
theorem chk_162 : chkM 162 = true := by decide +kernel
set_option maxRecDepth 100000 in
theorem chk_163 : chkM 163 = true := by decide +kernel
set_option maxRecDepth 100000 in
theorem chk_164 : chkM 164 = true := by decide +kernel
set_option maxRecDepth 100000 in
theorem chk_165 : chkM 165 = true := by decide +kernel
set_option maxRecDepth 100000 in
theorem chk_166 : chkM 166 = true := by decide +kernel
set_option maxRecDepth 100000 in
theorem chk_167 : chkM 167 = true := by decide +kernel
set_option maxRecDepth 100000 in
theorem chk_168 : chkM 168 = true := by decide +kernel
set_option maxRecDepth 100000 in
theorem chk_169 : chkM 169 = true := by decide +kernel
set_option maxRecDepth 100000 in
theorem chk_170 : chkM 170 = true := by decide +kernel
set_option maxRecDepth 100000 in
theorem chk_171 : chkM 171 = true := by decide +kernel
set_option maxRecDepth 100000 in
theorem chk_172 : chkM 172 = true := by decide +kernel
set_option maxRecDepth 100000 in
theorem chk_173 : chkM 173 = true := by decide +kernel
set_option maxRecDepth 100000 in
theorem chk_174 : chkM 174 = true := by decide +kernel
set_option maxRecDepth 100000 in
theorem chk_175 : chkM 175 = true := by decide +kernel
set_option maxRecDepth 100000 in
theorem chk_176 : chkM 176 = true := by decide +kernel
set_option maxRecDepth 100000 in
theorem chk_177 : chkM 177 = true := by decide +kernel
set_option maxRecDepth 100000 in
theorem chk_178 : chkM 178 = true := by decide +kernel
set_option maxRecDepth 100000 in
theorem chk_179 : chkM 179 = true := by decide +kernel
set_option maxRecDepth 100000 in
theorem chk_180 : chkM 180 = true := by decide +kernel
set_option maxRecDepth 100000 in
theorem chk_181 : chkM 181 = true := by decide +kernel
set_option maxRecDepth 100000 in
theorem chk_182 : chkM 182 = true := by decide +kernel
set_option maxRecDepth 100000 in
theorem chk_183 : chkM 183 = true := by decide +kernel
set_option maxRecDepth 100000 in
theorem chk_184 : chkM 184 = true := by decide +kernel
set_option maxRecDepth 100000 in
theorem chk_185 : chkM 185 = true := by decide +kernel
set_option maxRecDepth 100000 in
theorem chk_186 : chkM 186 = true := by decide +kernel
set_option maxRecDepth 100000 in
theorem chk_187 : chkM 187 = true := by decide +kernel
set_option maxRecDepth 100000 in
theorem chk_188 : chkM 188 = true := by decide +kernel
set_option maxRecDepth 100000 in
theorem chk_189 : chkM 189 = true := by decide +kernel
set_option maxRecDepth 100000 in
theorem chk_190 : chkM 190 = true := by decide +kernel
set_option maxRecDepth 100000 in
theorem chk_191 : chkM 191 = true := by decide +kernel
set_option maxRecDepth 100000 in
theorem chk_192 : chkM 192 = true := by decide +kernel
set_option maxRecDepth 100000 in
theorem chk_193 : chkM 193 = true := by decide +kernel
set_option maxRecDepth 100000 in
theorem chk_194 : chkM 194 = true := by decide +kernel
