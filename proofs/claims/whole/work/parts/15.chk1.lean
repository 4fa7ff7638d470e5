set_option maxRecDepth 100000 in
theorem chk_84 : chkM 84 = true := by decide +kernel
set_option maxRecDepth 100000 in
theorem chk_85 : chkM 85 = true := by decide +kernel
set_option maxRecDepth 100000 in
theorem chk_86 : chkM 86 = true := by decide +kernel
set_option maxRecDepth 100000 in
theorem chk_87 : chkM 87 = true := by decide +kernel
set_option maxRecDepth 100000 in
theorem chk_88 : chkM 88 = true := by decide +kernel
set_option maxRecDepth 100000 in
theorem chk_89 : chkM 89 = true := by decide +kernel
set_option maxRecDepth 100000 in
theorem chk_90 : chkM 90 = true := by decide +kernel
set_option maxRecDepth 100000 in
theorem chk_91 : chkM 91 = true := by decide +kernel
set_option maxRecDepth 100000 in
theorem chk_92 : chkM 92 = true := by decide +kernel
set_option maxRecDepth 100000 in
theorem chk_93 : chkM 93 = true := by decide +kernel
set_option maxRecDepth 100000 in
theorem chk_94 : chkM 94 = true := by decide +kernel
set_option maxRecDepth 100000 in
theorem chk_95 : chkM 95 = true := by decide +kernel
set_option maxRecDepth 100000 in
theorem chk_96 : chkM 96 = true := by decide +kernel
set_option maxRecDepth 100000 in
theorem chk_97 : chkM 97 = true := by decide +kernel
set_option maxRecDepth 100000 in
theorem chk_98 : chkM 98 = true := by decide +kernel
set_option maxRecDepth 100000 in
theorem chk_99 : chkM 99 = true := by decide +kernel
set_option maxRecDepth 100000 in
theorem chk_100 : chkM 100 = true := by decide +kernel
set_option maxRecDepth 100000 in
theorem chk_101 : chkM 101 = true := by decide +kernel
set_option maxRecDepth 100000 in
theorem chk_102 : chkM 102 = true := by decide +kernel
set_option maxRecDepth 100000 in
theorem chk_103 : chkM 103 = true := by decide +kernel
set_option maxRecDepth 100000 in
theorem chk_104 : chkM 104 = true := by decide +kernel
set_option maxRecDepth 100000 in
theorem chk_105 : chkM 105 = true := by decide +kernel
set_option maxRecDepth 100000 in
theorem chk_106 : chkM 106 = true := by decide +kernel
set_option maxRecDepth 100000 in
theorem chk_107 : chkM 107 = true := by decide +kernel
set_option maxRecDepth 100000 in
theorem chk_108 : chkM 108 = true := by decide +kernel
set_option maxRecDepth 100000 in
theorem chk_109 : chkM 109 = true := by decide +kernel
set_option maxRecDepth 100000 in
theorem chk_110 : chkM 110 = true := by decide +kernel
set_option maxRecDepth 100000 in
theorem chk_111 : chkM 111 = true := by decide +kernel
set_option maxRecDepth 100000 in
theorem chk_112 : chkM 112 = true := by decide +kernel
set_option maxRecDepth 100000 in
theorem chk_113 : chkM 113 = true := by decide +kernel
set_option maxRecDepth 100000 in
theorem chk_114 : chkM 114 = true := by decide +kernel
set_option maxRecDepth 100000 in
theorem chk_115 : chkM 115 = true := by decide +kernel
set_option maxRecDepth 100000 in
theorem chk_116 : chkM 116 = true := by decide +kernel
set_option maxRecDepth 100000 in
theorem chk_117 : chkM 117 = true := by decide +kernel
set_option maxRecDepth 100000 in
theorem chk_118 : chkM 118 = true := by decide +kernel
set_option maxRecDepth 100000 in
theorem chk_119 : chkM 119 = true := by decide +kernel
set_option maxRecDepth 100000 in
theorem chk_120 : chkM 120 = true := by decide +kernel
set_option maxRecDepth 100000 in
theorem chk_121 : chkM 121 = true := by decide +kernel
set_option maxRecDepth 100000 in
theorem chk_122 : chkM 122 = true := by decide +kernel
set_option maxRecDepth 100000 in
theorem chk_123 : chkM 123 = true := by decide +kernel
set_option maxRecDepth 100000 in
theorem chk_124 : chkM 124 = true := by decide +kernel
set_option maxRecDepth 100000 in
theorem chk_125 : chkM 125 = true := by decide +kernel
set_option maxRecDepth 100000 in
theorem chk_126 : chkM 126 = true := by decide +kernel
set_option maxRecDepth 100000 in
theorem chk_127 : chkM 127 = true := by decide +kernel
set_option maxRecDepth 100000 in
theorem chk_128 : chkM 128 = true := by decide +kernel
set_option maxRecDepth 100000 in
theorem chk_129 : chkM 129 = true := by decide +kernel
set_option maxRecDepth 100000 in
theorem chk_130 : chkM 130 = true := by decide +kernel
set_option maxRecDepth 100000 in
theorem chk_131 : chkM 131 = true := by decide +kernel
set_option maxRecDepth 100000 in
theorem chk_132 : chkM 132 = true := by decide +kernel
set_option maxRecDepth 100000 in
theorem chk_133 : chkM 133 = true := by decide +kernel
set_option maxRecDepth 100000 in
theorem chk_134 : chkM 134 = true := by decide +kernel
set_option maxRecDepth 100000 in
theorem chk_135 : chkM 135 = true := by decide +kernel
set_option maxRecDepth 100000 in
theorem chk_136 : chkM 136 = true := by decide +kernel
set_option maxRecDepth 100000 in
theorem chk_137 : chkM 137 = true := by decide +kernel
set_option maxRecDepth 100000 in
theorem chk_138 : chkM 138 = true := by decide +kernel
set_option maxRecDepth 100000 in
theorem chk_139 : chkM 139 = true := by decide +kernel
set_option maxRecDepth 100000 in
theorem chk_140 : chkM 140 = true := by decide +kernel
set_option maxRecDepth 100000 in
theorem chk_141 : chkM 141 = true := by decide +kernel
set_option maxRecDepth 100000 in
theorem chk_142 : chkM 142 = true := by decide +kernel
set_option maxRecDepth 100000 in
theorem chk_143 : chkM 143 = true := by decide +kernel
set_option maxRecDepth 100000 in
theorem chk_144 : chkM 144 = true := by decide +kernel
set_option maxRecDepth 100000 in
theorem chk_145 : chkM 145 = true := by decide +kernel
set_option maxRecDepth 100000 in
theorem chk_146 : chkM 146 = true := by decide +kernel
set_option maxRecDepth 100000 in
theorem chk_147 : chkM 147 = true := by decide +kernel
set_option maxRecDepth 100000 in
theorem chk_148 : chkM 148 = true := by decide +kernel
set_option maxRecDepth 100000 in
theorem chk_149 : chkM 149 = true := by decide +kernel
set_option maxRecDepth 100000 in
theorem chk_150 : chkM 150 = true := by decide +kernel
set_option maxRecDepth 100000 in
theorem chk_151 : chkM 151 = true := by decide +kernel
set_option maxRecDepth 100000 in
theorem chk_152 : chkM 152 = true := by decide +kernel
set_option maxRecDepth 100000 in
theorem chk_153 : chkM 153 = true := by decide +kernel
set_option maxRecDepth 100000 in
theorem chk_154 : chkM 154 = true := by decide +kernel
set_option maxRecDepth 100000 in
theorem chk_155 : chkM 155 = true := by decide +kernel
set_option maxRecDepth 100000 in
theorem chk_156 : chkM 156 = true := by decide +kernel
set_option maxRecDepth 100000 in
theorem chk_157 : chkM 157 = true := by decide +kernel
set_option maxRecDepth 100000 in
theorem chk_158 : chkM 158 = true := by decide +kernel
set_option maxRecDepth 100000 in
theorem chk_159_0 : ((pCode 159).take 40).all (chkFl 159) = true := by decide +kernel
set_option maxRecDepth 100000 in
theorem chk_159_1 : (((pCode 159).drop 40).take 40).all (chkFl 159) = true := by decide +kernel
set_option maxRecDepth 100000 in
theorem chk_159_2 : ((((pCode 159).drop 40).drop 40).take 40).all (chkFl 159) = true := by decide +kernel
set_option maxRecDepth 100000 in
theorem chk_159_3 : (((((pCode 159).drop 40).drop 40).drop 40).take 40).all (chkFl 159) = true := by decide +kernel
set_option maxRecDepth 100000 in
theorem chk_159_4 : ((((((pCode 159).drop 40).drop 40).drop 40).drop 40).take 40).all (chkFl 159) = true := by decide +kernel
set_option maxRecDepth 100000 in
theorem chk_159_5 : (((((((pCode 159).drop 40).drop 40).drop 40).drop 40).drop 40).take 40).all (chkFl 159) = true := by decide +kernel
