set_option maxRecDepth 100000 in
theorem key_100 : keyP 100 := ⟨(gwc_4 (i := 15) rfl rfl), ini_10, clsn_10, fun _ => ⟨(gwc_4 (i := 13) rfl rfl), (gwc_4 (i := 14) rfl rfl)⟩, fun h => absurd h (by decide), fun h => absurd h (by decide), rfl, Or.inl ⟨by decide, rfl⟩, by decide +kernel⟩
set_option maxRecDepth 100000 in
theorem key_101 : keyP 101 := ⟨(gwc_1 (i := 208) rfl rfl), ini_10, clsn_10, fun h => absurd h (by decide), fun _ => (gwc_1 (i := 207) rfl rfl), fun h => absurd h (by decide), rfl, Or.inr (Or.inr rfl), by decide +kernel⟩
set_option maxRecDepth 100000 in
theorem key_102 : keyP 102 := ⟨(gwc_3 (i := 115) rfl rfl), ini_10, clsn_10, fun h => absurd h (by decide), fun _ => (gwc_3 (i := 114) rfl rfl), fun h => absurd h (by decide), rfl, Or.inr (Or.inr rfl), by decide +kernel⟩
set_option maxRecDepth 100000 in
theorem key_103 : keyP 103 := ⟨(gwc_3 (i := 121) rfl rfl), ini_10, clsn_10, fun h => absurd h (by decide), fun _ => (gwc_3 (i := 120) rfl rfl), fun h => absurd h (by decide), rfl, Or.inr (Or.inr rfl), by decide +kernel⟩
set_option maxRecDepth 100000 in
theorem key_104 : keyP 104 := ⟨(gwc_3 (i := 124) rfl rfl), ini_10, clsn_10, fun h => absurd h (by decide), fun _ => (gwc_3 (i := 123) rfl rfl), fun h => absurd h (by decide), rfl, Or.inr (Or.inr rfl), by decide +kernel⟩
set_option maxRecDepth 100000 in
theorem key_105 : keyP 105 := ⟨(gwc_3 (i := 118) rfl rfl), ini_10, clsn_10, fun h => absurd h (by decide), fun _ => (gwc_3 (i := 117) rfl rfl), fun h => absurd h (by decide), rfl, Or.inr (Or.inr rfl), by decide +kernel⟩
set_option maxRecDepth 100000 in
theorem key_106 : keyP 106 := ⟨(gwc_3 (i := 128) rfl rfl), ini_10, clsn_10, fun _ => ⟨(gwc_3 (i := 127) rfl rfl), (gw_of (i := 2) (by decide +kernel) rfl)⟩, fun h => absurd h (by decide), fun h => absurd h (by decide), rfl, Or.inl ⟨by decide, rfl⟩, by decide +kernel⟩
set_option maxRecDepth 100000 in
theorem key_107 : keyP 107 := ⟨(gwc_3 (i := 132) rfl rfl), ini_10, clsn_10, fun _ => ⟨(gwc_3 (i := 131) rfl rfl), (gw_of (i := 3) (by decide +kernel) rfl)⟩, fun h => absurd h (by decide), fun h => absurd h (by decide), rfl, Or.inl ⟨by decide, rfl⟩, by decide +kernel⟩
set_option maxRecDepth 100000 in
theorem key_108 : keyP 108 := ⟨(gwc_3 (i := 137) rfl rfl), ini_10, clsn_10, fun _ => ⟨(gwc_3 (i := 136) rfl rfl), (gw_of (i := 4) (by decide +kernel) rfl)⟩, fun h => absurd h (by decide), fun h => absurd h (by decide), rfl, Or.inl ⟨by decide, rfl⟩, by decide +kernel⟩
set_option maxRecDepth 100000 in
theorem key_109 : keyP 109 := ⟨(gwc_1 (i := 27) rfl rfl), ini_11, clsn_11, fun h => absurd h (by decide), fun h => absurd h (by decide), fun _ => ⟨(gwc_1 (i := 26) rfl rfl), rfl⟩, rfl, Or.inl ⟨by decide, rfl⟩, by decide +kernel⟩
set_option maxRecDepth 100000 in
theorem key_110 : keyP 110 := ⟨(gwc_3 (i := 96) rfl rfl), ini_11, clsn_11, fun _ => ⟨(gwc_3 (i := 94) rfl rfl), (gwc_3 (i := 95) rfl rfl)⟩, fun h => absurd h (by decide), fun h => absurd h (by decide), rfl, Or.inl ⟨by decide, rfl⟩, by decide +kernel⟩
set_option maxRecDepth 100000 in
theorem key_111 : keyP 111 := ⟨(gwc_3 (i := 104) rfl rfl), ini_11, clsn_11, fun _ => ⟨(gwc_3 (i := 102) rfl rfl), (gwc_3 (i := 103) rfl rfl)⟩, fun h => absurd h (by decide), fun h => absurd h (by decide), rfl, Or.inl ⟨by decide, rfl⟩, by decide +kernel⟩
set_option maxRecDepth 100000 in
theorem key_112 : keyP 112 := ⟨(gwc_3 (i := 108) rfl rfl), ini_11, clsn_11, fun _ => ⟨(gwc_3 (i := 106) rfl rfl), (gwc_3 (i := 107) rfl rfl)⟩, fun h => absurd h (by decide), fun h => absurd h (by decide), rfl, Or.inl ⟨by decide, rfl⟩, by decide +kernel⟩
set_option maxRecDepth 100000 in
theorem key_113 : keyP 113 := ⟨(gwc_4 (i := 142) rfl rfl), ini_11, clsn_11, fun _ => ⟨(gwc_4 (i := 140) rfl rfl), (gwc_4 (i := 141) rfl rfl)⟩, fun h => absurd h (by decide), fun h => absurd h (by decide), rfl, Or.inl ⟨by decide, rfl⟩, by decide +kernel⟩
set_option maxRecDepth 100000 in
theorem key_114 : keyP 114 := ⟨(gwc_4 (i := 146) rfl rfl), ini_11, clsn_11, fun _ => ⟨(gwc_4 (i := 144) rfl rfl), (gwc_4 (i := 145) rfl rfl)⟩, fun h => absurd h (by decide), fun h => absurd h (by decide), rfl, Or.inl ⟨by decide, rfl⟩, by decide +kernel⟩
set_option maxRecDepth 100000 in
theorem key_115 : keyP 115 := ⟨(gwc_4 (i := 199) rfl rfl), ini_11, clsn_11, fun _ => ⟨(gwc_4 (i := 197) rfl rfl), (gwc_4 (i := 198) rfl rfl)⟩, fun h => absurd h (by decide), fun h => absurd h (by decide), rfl, Or.inl ⟨by decide, rfl⟩, by decide +kernel⟩
set_option maxRecDepth 100000 in
theorem key_116 : keyP 116 := ⟨(gwc_4 (i := 217) rfl rfl), ini_11, clsn_11, fun _ => ⟨(gwc_4 (i := 215) rfl rfl), (gwc_4 (i := 216) rfl rfl)⟩, fun h => absurd h (by decide), fun h => absurd h (by decide), rfl, Or.inl ⟨by decide, rfl⟩, by decide +kernel⟩
set_option maxRecDepth 100000 in
theorem key_117 : keyP 117 := ⟨(gwc_4 (i := 226) rfl rfl), ini_11, clsn_11, fun _ => ⟨(gwc_4 (i := 224) rfl rfl), (gwc_4 (i := 225) rfl rfl)⟩, fun h => absurd h (by decide), fun h => absurd h (by decide), rfl, Or.inl ⟨by decide, rfl⟩, by decide +kernel⟩
set_option maxRecDepth 100000 in
theorem key_118 : keyP 118 := ⟨(gwc_5 (i := 2) rfl rfl), ini_11, clsn_11, fun _ => ⟨(gwc_5 (i := 0) rfl rfl), (gwc_5 (i := 1) rfl rfl)⟩, fun h => absurd h (by decide), fun h => absurd h (by decide), rfl, Or.inl ⟨by decide, rfl⟩, by decide +kernel⟩
set_option maxRecDepth 100000 in
theorem key_119 : keyP 119 := ⟨(gwc_5 (i := 38) rfl rfl), ini_11, clsn_11, fun _ => ⟨(gwc_5 (i := 36) rfl rfl), (gwc_5 (i := 37) rfl rfl)⟩, fun h => absurd h (by decide), fun h => absurd h (by decide), rfl, Or.inl ⟨by decide, rfl⟩, by decide +kernel⟩
set_option maxRecDepth 100000 in
theorem key_120 : keyP 120 := ⟨(gwc_5 (i := 60) rfl rfl), ini_11, clsn_11, fun _ => ⟨(gwc_5 (i := 58) rfl rfl), (gwc_5 (i := 59) rfl rfl)⟩, fun h => absurd h (by decide), fun h => absurd h (by decide), rfl, Or.inl ⟨by decide, rfl⟩, by decide +kernel⟩
set_option maxRecDepth 100000 in
theorem key_121 : keyP 121 := ⟨(gwc_5 (i := 68) rfl rfl), ini_11, clsn_11, fun _ => ⟨(gwc_5 (i := 66) rfl rfl), (gwc_5 (i := 67) rfl rfl)⟩, fun h => absurd h (by decide), fun h => absurd h (by decide), rfl, Or.inl ⟨by decide, rfl⟩, by decide +kernel⟩
set_option maxRecDepth 100000 in
theorem key_122 : keyP 122 := ⟨(gwc_5 (i := 80) rfl rfl), ini_11, clsn_11, fun _ => ⟨(gwc_5 (i := 78) rfl rfl), (gwc_5 (i := 79) rfl rfl)⟩, fun h => absurd h (by decide), fun h => absurd h (by decide), rfl, Or.inl ⟨by decide, rfl⟩, by decide +kernel⟩
set_option maxRecDepth 100000 in
theorem key_123 : keyP 123 := ⟨(gwc_5 (i := 88) rfl rfl), ini_11, clsn_11, fun _ => ⟨(gwc_5 (i := 86) rfl rfl), (gwc_5 (i := 87) rfl rfl)⟩, fun h => absurd h (by decide), fun h => absurd h (by decide), rfl, Or.inl ⟨by decide, rfl⟩, by decide +kernel⟩
set_option maxRecDepth 100000 in
theorem key_124 : keyP 124 := ⟨(gwc_5 (i := 95) rfl rfl), ini_11, clsn_11, fun _ => ⟨(gwc_5 (i := 93) rfl rfl), (gwc_5 (i := 94) rfl rfl)⟩, fun h => absurd h (by decide), fun h => absurd h (by decide), rfl, Or.inl ⟨by decide, rfl⟩, by decide +kernel⟩
set_option maxRecDepth 100000 in
theorem key_125 : keyP 125 := ⟨(gwc_5 (i := 106) rfl rfl), ini_11, clsn_11, fun _ => ⟨(gwc_5 (i := 104) rfl rfl), (gwc_5 (i := 105) rfl rfl)⟩, fun h => absurd h (by decide), fun h => absurd h (by decide), rfl, Or.inl ⟨by decide, rfl⟩, by decide +kernel⟩
set_option maxRecDepth 100000 in
theorem key_126 : keyP 126 := ⟨(gwc_5 (i := 110) rfl rfl), ini_11, clsn_11, fun _ => ⟨(gwc_5 (i := 108) rfl rfl), (gwc_5 (i := 109) rfl rfl)⟩, fun h => absurd h (by decide), fun h => absurd h (by decide), rfl, Or.inl ⟨by decide, rfl⟩, by decide +kernel⟩
set_option maxRecDepth 100000 in
theorem key_127 : keyP 127 := ⟨(gwc_5 (i := 149) rfl rfl), ini_11, clsn_11, fun _ => ⟨(gwc_5 (i := 147) rfl rfl), (gwc_5 (i := 148) rfl rfl)⟩, fun h => absurd h (by decide), fun h => absurd h (by decide), rfl, Or.inl ⟨by decide, rfl⟩, by decide +kernel⟩
set_option maxRecDepth 100000 in
theorem key_128 : keyP 128 := ⟨(gwc_5 (i := 157) rfl rfl), ini_11, clsn_11, fun _ => ⟨(gwc_5 (i := 155) rfl rfl), (gwc_5 (i := 156) rfl rfl)⟩, fun h => absurd h (by decide), fun h => absurd h (by decide), rfl, Or.inl ⟨by decide, rfl⟩, by decide +kernel⟩
set_option maxRecDepth 100000 in
theorem key_129 : keyP 129 := ⟨(gwc_5 (i := 181) rfl rfl), ini_11, clsn_11, fun _ => ⟨(gwc_5 (i := 179) rfl rfl), (gwc_5 (i := 180) rfl rfl)⟩, fun h => absurd h (by decide), fun h => absurd h (by decide), rfl, Or.inl ⟨by decide, rfl⟩, by decide +kernel⟩
set_option maxRecDepth 100000 in
theorem key_130 : keyP 130 := ⟨(gwc_5 (i := 197) rfl rfl), ini_11, clsn_11, fun _ => ⟨(gwc_5 (i := 195) rfl rfl), (gwc_5 (i := 196) rfl rfl)⟩, fun h => absurd h (by decide), fun h => absurd h (by decide), rfl, Or.inl ⟨by decide, rfl⟩, by decide +kernel⟩
set_option maxRecDepth 100000 in
theorem key_131 : keyP 131 := ⟨(gwc_5 (i := 209) rfl rfl), ini_11, clsn_11, fun _ => ⟨(gwc_5 (i := 207) rfl rfl), (gwc_5 (i := 208) rfl rfl)⟩, fun h => absurd h (by decide), fun h => absurd h (by decide), rfl, Or.inl ⟨by decide, rfl⟩, by decide +kernel⟩
set_option maxRecDepth 100000 in
theorem key_132 : keyP 132 := ⟨(gwc_5 (i := 213) rfl rfl), ini_11, clsn_11, fun _ => ⟨(gwc_5 (i := 211) rfl rfl), (gwc_5 (i := 212) rfl rfl)⟩, fun h => absurd h (by decide), fun h => absurd h (by decide), rfl, Or.inl ⟨by decide, rfl⟩, by decide +kernel⟩
set_option maxRecDepth 100000 in
theorem key_133 : keyP 133 := ⟨(gwc_5 (i := 217) rfl rfl), ini_11, clsn_11, fun _ => ⟨(gwc_5 (i := 215) rfl rfl), (gwc_5 (i := 216) rfl rfl)⟩, fun h => absurd h (by decide), fun h => absurd h (by decide), rfl, Or.inl ⟨by decide, rfl⟩, by decide +kernel⟩
set_option maxRecDepth 100000 in
theorem key_134 : keyP 134 := ⟨(gwc_5 (i := 222) rfl rfl), ini_11, clsn_11, fun _ => ⟨(gwc_5 (i := 220) rfl rfl), (gwc_5 (i := 221) rfl rfl)⟩, fun h => absurd h (by decide), fun h => absurd h (by decide), rfl, Or.inl ⟨by decide, rfl⟩, by decide +kernel⟩
set_option maxRecDepth 100000 in
theorem key_135 : keyP 135 := ⟨(gwc_5 (i := 226) rfl rfl), ini_11, clsn_11, fun _ => ⟨(gwc_5 (i := 224) rfl rfl), (gwc_5 (i := 225) rfl rfl)⟩, fun h => absurd h (by decide), fun h => absurd h (by decide), rfl, Or.inl ⟨by decide, rfl⟩, by decide +kernel⟩
set_option maxRecDepth 100000 in
theorem key_136 : keyP 136 := ⟨(gwc_5 (i := 230) rfl rfl), ini_11, clsn_11, fun _ => ⟨(gwc_5 (i := 228) rfl rfl), (gwc_5 (i := 229) rfl rfl)⟩, fun h => absurd h (by decide), fun h => absurd h (by decide), rfl, Or.inl ⟨by decide, rfl⟩, by decide +kernel⟩
set_option maxRecDepth 100000 in
theorem key_137 : keyP 137 := ⟨(gwc_6 (i := 9) rfl rfl), ini_11, clsn_11, fun _ => ⟨(gwc_6 (i := 7) rfl rfl), (gwc_6 (i := 8) rfl rfl)⟩, fun h => absurd h (by decide), fun h => absurd h (by decide), rfl, Or.inl ⟨by decide, rfl⟩, by decide +kernel⟩
set_option maxRecDepth 100000 in
theorem key_138 : keyP 138 := ⟨(gwc_6 (i := 17) rfl rfl), ini_11, clsn_11, fun _ => ⟨(gwc_6 (i := 15) rfl rfl), (gwc_6 (i := 16) rfl rfl)⟩, fun h => absurd h (by decide), fun h => absurd h (by decide), rfl, Or.inl ⟨by decide, rfl⟩, by decide +kernel⟩
set_option maxRecDepth 100000 in
theorem key_139 : keyP 139 := ⟨(gwc_6 (i := 21) rfl rfl), ini_11, clsn_11, fun _ => ⟨(gwc_6 (i := 19) rfl rfl), (gwc_6 (i := 20) rfl rfl)⟩, fun h => absurd h (by decide), fun h => absurd h (by decide), rfl, Or.inl ⟨by decide, rfl⟩, by decide +kernel⟩
set_option maxRecDepth 100000 in
theorem key_140 : keyP 140 := ⟨(gwc_6 (i := 26) rfl rfl), ini_11, clsn_11, fun _ => ⟨(gwc_6 (i := 24) rfl rfl), (gwc_6 (i := 25) rfl rfl)⟩, fun h => absurd h (by decide), fun h => absurd h (by decide), rfl, Or.inl ⟨by decide, rfl⟩, by decide +kernel⟩
set_option maxRecDepth 100000 in
theorem key_141 : keyP 141 := ⟨(gwc_6 (i := 30) rfl rfl), ini_11, clsn_11, fun _ => ⟨(gwc_6 (i := 28) rfl rfl), (gwc_6 (i := 29) rfl rfl)⟩, fun h => absurd h (by decide), fun h => absurd h (by decide), rfl, Or.inl ⟨by decide, rfl⟩, by decide +kernel⟩
set_option maxRecDepth 100000 in
theorem key_142 : keyP 142 := ⟨(gwc_3 (i := 23) rfl rfl), ini_11, clsn_11, fun _ => ⟨(gwc_3 (i := 22) rfl rfl), (gw_of (i := 0) (by decide +kernel) rfl)⟩, fun h => absurd h (by decide), fun h => absurd h (by decide), rfl, Or.inl ⟨by decide, rfl⟩, by decide +kernel⟩
set_option maxRecDepth 100000 in
theorem key_143 : keyP 143 := ⟨(gwc_3 (i := 100) rfl rfl), ini_11, clsn_11, fun _ => ⟨(gwc_3 (i := 99) rfl rfl), (gw_of (i := 1) (by decide +kernel) rfl)⟩, fun h => absurd h (by decide), fun h => absurd h (by decide), rfl, Or.inl ⟨by decide, rfl⟩, by decide +kernel⟩
set_option maxRecDepth 100000 in
theorem key_144 : keyP 144 := ⟨(gwc_4 (i := 221) rfl rfl), ini_11, clsn_11, fun _ => ⟨(gwc_4 (i := 220) rfl rfl), (gw_of (i := 36) (by decide +kernel) rfl)⟩, fun h => absurd h (by decide), fun h => absurd h (by decide), rfl, Or.inl ⟨by decide, rfl⟩, by decide +kernel⟩
set_option maxRecDepth 100000 in
theorem key_145 : keyP 145 := ⟨(gwc_4 (i := 203) rfl rfl), ini_11, clsn_11, fun _ => ⟨(gwc_4 (i := 202) rfl rfl), (gw_of (i := 35) (by decide +kernel) rfl)⟩, fun h => absurd h (by decide), fun h => absurd h (by decide), rfl, Or.inl ⟨by decide, rfl⟩, by decide +kernel⟩
set_option maxRecDepth 100000 in
theorem key_146 : keyP 146 := ⟨(gwc_4 (i := 150) rfl rfl), ini_11, clsn_11, fun _ => ⟨(gwc_4 (i := 149) rfl rfl), (gw_of (i := 31) (by decide +kernel) rfl)⟩, fun h => absurd h (by decide), fun h => absurd h (by decide), rfl, Or.inl ⟨by decide, rfl⟩, by decide +kernel⟩
set_option maxRecDepth 100000 in
theorem key_147 : keyP 147 := ⟨(gwc_5 (i := 114) rfl rfl), ini_11, clsn_11, fun _ => ⟨(gwc_5 (i := 113) rfl rfl), (gw_of (i := 42) (by decide +kernel) rfl)⟩, fun h => absurd h (by decide), fun h => absurd h (by decide), rfl, Or.inl ⟨by decide, rfl⟩, by decide +kernel⟩
set_option maxRecDepth 100000 in
theorem key_148 : keyP 148 := ⟨(gwc_5 (i := 234) rfl rfl), ini_11, clsn_11, fun _ => ⟨(gwc_5 (i := 233) rfl rfl), (gw_of (i := 49) (by decide +kernel) rfl)⟩, fun h => absurd h (by decide), fun h => absurd h (by decide), rfl, Or.inl ⟨by decide, rfl⟩, by decide +kernel⟩
set_option maxRecDepth 100000 in
theorem key_149 : keyP 149 := ⟨(gwc_6 (i := 34) rfl rfl), ini_11, clsn_11, fun _ => ⟨(gwc_6 (i := 33) rfl rfl), (gw_of (i := 53) (by decide +kernel) rfl)⟩, fun h => absurd h (by decide), fun h => absurd h (by decide), rfl, Or.inl ⟨by decide, rfl⟩, by decide +kernel⟩
set_option maxRecDepth 100000 in
theorem key_150 : keyP 150 := ⟨(gwc_5 (i := 238) rfl rfl), ini_11, clsn_11, fun _ => ⟨(gwc_5 (i := 237) rfl rfl), (gw_of (i := 50) (by decide +kernel) rfl)⟩, fun h => absurd h (by decide), fun h => absurd h (by decide), rfl, Or.inl ⟨by decide, rfl⟩, by decide +kernel⟩
set_option maxRecDepth 100000 in
theorem key_151 : keyP 151 := ⟨(gwc_6 (i := 2) rfl rfl), ini_11, clsn_11, fun _ => ⟨(gwc_6 (i := 1) rfl rfl), (gw_of (i := 51) (by decide +kernel) rfl)⟩, fun h => absurd h (by decide), fun h => absurd h (by decide), rfl, Or.inl ⟨by decide, rfl⟩, by decide +kernel⟩
set_option maxRecDepth 100000 in
theorem key_152 : keyP 152 := ⟨(gwc_6 (i := 13) rfl rfl), ini_11, clsn_11, fun _ => ⟨(gwc_6 (i := 12) rfl rfl), (gw_of (i := 52) (by decide +kernel) rfl)⟩, fun h => absurd h (by decide), fun h => absurd h (by decide), rfl, Or.inl ⟨by decide, rfl⟩, by decide +kernel⟩
set_option maxRecDepth 100000 in
theorem key_153 : keyP 153 := ⟨(gwc_5 (i := 34) rfl rfl), ini_11, clsn_11, fun h => absurd h (by decide), fun _ => (gwc_5 (i := 33) rfl rfl), fun h => absurd h (by decide), rfl, Or.inr (Or.inr rfl), by decide +kernel⟩
set_option maxRecDepth 100000 in
theorem key_154 : keyP 154 := ⟨(gwc_4 (i := 154) rfl rfl), ini_11, clsn_11, fun h => absurd h (by decide), fun _ => (gwc_4 (i := 153) rfl rfl), fun h => absurd h (by decide), rfl, Or.inr (Or.inr rfl), by decide +kernel⟩
set_option maxRecDepth 100000 in
theorem key_155 : keyP 155 := ⟨(gwc_4 (i := 157) rfl rfl), ini_11, clsn_11, fun h => absurd h (by decide), fun _ => (gwc_4 (i := 156) rfl rfl), fun h => absurd h (by decide), rfl, Or.inr (Or.inr rfl), by decide +kernel⟩
set_option maxRecDepth 100000 in
theorem key_156 : keyP 156 := ⟨(gwc_4 (i := 174) rfl rfl), ini_11, clsn_11, fun h => absurd h (by decide), fun _ => (gwc_4 (i := 173) rfl rfl), fun h => absurd h (by decide), rfl, Or.inr (Or.inr rfl), by decide +kernel⟩
set_option maxRecDepth 100000 in
theorem key_157 : keyP 157 := ⟨(gwc_4 (i := 193) rfl rfl), ini_11, clsn_11, fun h => absurd h (by decide), fun _ => (gwc_4 (i := 192) rfl rfl), fun h => absurd h (by decide), rfl, Or.inr (Or.inr rfl), by decide +kernel⟩
set_option maxRecDepth 100000 in
theorem key_158 : keyP 158 := ⟨(gwc_5 (i := 102) rfl rfl), ini_11, clsn_11, fun h => absurd h (by decide), fun _ => (gwc_5 (i := 101) rfl rfl), fun h => absurd h (by decide), rfl, Or.inr (Or.inr rfl), by decide +kernel⟩
set_option maxRecDepth 100000 in
theorem key_159 : keyP 159 := ⟨(gwc_6 (i := 39) rfl rfl), ini_12, clsn_12, fun h => absurd h (by decide), fun h => absurd h (by decide), fun _ => ⟨(gwc_6 (i := 38) rfl rfl), rfl⟩, rfl, Or.inl ⟨by decide, rfl⟩, by decide +kernel⟩
set_option maxRecDepth 100000 in
theorem key_160 : keyP 160 := ⟨(gwc_7 (i := 48) rfl rfl), ini_12, clsn_12, fun _ => ⟨(gwc_7 (i := 46) rfl rfl), (gwc_7 (i := 47) rfl rfl)⟩, fun h => absurd h (by decide), fun h => absurd h (by decide), rfl, Or.inl ⟨by decide, rfl⟩, by decide +kernel⟩
set_option maxRecDepth 100000 in
theorem key_161 : keyP 161 := ⟨(gwc_7 (i := 52) rfl rfl), ini_12, clsn_12, fun _ => ⟨(gwc_7 (i := 51) rfl rfl), (gw_of (i := 57) (by decide +kernel) rfl)⟩, fun h => absurd h (by decide), fun h => absurd h (by decide), rfl, Or.inl ⟨by decide, rfl⟩, by decide +kernel⟩
set_option maxRecDepth 100000 in
theorem key_162 : keyP 162 := ⟨(gwc_7 (i := 56) rfl rfl), ini_12, clsn_12, fun _ => ⟨(gwc_7 (i := 54) rfl rfl), (gwc_7 (i := 55) rfl rfl)⟩, fun h => absurd h (by decide), fun h => absurd h (by decide), rfl, Or.inl ⟨by decide, rfl⟩, by decide +kernel⟩
set_option maxRecDepth 100000 in
theorem key_163 : keyP 163 := ⟨(gwc_7 (i := 68) rfl rfl), ini_12, clsn_12, fun _ => ⟨(gwc_7 (i := 67) rfl rfl), (gw_of (i := 59) (by decide +kernel) rfl)⟩, fun h => absurd h (by decide), fun h => absurd h (by decide), rfl, Or.inl ⟨by decide, rfl⟩, by decide +kernel⟩
set_option maxRecDepth 100000 in
theorem key_164 : keyP 164 := ⟨(gwc_7 (i := 78) rfl rfl), ini_12, clsn_12, fun h => absurd h (by decide), fun _ => (gwc_7 (i := 77) rfl rfl), fun h => absurd h (by decide), rfl, Or.inr (Or.inr rfl), by decide +kernel⟩
set_option maxRecDepth 100000 in
theorem key_165 : keyP 165 := ⟨(gwc_7 (i := 75) rfl rfl), ini_12, clsn_12, fun h => absurd h (by decide), fun _ => (gwc_7 (i := 74) rfl rfl), fun h => absurd h (by decide), rfl, Or.inr (Or.inr rfl), by decide +kernel⟩
set_option maxRecDepth 100000 in
theorem key_166 : keyP 166 := ⟨(gwc_6 (i := 50) rfl rfl), ini_12, clsn_12, fun h => absurd h (by decide), fun _ => (gwc_6 (i := 49) rfl rfl), fun h => absurd h (by decide), rfl, Or.inr (Or.inr rfl), by decide +kernel⟩
set_option maxRecDepth 100000 in
theorem key_167 : keyP 167 := ⟨(gwc_6 (i := 47) rfl rfl), ini_12, clsn_12, fun h => absurd h (by decide), fun _ => (gwc_6 (i := 46) rfl rfl), fun h => absurd h (by decide), rfl, Or.inr (Or.inr rfl), by decide +kernel⟩
set_option maxRecDepth 100000 in
theorem key_168 : keyP 168 := ⟨(gwc_7 (i := 72) rfl rfl), ini_12, clsn_12, fun _ => ⟨(gwc_7 (i := 71) rfl rfl), (gw_of (i := 60) (by decide +kernel) rfl)⟩, fun h => absurd h (by decide), fun h => absurd h (by decide), rfl, Or.inl ⟨by decide, rfl⟩, by decide +kernel⟩
set_option maxRecDepth 100000 in
theorem key_169 : keyP 169 := ⟨(gwc_7 (i := 64) rfl rfl), ini_12, clsn_12, fun _ => ⟨(gwc_7 (i := 63) rfl rfl), (gw_of (i := 58) (by decide +kernel) rfl)⟩, fun h => absurd h (by decide), fun h => absurd h (by decide), rfl, Or.inl ⟨by decide, rfl⟩, by decide +kernel⟩
set_option maxRecDepth 100000 in
theorem key_170 : keyP 170 := ⟨(gwc_7 (i := 82) rfl rfl), ini_12, clsn_12, fun _ => ⟨(gwc_7 (i := 81) rfl rfl), (gw_of (i := 61) (by decide +kernel) rfl)⟩, fun h => absurd h (by decide), fun h => absurd h (by decide), rfl, Or.inl ⟨by decide, rfl⟩, by decide +kernel⟩
set_option maxRecDepth 100000 in
theorem key_171 : keyP 171 := ⟨(gwc_7 (i := 86) rfl rfl), ini_12, clsn_12, fun _ => ⟨(gwc_7 (i := 85) rfl rfl), (gw_of (i := 62) (by decide +kernel) rfl)⟩, fun h => absurd h (by decide), fun h => absurd h (by decide), rfl, Or.inl ⟨by decide, rfl⟩, by decide +kernel⟩
set_option maxRecDepth 100000 in
theorem key_172 : keyP 172 := ⟨(gwc_7 (i := 98) rfl rfl), ini_12, clsn_12, fun _ => ⟨(gwc_7 (i := 97) rfl rfl), (gw_of (i := 65) (by decide +kernel) rfl)⟩, fun h => absurd h (by decide), fun h => absurd h (by decide), rfl, Or.inl ⟨by decide, rfl⟩, by decide +kernel⟩
set_option maxRecDepth 100000 in
theorem key_173 : keyP 173 := ⟨(gwc_7 (i := 118) rfl rfl), ini_12, clsn_12, fun _ => ⟨(gwc_7 (i := 117) rfl rfl), (gw_of (i := 70) (by decide +kernel) rfl)⟩, fun h => absurd h (by decide), fun h => absurd h (by decide), rfl, Or.inl ⟨by decide, rfl⟩, by decide +kernel⟩
set_option maxRecDepth 100000 in
theorem key_174 : keyP 174 := ⟨(gwc_7 (i := 102) rfl rfl), ini_12, clsn_12, fun _ => ⟨(gwc_7 (i := 101) rfl rfl), (gw_of (i := 66) (by decide +kernel) rfl)⟩, fun h => absurd h (by decide), fun h => absurd h (by decide), rfl, Or.inl ⟨by decide, rfl⟩, by decide +kernel⟩
set_option maxRecDepth 100000 in
theorem key_175 : keyP 175 := ⟨(gwc_7 (i := 114) rfl rfl), ini_12, clsn_12, fun _ => ⟨(gwc_7 (i := 113) rfl rfl), (gw_of (i := 69) (by decide +kernel) rfl)⟩, fun h => absurd h (by decide), fun h => absurd h (by decide), rfl, Or.inl ⟨by decide, rfl⟩, by decide +kernel⟩
set_option maxRecDepth 100000 in
theorem key_176 : keyP 176 := ⟨(gwc_6 (i := 44) rfl rfl), ini_12, clsn_12, fun _ => ⟨(gwc_6 (i := 43) rfl rfl), (gw_of (i := 54) (by decide +kernel) rfl)⟩, fun h => absurd h (by decide), fun h => absurd h (by decide), rfl, Or.inl ⟨by decide, rfl⟩, by decide +kernel⟩
set_option maxRecDepth 100000 in
theorem key_177 : keyP 177 := ⟨(gwc_7 (i := 60) rfl rfl), ini_12, clsn_12, fun _ => ⟨(gwc_7 (i := 58) rfl rfl), (gwc_7 (i := 59) rfl rfl)⟩, fun h => absurd h (by decide), fun h => absurd h (by decide), rfl, Or.inl ⟨by decide, rfl⟩, by decide +kernel⟩
set_option maxRecDepth 100000 in
theorem key_178 : keyP 178 := ⟨(gwc_7 (i := 174) rfl rfl), ini_12, clsn_12, fun _ => ⟨(gwc_7 (i := 172) rfl rfl), (gwc_7 (i := 173) rfl rfl)⟩, fun h => absurd h (by decide), fun h => absurd h (by decide), rfl, Or.inl ⟨by decide, rfl⟩, by decide +kernel⟩
set_option maxRecDepth 100000 in
theorem key_179 : keyP 179 := ⟨(gwc_7 (i := 94) rfl rfl), ini_12, clsn_12, fun _ => ⟨(gwc_7 (i := 93) rfl rfl), (gw_of (i := 64) (by decide +kernel) rfl)⟩, fun h => absurd h (by decide), fun h => absurd h (by decide), rfl, Or.inl ⟨by decide, rfl⟩, by decide +kernel⟩
set_option maxRecDepth 100000 in
theorem key_180 : keyP 180 := ⟨(gwc_7 (i := 90) rfl rfl), ini_12, clsn_12, fun _ => ⟨(gwc_7 (i := 89) rfl rfl), (gw_of (i := 63) (by decide +kernel) rfl)⟩, fun h => absurd h (by decide), fun h => absurd h (by decide), rfl, Or.inl ⟨by decide, rfl⟩, by decide +kernel⟩
set_option maxRecDepth 100000 in
theorem key_181 : keyP 181 := ⟨(gwc_7 (i := 110) rfl rfl), ini_12, clsn_12, fun _ => ⟨(gwc_7 (i := 109) rfl rfl), (gw_of (i := 68) (by decide +kernel) rfl)⟩, fun h => absurd h (by decide), fun h => absurd h (by decide), rfl, Or.inl ⟨by decide, rfl⟩, by decide +kernel⟩
set_option maxRecDepth 100000 in
theorem key_182 : keyP 182 := ⟨(gwc_7 (i := 126) rfl rfl), ini_12, clsn_12, fun _ => ⟨(gwc_7 (i := 125) rfl rfl), (gw_of (i := 72) (by decide +kernel) rfl)⟩, fun h => absurd h (by decide), fun h => absurd h (by decide), rfl, Or.inl ⟨by decide, rfl⟩, by decide +kernel⟩
set_option maxRecDepth 100000 in
theorem key_183 : keyP 183 := ⟨(gwc_7 (i := 134) rfl rfl), ini_12, clsn_12, fun _ => ⟨(gwc_7 (i := 133) rfl rfl), (gw_of (i := 74) (by decide +kernel) rfl)⟩, fun h => absurd h (by decide), fun h => absurd h (by decide), rfl, Or.inl ⟨by decide, rfl⟩, by decide +kernel⟩
set_option maxRecDepth 100000 in
theorem key_184 : keyP 184 := ⟨(gwc_7 (i := 122) rfl rfl), ini_12, clsn_12, fun _ => ⟨(gwc_7 (i := 121) rfl rfl), (gw_of (i := 71) (by decide +kernel) rfl)⟩, fun h => absurd h (by decide), fun h => absurd h (by decide), rfl, Or.inl ⟨by decide, rfl⟩, by decide +kernel⟩
set_option maxRecDepth 100000 in
theorem key_185 : keyP 185 := ⟨(gwc_7 (i := 106) rfl rfl), ini_12, clsn_12, fun _ => ⟨(gwc_7 (i := 105) rfl rfl), (gw_of (i := 67) (by decide +kernel) rfl)⟩, fun h => absurd h (by decide), fun h => absurd h (by decide), rfl, Or.inl ⟨by decide, rfl⟩, by decide +kernel⟩
set_option maxRecDepth 100000 in
theorem key_186 : keyP 186 := ⟨(gwc_7 (i := 130) rfl rfl), ini_12, clsn_12, fun _ => ⟨(gwc_7 (i := 129) rfl rfl), (gw_of (i := 73) (by decide +kernel) rfl)⟩, fun h => absurd h (by decide), fun h => absurd h (by decide), rfl, Or.inl ⟨by decide, rfl⟩, by decide +kernel⟩
set_option maxRecDepth 100000 in
theorem key_187 : keyP 187 := ⟨(gwc_7 (i := 138) rfl rfl), ini_12, clsn_12, fun _ => ⟨(gwc_7 (i := 137) rfl rfl), (gw_of (i := 75) (by decide +kernel) rfl)⟩, fun h => absurd h (by decide), fun h => absurd h (by decide), rfl, Or.inl ⟨by decide, rfl⟩, by decide +kernel⟩
set_option maxRecDepth 100000 in
theorem key_188 : keyP 188 := ⟨(gwc_7 (i := 142) rfl rfl), ini_12, clsn_12, fun _ => ⟨(gwc_7 (i := 141) rfl rfl), (gw_of (i := 76) (by decide +kernel) rfl)⟩, fun h => absurd h (by decide), fun h => absurd h (by decide), rfl, Or.inl ⟨by decide, rfl⟩, by decide +kernel⟩
set_option maxRecDepth 100000 in
theorem key_189 : keyP 189 := ⟨(gwc_7 (i := 146) rfl rfl), ini_12, clsn_12, fun _ => ⟨(gwc_7 (i := 145) rfl rfl), (gw_of (i := 77) (by decide +kernel) rfl)⟩, fun h => absurd h (by decide), fun h => absurd h (by decide), rfl, Or.inl ⟨by decide, rfl⟩, by decide +kernel⟩
set_option maxRecDepth 100000 in
theorem key_190 : keyP 190 := ⟨(gwc_7 (i := 150) rfl rfl), ini_12, clsn_12, fun _ => ⟨(gwc_7 (i := 149) rfl rfl), (gw_of (i := 78) (by decide +kernel) rfl)⟩, fun h => absurd h (by decide), fun h => absurd h (by decide), rfl, Or.inl ⟨by decide, rfl⟩, by decide +kernel⟩
set_option maxRecDepth 100000 in
theorem key_191 : keyP 191 := ⟨(gwc_7 (i := 170) rfl rfl), ini_12, clsn_12, fun _ => ⟨(gwc_7 (i := 169) rfl rfl), (gw_of (i := 83) (by decide +kernel) rfl)⟩, fun h => absurd h (by decide), fun h => absurd h (by decide), rfl, Or.inl ⟨by decide, rfl⟩, by decide +kernel⟩
set_option maxRecDepth 100000 in
theorem key_192 : keyP 192 := ⟨(gwc_7 (i := 162) rfl rfl), ini_12, clsn_12, fun _ => ⟨(gwc_7 (i := 161) rfl rfl), (gw_of (i := 81) (by decide +kernel) rfl)⟩, fun h => absurd h (by decide), fun h => absurd h (by decide), rfl, Or.inl ⟨by decide, rfl⟩, by decide +kernel⟩
set_option maxRecDepth 100000 in
theorem key_193 : keyP 193 := ⟨(gwc_7 (i := 166) rfl rfl), ini_12, clsn_12, fun _ => ⟨(gwc_7 (i := 165) rfl rfl), (gw_of (i := 82) (by decide +kernel) rfl)⟩, fun h => absurd h (by decide), fun h => absurd h (by decide), rfl, Or.inl ⟨by decide, rfl⟩, by decide +kernel⟩
set_option maxRecDepth 100000 in
theorem key_194 : keyP 194 := ⟨(gwc_7 (i := 154) rfl rfl), ini_12, clsn_12, fun _ => ⟨(gwc_7 (i := 153) rfl rfl), (gw_of (i := 79) (by decide +kernel) rfl)⟩, fun h => absurd h (by decide), fun h => absurd h (by decide), rfl, Or.inl ⟨by decide, rfl⟩, by decide +kernel⟩
set_option maxRecDepth 100000 in
theorem key_195 : keyP 195 := ⟨(gwc_7 (i := 158) rfl rfl), ini_12, clsn_12, fun _ => ⟨(gwc_7 (i := 157) rfl rfl), (gw_of (i := 80) (by decide +kernel) rfl)⟩, fun h => absurd h (by decide), fun h => absurd h (by decide), rfl, Or.inl ⟨by decide, rfl⟩, by decide +kernel⟩
set_option maxRecDepth 100000 in
theorem key_196 : keyP 196 := ⟨(gwc_7 (i := 218) rfl rfl), ini_12, clsn_12, fun _ => ⟨(gwc_7 (i := 217) rfl rfl), (gw_of (i := 92) (by decide +kernel) rfl)⟩, fun h => absurd h (by decide), fun h => absurd h (by decide), rfl, Or.inl ⟨by decide, rfl⟩, by decide +kernel⟩
set_option maxRecDepth 100000 in
theorem key_197 : keyP 197 := ⟨(gwc_7 (i := 185) rfl rfl), ini_12, clsn_12, fun h => absurd h (by decide), fun _ => (gwc_7 (i := 184) rfl rfl), fun h => absurd h (by decide), rfl, Or.inr (Or.inr rfl), by decide +kernel⟩
set_option maxRecDepth 100000 in
theorem key_198 : keyP 198 := ⟨(gwc_7 (i := 233) rfl rfl), ini_12, clsn_12, fun h => absurd h (by decide), fun _ => (gwc_7 (i := 232) rfl rfl), fun h => absurd h (by decide), rfl, Or.inr (Or.inr rfl), by decide +kernel⟩
set_option maxRecDepth 100000 in
theorem key_199 : keyP 199 := ⟨(gwc_7 (i := 182) rfl rfl), ini_12, clsn_12, fun _ => ⟨(gwc_7 (i := 181) rfl rfl), (gw_of (i := 84) (by decide +kernel) rfl)⟩, fun h => absurd h (by decide), fun h => absurd h (by decide), rfl, Or.inl ⟨by decide, rfl⟩, by decide +kernel⟩
