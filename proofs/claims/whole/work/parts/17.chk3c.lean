set_option maxRecDepth 100000 in
theorem zhb_116 : (zchn zc_L_law_116 && zc_L_law_116.all (zck zT RL "law" code zc_L_law)) = true := by decide +kernel
set_option maxRecDepth 100000 in
theorem zhb_117 : (zchn zc_L_law_117 && zc_L_law_117.all (zck zT RL "law" code zc_L_law)) = true := by decide +kernel
set_option maxRecDepth 100000 in
theorem zhb_118 : (zchn zc_L_law_118 && zc_L_law_118.all (zck zT RL "law" code zc_L_law)) = true := by decide +kernel
set_option maxRecDepth 100000 in
theorem zhb_119 : (zchn zc_L_law_119 && zc_L_law_119.all (zck zT RL "law" code zc_L_law)) = true := by decide +kernel
set_option maxRecDepth 100000 in
theorem zhb_120 : (zchn zc_L_law_120 && zc_L_law_120.all (zck zT RL "law" code zc_L_law)) = true := by decide +kernel
set_option maxRecDepth 100000 in
theorem zhb_121 : (zchn zc_L_law_121 && zc_L_law_121.all (zck zT RL "law" code zc_L_law)) = true := by decide +kernel
set_option maxRecDepth 100000 in
theorem zhb_122 : (zchn zc_L_law_122 && zc_L_law_122.all (zck zT RL "law" code zc_L_law)) = true := by decide +kernel
set_option maxRecDepth 100000 in
theorem zhb_123 : (zchn zc_L_law_123 && zc_L_law_123.all (zck zT RL "law" code zc_L_law)) = true := by decide +kernel
set_option maxRecDepth 100000 in
theorem zhb_124 : (zchn zc_L_law_124 && zc_L_law_124.all (zck zT RL "law" code zc_L_law)) = true := by decide +kernel
set_option maxRecDepth 100000 in
theorem zhb_125 : (zchn zc_L_law_125 && zc_L_law_125.all (zck zT RL "law" code zc_L_law)) = true := by decide +kernel
set_option maxRecDepth 100000 in
theorem zhb_126 : (zchn zc_L_law_126 && zc_L_law_126.all (zck zT RL "law" code zc_L_law)) = true := by decide +kernel
set_option maxRecDepth 100000 in
theorem zhb_127 : (zchn zc_L_law_127 && zc_L_law_127.all (zck zT RL "law" code zc_L_law)) = true := by decide +kernel
set_option maxRecDepth 100000 in
theorem zhb_128 : (zchn zc_L_law_128 && zc_L_law_128.all (zck zT RL "law" code zc_L_law)) = true := by decide +kernel
set_option maxRecDepth 100000 in
theorem zhb_129 : (zchn zc_L_law_129 && zc_L_law_129.all (zck zT RL "law" code zc_L_law)) = true := by decide +kernel
set_option maxRecDepth 100000 in
theorem zhb_130 : (zchn zc_L_law_130 && zc_L_law_130.all (zck zT RL "law" code zc_L_law)) = true := by decide +kernel
set_option maxRecDepth 100000 in
theorem zhb_131 : (zchn zc_L_law_131 && zc_L_law_131.all (zck zT RL "law" code zc_L_law)) = true := by decide +kernel
set_option maxRecDepth 100000 in
theorem zhb_132 : (zchn zc_L_law_132 && zc_L_law_132.all (zck zT RL "law" code zc_L_law)) = true := by decide +kernel
set_option maxRecDepth 100000 in
theorem zhb_133 : (zchn zc_L_law_133 && zc_L_law_133.all (zck zT RL "law" code zc_L_law)) = true := by decide +kernel
set_option maxRecDepth 100000 in
theorem zhb_134 : (zchn zc_L_law_134 && zc_L_law_134.all (zck zT RL "law" code zc_L_law)) = true := by decide +kernel
set_option maxRecDepth 100000 in
theorem zhb_135 : (zchn zc_L_law_135 && zc_L_law_135.all (zck zT RL "law" code zc_L_law)) = true := by decide +kernel
set_option maxRecDepth 100000 in
theorem zhb_136 : (zchn zc_L_law_136 && zc_L_law_136.all (zck zT RL "law" code zc_L_law)) = true := by decide +kernel
set_option maxRecDepth 100000 in
theorem zhb_137 : (zchn zc_L_law_137 && zc_L_law_137.all (zck zT RL "law" code zc_L_law)) = true := by decide +kernel
set_option maxRecDepth 100000 in
theorem zhb_138 : (zchn zc_L_law_138 && zc_L_law_138.all (zck zT RL "law" code zc_L_law)) = true := by decide +kernel
set_option maxRecDepth 100000 in
theorem zhb_139 : (zchn zc_L_law_139 && zc_L_law_139.all (zck zT RL "law" code zc_L_law)) = true := by decide +kernel
set_option maxRecDepth 100000 in
theorem zhb_140 : (zchn zc_L_law_140 && zc_L_law_140.all (zck zT RL "law" code zc_L_law)) = true := by decide +kernel
set_option maxRecDepth 100000 in
theorem zhb_141 : (zchn zc_L_law_141 && zc_L_law_141.all (zck zT RL "law" code zc_L_law)) = true := by decide +kernel
set_option maxRecDepth 100000 in
theorem zhb_142 : (zchn zc_L_law_142 && zc_L_law_142.all (zck zT RL "law" code zc_L_law)) = true := by decide +kernel
set_option maxRecDepth 100000 in
theorem zhb_143 : (zchn zc_L_law_143 && zc_L_law_143.all (zck zT RL "law" code zc_L_law)) = true := by decide +kernel
set_option maxRecDepth 100000 in
theorem zhb_144 : (zchn zc_L_law_144 && zc_L_law_144.all (zck zT RL "law" code zc_L_law)) = true := by decide +kernel
set_option maxRecDepth 100000 in
theorem zhb_145 : (zchn zc_L_law_145 && zc_L_law_145.all (zck zT RL "law" code zc_L_law)) = true := by decide +kernel
set_option maxRecDepth 100000 in
theorem zhb_146 : (zchn zc_L_law_146 && zc_L_law_146.all (zck zT RL "law" code zc_L_law)) = true := by decide +kernel
set_option maxRecDepth 100000 in
theorem zhb_147 : (zchn zc_L_law_147 && zc_L_law_147.all (zck zT RL "law" code zc_L_law)) = true := by decide +kernel
set_option maxRecDepth 100000 in
theorem zhb_148 : (zchn zc_L_law_148 && zc_L_law_148.all (zck zT RL "law" code zc_L_law)) = true := by decide +kernel
set_option maxRecDepth 100000 in
theorem zhb_149 : (zchn zc_L_law_149 && zc_L_law_149.all (zck zT RL "law" code zc_L_law)) = true := by decide +kernel
set_option maxRecDepth 100000 in
theorem zhb_150 : (zchn zc_L_law_150 && zc_L_law_150.all (zck zT RL "law" code zc_L_law)) = true := by decide +kernel
set_option maxRecDepth 100000 in
theorem zhb_151 : (zchn zc_L_law_151 && zc_L_law_151.all (zck zT RL "law" code zc_L_law)) = true := by decide +kernel
set_option maxRecDepth 100000 in
theorem zhb_152 : (zchn zc_L_law_152 && zc_L_law_152.all (zck zT RL "law" code zc_L_law)) = true := by decide +kernel
set_option maxRecDepth 100000 in
theorem zhb_153 : (zchn zc_L_law_153 && zc_L_law_153.all (zck zT RL "law" code zc_L_law)) = true := by decide +kernel
set_option maxRecDepth 100000 in
theorem zhb_154 : (zchn zc_L_law_154 && zc_L_law_154.all (zck zT RL "law" code zc_L_law)) = true := by decide +kernel
set_option maxRecDepth 100000 in
theorem zhb_155 : (zchn zc_L_law_155 && zc_L_law_155.all (zck zT RL "law" code zc_L_law)) = true := by decide +kernel
set_option maxRecDepth 100000 in
theorem zhb_156 : (zchn zc_L_law_156 && zc_L_law_156.all (zck zT RL "law" code zc_L_law)) = true := by decide +kernel
set_option maxRecDepth 100000 in
theorem zhb_157 : (zchn zc_L_law_157 && zc_L_law_157.all (zck zT RL "law" code zc_L_law)) = true := by decide +kernel
set_option maxRecDepth 100000 in
theorem zhb_158 : (zchn zc_L_law_158 && zc_L_law_158.all (zck zT RL "law" code zc_L_law)) = true := by decide +kernel
set_option maxRecDepth 100000 in
theorem zhb_159 : (zchn zc_L_law_159 && zc_L_law_159.all (zck zT RL "law" code zc_L_law)) = true := by decide +kernel
set_option maxRecDepth 100000 in
theorem zhb_160 : (zchn zc_L_law_160 && zc_L_law_160.all (zck zT RL "law" code zc_L_law)) = true := by decide +kernel
set_option maxRecDepth 100000 in
theorem zhb_161 : (zchn zc_L_law_161 && zc_L_law_161.all (zck zT RL "law" code zc_L_law)) = true := by decide +kernel
set_option maxRecDepth 100000 in
theorem zhb_162 : (zchn zc_L_law_162 && zc_L_law_162.all (zck zT RL "law" code zc_L_law)) = true := by decide +kernel
set_option maxRecDepth 100000 in
theorem zhb_163 : (zchn zc_L_law_163 && zc_L_law_163.all (zck zT RL "law" code zc_L_law)) = true := by decide +kernel
set_option maxRecDepth 100000 in
theorem zhb_164 : (zchn zc_L_law_164 && zc_L_law_164.all (zck zT RL "law" code zc_L_law)) = true := by decide +kernel
set_option maxRecDepth 100000 in
theorem zhb_165 : (zchn zc_L_law_165 && zc_L_law_165.all (zck zT RL "law" code zc_L_law)) = true := by decide +kernel
set_option maxRecDepth 100000 in
theorem zhb_166 : (zchn zc_L_law_166 && zc_L_law_166.all (zck zT RL "law" code zc_L_law)) = true := by decide +kernel
set_option maxRecDepth 100000 in
theorem zhb_167 : (zchn zc_L_law_167 && zc_L_law_167.all (zck zT RL "law" code zc_L_law)) = true := by decide +kernel
set_option maxRecDepth 100000 in
theorem zhb_168 : (zchn zc_L_law_168 && zc_L_law_168.all (zck zT RL "law" code zc_L_law)) = true := by decide +kernel
set_option maxRecDepth 100000 in
theorem zhb_169 : (zchn zc_L_law_169 && zc_L_law_169.all (zck zT RL "law" code zc_L_law)) = true := by decide +kernel
set_option maxRecDepth 100000 in
theorem zhb_170 : (zchn zc_L_law_170 && zc_L_law_170.all (zck zT RL "law" code zc_L_law)) = true := by decide +kernel
set_option maxRecDepth 100000 in
theorem zhb_171 : (zchn zc_L_law_171 && zc_L_law_171.all (zck zT RL "law" code zc_L_law)) = true := by decide +kernel
set_option maxRecDepth 100000 in
theorem zhb_172 : (zchn zc_L_law_172 && zc_L_law_172.all (zck zT RL "law" code zc_L_law)) = true := by decide +kernel
