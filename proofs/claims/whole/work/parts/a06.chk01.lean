set_option maxRecDepth 100000 in
theorem cm_100 : chkM pm_100 = true := by decide +kernel
set_option maxRecDepth 100000 in
theorem cm_101 : chkM pm_101 = true := by decide +kernel
set_option maxRecDepth 100000 in
theorem cm_102 : chkM pm_102 = true := by decide +kernel
set_option maxRecDepth 100000 in
theorem cm_103 : chkM pm_103 = true := by decide +kernel
set_option maxRecDepth 100000 in
theorem cm_104 : chkM pm_104 = true := by decide +kernel
set_option maxRecDepth 100000 in
theorem cm_105 : chkM pm_105 = true := by decide +kernel
set_option maxRecDepth 100000 in
theorem cm_106 : chkM pm_106 = true := by decide +kernel
set_option maxRecDepth 100000 in
theorem cm_107 : chkM pm_107 = true := by decide +kernel
set_option maxRecDepth 100000 in
theorem cm_108 : chkM pm_108 = true := by decide +kernel
set_option maxRecDepth 100000 in
theorem cm_109 : chkM pm_109 = true := by decide +kernel
set_option maxRecDepth 100000 in
theorem cm_110 : chkM pm_110 = true := by decide +kernel
set_option maxRecDepth 100000 in
theorem cm_111 : chkM pm_111 = true := by decide +kernel
set_option maxRecDepth 100000 in
theorem cm_112 : chkM pm_112 = true := by decide +kernel
set_option maxRecDepth 100000 in
theorem cm_113 : chkM pm_113 = true := by decide +kernel
set_option maxRecDepth 100000 in
theorem cm_114 : chkM pm_114 = true := by decide +kernel
set_option maxRecDepth 100000 in
theorem cm_115 : chkM pm_115 = true := by decide +kernel
set_option maxRecDepth 100000 in
theorem cm_116 : chkM pm_116 = true := by decide +kernel
set_option maxRecDepth 100000 in
theorem cm_117 : chkM pm_117 = true := by decide +kernel
set_option maxRecDepth 100000 in
theorem cm_118 : chkM pm_118 = true := by decide +kernel
set_option maxRecDepth 100000 in
theorem cm_119 : chkM pm_119 = true := by decide +kernel
set_option maxRecDepth 100000 in
theorem cm_120 : chkM pm_120 = true := by decide +kernel
set_option maxRecDepth 100000 in
theorem cm_121 : chkM pm_121 = true := by decide +kernel
set_option maxRecDepth 100000 in
theorem cm_122 : chkM pm_122 = true := by decide +kernel
set_option maxRecDepth 100000 in
theorem cm_123 : chkM pm_123 = true := by decide +kernel
set_option maxRecDepth 100000 in
theorem cm_124 : chkM pm_124 = true := by decide +kernel
set_option maxRecDepth 100000 in
theorem cm_125 : chkM pm_125 = true := by decide +kernel
set_option maxRecDepth 100000 in
theorem cm_126 : chkM pm_126 = true := by decide +kernel
set_option maxRecDepth 100000 in
theorem cm_127 : chkM pm_127 = true := by decide +kernel
set_option maxRecDepth 100000 in
theorem cm_128 : chkM pm_128 = true := by decide +kernel
set_option maxRecDepth 100000 in
theorem cm_129 : chkM pm_129 = true := by decide +kernel
set_option maxRecDepth 100000 in
theorem cm_130 : chkM pm_130 = true := by decide +kernel
set_option maxRecDepth 100000 in
theorem cm_131 : chkM pm_131 = true := by decide +kernel
set_option maxRecDepth 100000 in
theorem cm_132 : chkM pm_132 = true := by decide +kernel
set_option maxRecDepth 100000 in
theorem cm_133 : chkM pm_133 = true := by decide +kernel
set_option maxRecDepth 100000 in
theorem cm_134 : chkM pm_134 = true := by decide +kernel
set_option maxRecDepth 100000 in
theorem cm_135 : chkM pm_135 = true := by decide +kernel
set_option maxRecDepth 100000 in
theorem cm_136 : chkM pm_136 = true := by decide +kernel
set_option maxRecDepth 100000 in
theorem cm_137 : chkM pm_137 = true := by decide +kernel
set_option maxRecDepth 100000 in
theorem cm_138 : chkM pm_138 = true := by decide +kernel
set_option maxRecDepth 100000 in
theorem cm_139 : chkM pm_139 = true := by decide +kernel
set_option maxRecDepth 100000 in
theorem cm_140 : chkM pm_140 = true := by decide +kernel
set_option maxRecDepth 100000 in
theorem cm_141 : chkM pm_141 = true := by decide +kernel
set_option maxRecDepth 100000 in
theorem cm_142 : chkM pm_142 = true := by decide +kernel
set_option maxRecDepth 100000 in
theorem cm_143 : chkM pm_143 = true := by decide +kernel
set_option maxRecDepth 100000 in
theorem cm_144 : chkM pm_144 = true := by decide +kernel
set_option maxRecDepth 100000 in
theorem cm_145 : chkM pm_145 = true := by decide +kernel
set_option maxRecDepth 100000 in
theorem cm_146 : chkM pm_146 = true := by decide +kernel
set_option maxRecDepth 100000 in
theorem cm_147 : chkM pm_147 = true := by decide +kernel
set_option maxRecDepth 100000 in
theorem cm_148 : chkM pm_148 = true := by decide +kernel
set_option maxRecDepth 100000 in
theorem cm_149 : chkM pm_149 = true := by decide +kernel
set_option maxRecDepth 100000 in
theorem cm_150 : chkM pm_150 = true := by decide +kernel
set_option maxRecDepth 100000 in
theorem cm_151 : chkM pm_151 = true := by decide +kernel
set_option maxRecDepth 100000 in
theorem cm_152 : chkM pm_152 = true := by decide +kernel
set_option maxRecDepth 100000 in
theorem cm_153 : chkM pm_153 = true := by decide +kernel
set_option maxRecDepth 100000 in
theorem cm_154 : chkM pm_154 = true := by decide +kernel
set_option maxRecDepth 100000 in
theorem cm_155 : chkM pm_155 = true := by decide +kernel
set_option maxRecDepth 100000 in
theorem cm_156 : chkM pm_156 = true := by decide +kernel
set_option maxRecDepth 100000 in
theorem cm_157 : chkM pm_157 = true := by decide +kernel
set_option maxRecDepth 100000 in
theorem cm_158 : chkM pm_158 = true := by decide +kernel
set_option maxRecDepth 100000 in
theorem cm_159 : chkM pm_159 = true := by decide +kernel
set_option maxRecDepth 100000 in
theorem cm_160 : chkM pm_160 = true := by decide +kernel
set_option maxRecDepth 100000 in
theorem cm_161 : chkM pm_161 = true := by decide +kernel
set_option maxRecDepth 100000 in
theorem cm_162 : chkM pm_162 = true := by decide +kernel
set_option maxRecDepth 100000 in
theorem cm_163 : chkM pm_163 = true := by decide +kernel
set_option maxRecDepth 100000 in
theorem cm_164 : chkM pm_164 = true := by decide +kernel
set_option maxRecDepth 100000 in
theorem cm_165 : chkM pm_165 = true := by decide +kernel
set_option maxRecDepth 100000 in
theorem cm_166 : chkM pm_166 = true := by decide +kernel
set_option maxRecDepth 100000 in
theorem cm_167 : chkM pm_167 = true := by decide +kernel
set_option maxRecDepth 100000 in
theorem cm_168 : chkM pm_168 = true := by decide +kernel
