set_option maxRecDepth 1000000 in
theorem am_d110 : am_dec me_110 = true := by decide +kernel
set_option maxRecDepth 1000000 in
theorem am_d111 : am_dec me_111 = true := by decide +kernel
set_option maxRecDepth 1000000 in
theorem am_d112 : am_dec me_112 = true := by decide +kernel
set_option maxRecDepth 1000000 in
theorem am_d113 : am_dec me_113 = true := by decide +kernel
set_option maxRecDepth 1000000 in
theorem am_d114 : am_dec me_114 = true := by decide +kernel
set_option maxRecDepth 1000000 in
theorem am_d115 : am_dec me_115 = true := by decide +kernel
set_option maxRecDepth 1000000 in
theorem am_d116 : am_dec me_116 = true := by decide +kernel
set_option maxRecDepth 1000000 in
theorem am_d117 : am_dec me_117 = true := by decide +kernel
set_option maxRecDepth 1000000 in
theorem am_d118 : am_dec me_118 = true := by decide +kernel
set_option maxRecDepth 1000000 in
theorem am_d119 : am_dec me_119 = true := by decide +kernel
set_option maxRecDepth 1000000 in
theorem am_d120 : am_dec me_120 = true := by decide +kernel
set_option maxRecDepth 1000000 in
theorem am_d121 : am_dec me_121 = true := by decide +kernel
set_option maxRecDepth 1000000 in
theorem am_d122 : am_dec me_122 = true := by decide +kernel
set_option maxRecDepth 1000000 in
theorem am_d123 : am_dec me_123 = true := by decide +kernel
set_option maxRecDepth 1000000 in
theorem am_d124 : am_dec me_124 = true := by decide +kernel
set_option maxRecDepth 1000000 in
theorem am_d125 : am_dec me_125 = true := by decide +kernel
set_option maxRecDepth 1000000 in
theorem am_d126 : am_dec me_126 = true := by decide +kernel
set_option maxRecDepth 1000000 in
theorem am_d127 : am_dec me_127 = true := by decide +kernel
set_option maxRecDepth 1000000 in
theorem am_d128 : am_dec me_128 = true := by decide +kernel
set_option maxRecDepth 1000000 in
theorem am_d129 : am_dec me_129 = true := by decide +kernel
set_option maxRecDepth 1000000 in
theorem am_d130 : am_dec me_130 = true := by decide +kernel
set_option maxRecDepth 1000000 in
theorem am_d131 : am_dec me_131 = true := by decide +kernel
set_option maxRecDepth 1000000 in
theorem am_d132 : am_dec me_132 = true := by decide +kernel
set_option maxRecDepth 1000000 in
theorem am_d133 : am_dec me_133 = true := by decide +kernel
set_option maxRecDepth 1000000 in
theorem am_d134 : am_dec me_134 = true := by decide +kernel
set_option maxRecDepth 1000000 in
theorem am_d135 : am_dec me_135 = true := by decide +kernel
set_option maxRecDepth 1000000 in
theorem am_d136 : am_dec me_136 = true := by decide +kernel
set_option maxRecDepth 1000000 in
theorem am_d137 : am_dec me_137 = true := by decide +kernel
set_option maxRecDepth 1000000 in
theorem am_d138 : am_dec me_138 = true := by decide +kernel
set_option maxRecDepth 1000000 in
theorem am_d139 : am_dec me_139 = true := by decide +kernel
set_option maxRecDepth 1000000 in
theorem am_d140 : am_dec me_140 = true := by decide +kernel
set_option maxRecDepth 1000000 in
theorem am_d141 : am_dec me_141 = true := by decide +kernel
set_option maxRecDepth 1000000 in
theorem am_d142 : am_dec me_142 = true := by decide +kernel
set_option maxRecDepth 1000000 in
theorem am_d143 : am_dec me_143 = true := by decide +kernel
set_option maxRecDepth 1000000 in
theorem am_d144 : am_dec me_144 = true := by decide +kernel
set_option maxRecDepth 1000000 in
theorem am_d145 : am_dec me_145 = true := by decide +kernel
set_option maxRecDepth 1000000 in
theorem am_d146 : am_dec me_146 = true := by decide +kernel
set_option maxRecDepth 1000000 in
theorem am_d147 : am_dec me_147 = true := by decide +kernel
set_option maxRecDepth 1000000 in
theorem am_d148 : am_dec me_148 = true := by decide +kernel
set_option maxRecDepth 1000000 in
theorem am_d149 : am_dec me_149 = true := by decide +kernel
set_option maxRecDepth 1000000 in
theorem am_d150 : am_dec me_150 = true := by decide +kernel
set_option maxRecDepth 1000000 in
theorem am_d151 : am_dec me_151 = true := by decide +kernel
set_option maxRecDepth 1000000 in
theorem am_d152 : am_dec me_152 = true := by decide +kernel
set_option maxRecDepth 1000000 in
theorem am_d153 : am_dec me_153 = true := by decide +kernel
set_option maxRecDepth 1000000 in
theorem am_d154 : am_dec me_154 = true := by decide +kernel
set_option maxRecDepth 1000000 in
theorem am_d155 : am_dec me_155 = true := by decide +kernel
set_option maxRecDepth 1000000 in
theorem am_d156 : am_dec me_156 = true := by decide +kernel
set_option maxRecDepth 1000000 in
theorem am_d157 : am_dec me_157 = true := by decide +kernel
set_option maxRecDepth 1000000 in
theorem am_d158 : am_dec me_158 = true := by decide +kernel
set_option maxRecDepth 1000000 in
theorem am_d159 : am_dec me_159 = true := by decide +kernel
set_option maxRecDepth 1000000 in
theorem am_d160 : am_dec me_160 = true := by decide +kernel
set_option maxRecDepth 1000000 in
theorem am_d161 : am_dec me_161 = true := by decide +kernel
set_option maxRecDepth 1000000 in
theorem am_d162 : am_dec me_162 = true := by decide +kernel
set_option maxRecDepth 1000000 in
theorem am_d163 : am_dec me_163 = true := by decide +kernel
set_option maxRecDepth 1000000 in
theorem am_d164 : am_dec me_164 = true := by decide +kernel
set_option maxRecDepth 1000000 in
theorem am_d165 : am_dec me_165 = true := by decide +kernel
set_option maxRecDepth 1000000 in
theorem am_d166 : am_dec me_166 = true := by decide +kernel
set_option maxRecDepth 1000000 in
theorem am_d167 : am_dec me_167 = true := by decide +kernel
set_option maxRecDepth 1000000 in
theorem am_d168 : am_dec me_168 = true := by decide +kernel
set_option maxRecDepth 1000000 in
theorem am_d169 : am_dec me_169 = true := by decide +kernel
set_option maxRecDepth 1000000 in
theorem am_d170 : am_dec me_170 = true := by decide +kernel
set_option maxRecDepth 1000000 in
theorem am_d171 : am_dec me_171 = true := by decide +kernel
set_option maxRecDepth 1000000 in
theorem am_d172 : am_dec me_172 = true := by decide +kernel
set_option maxRecDepth 1000000 in
theorem am_d173 : am_dec me_173 = true := by decide +kernel
set_option maxRecDepth 1000000 in
theorem am_d174 : am_dec me_174 = true := by decide +kernel
set_option maxRecDepth 1000000 in
theorem am_d175 : am_dec me_175 = true := by decide +kernel
set_option maxRecDepth 1000000 in
theorem am_d176 : am_dec me_176 = true := by decide +kernel
set_option maxRecDepth 1000000 in
theorem am_d177 : am_dec me_177 = true := by decide +kernel
set_option maxRecDepth 1000000 in
theorem am_d178 : am_dec me_178 = true := by decide +kernel
set_option maxRecDepth 1000000 in
theorem am_d179 : am_dec me_179 = true := by decide +kernel
set_option maxRecDepth 1000000 in
theorem am_d180 : am_dec me_180 = true := by decide +kernel
set_option maxRecDepth 1000000 in
theorem am_d181 : am_dec me_181 = true := by decide +kernel
set_option maxRecDepth 1000000 in
theorem am_d182 : am_dec me_182 = true := by decide +kernel
set_option maxRecDepth 1000000 in
theorem am_d183 : am_dec me_183 = true := by decide +kernel
set_option maxRecDepth 1000000 in
theorem am_d184 : am_dec me_184 = true := by decide +kernel
set_option maxRecDepth 1000000 in
theorem am_d185 : am_dec me_185 = true := by decide +kernel
set_option maxRecDepth 1000000 in
theorem am_d186 : am_dec me_186 = true := by decide +kernel
set_option maxRecDepth 1000000 in
theorem am_d187 : am_dec me_187 = true := by decide +kernel
set_option maxRecDepth 1000000 in
theorem am_d188 : am_dec me_188 = true := by decide +kernel
set_option maxRecDepth 1000000 in
theorem am_d189 : am_dec me_189 = true := by decide +kernel
set_option maxRecDepth 1000000 in
theorem am_d190 : am_dec me_190 = true := by decide +kernel
set_option maxRecDepth 1000000 in
theorem am_d191 : am_dec me_191 = true := by decide +kernel
set_option maxRecDepth 1000000 in
theorem am_d192 : am_dec me_192 = true := by decide +kernel
set_option maxRecDepth 1000000 in
theorem am_d193 : am_dec me_193 = true := by decide +kernel
set_option maxRecDepth 1000000 in
theorem am_d194 : am_dec me_194 = true := by decide +kernel
set_option maxRecDepth 1000000 in
theorem am_d195 : am_dec me_195 = true := by decide +kernel
set_option maxRecDepth 1000000 in
theorem am_d196 : am_dec me_196 = true := by decide +kernel
set_option maxRecDepth 1000000 in
theorem am_d197 : am_dec me_197 = true := by decide +kernel
set_option maxRecDepth 1000000 in
theorem am_d198 : am_dec me_198 = true := by decide +kernel
set_option maxRecDepth 1000000 in
theorem am_d199 : am_dec me_199 = true := by decide +kernel
set_option maxRecDepth 1000000 in
theorem am_d200 : am_dec me_200 = true := by decide +kernel
set_option maxRecDepth 1000000 in
theorem am_d201 : am_dec me_201 = true := by decide +kernel
set_option maxRecDepth 1000000 in
theorem am_d202 : am_dec me_202 = true := by decide +kernel
set_option maxRecDepth 1000000 in
theorem am_d203 : am_dec me_203 = true := by decide +kernel
set_option maxRecDepth 1000000 in
theorem am_d204 : am_dec me_204 = true := by decide +kernel
set_option maxRecDepth 1000000 in
theorem am_d205 : am_dec me_205 = true := by decide +kernel
set_option maxRecDepth 1000000 in
theorem am_d206 : am_dec me_206 = true := by decide +kernel
set_option maxRecDepth 1000000 in
theorem am_d207 : am_dec me_207 = true := by decide +kernel
set_option maxRecDepth 1000000 in
theorem am_d208 : am_dec me_208 = true := by decide +kernel
set_option maxRecDepth 1000000 in
theorem am_d209 : am_dec me_209 = true := by decide +kernel
