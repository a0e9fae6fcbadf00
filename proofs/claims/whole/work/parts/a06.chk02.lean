set_option maxRecDepth 100000 in
theorem cm_169 : chkM pm_169 = true := by decide +kernel
set_option maxRecDepth 100000 in
theorem cm_170 : chkM pm_170 = true := by decide +kernel
set_option maxRecDepth 100000 in
theorem cm_171 : chkM pm_171 = true := by decide +kernel
set_option maxRecDepth 100000 in
theorem cm_172 : chkM pm_172 = true := by decide +kernel
set_option maxRecDepth 100000 in
theorem cm_173 : chkM pm_173 = true := by decide +kernel
set_option maxRecDepth 100000 in
theorem cm_174 : chkM pm_174 = true := by decide +kernel
set_option maxRecDepth 100000 in
theorem cm_175 : chkM pm_175 = true := by decide +kernel
set_option maxRecDepth 100000 in
theorem cm_176 : chkM pm_176 = true := by decide +kernel
set_option maxRecDepth 100000 in
theorem cm_177 : chkM pm_177 = true := by decide +kernel
set_option maxRecDepth 100000 in
theorem cm_178 : chkM pm_178 = true := by decide +kernel
set_option maxRecDepth 100000 in
theorem cm_179 : chkM pm_179 = true := by decide +kernel
set_option maxRecDepth 100000 in
theorem cm_180 : chkM pm_180 = true := by decide +kernel
set_option maxRecDepth 100000 in
theorem cm_181 : chkM pm_181 = true := by decide +kernel
set_option maxRecDepth 100000 in
theorem cm_182 : chkM pm_182 = true := by decide +kernel
set_option maxRecDepth 100000 in
theorem cm_183 : chkM pm_183 = true := by decide +kernel
set_option maxRecDepth 100000 in
theorem cm_184 : chkM pm_184 = true := by decide +kernel
set_option maxRecDepth 100000 in
theorem cm_185 : chkM pm_185 = true := by decide +kernel
set_option maxRecDepth 100000 in
theorem cm_186 : chkM pm_186 = true := by decide +kernel
set_option maxRecDepth 100000 in
theorem cm_187 : chkM pm_187 = true := by decide +kernel
set_option maxRecDepth 100000 in
theorem cm_188 : chkM pm_188 = true := by decide +kernel
set_option maxRecDepth 100000 in
theorem cm_189 : chkM pm_189 = true := by decide +kernel
set_option maxRecDepth 100000 in
theorem cm_190 : chkM pm_190 = true := by decide +kernel
set_option maxRecDepth 100000 in
theorem cm_191 : chkM pm_191 = true := by decide +kernel
set_option maxRecDepth 100000 in
theorem cm_192 : chkM pm_192 = true := by decide +kernel
set_option maxRecDepth 100000 in
theorem cm_193 : chkM pm_193 = true := by decide +kernel
set_option maxRecDepth 100000 in
theorem cm_194 : chkM pm_194 = true := by decide +kernel
set_option maxRecDepth 100000 in
theorem cm_195 : chkM pm_195 = true := by decide +kernel
set_option maxRecDepth 100000 in
theorem cm_196 : chkM pm_196 = true := by decide +kernel
set_option maxRecDepth 100000 in
theorem cm_197 : chkM pm_197 = true := by decide +kernel
set_option maxRecDepth 100000 in
theorem cm_198 : chkM pm_198 = true := by decide +kernel
set_option maxRecDepth 100000 in
theorem cm_199 : chkM pm_199 = true := by decide +kernel
set_option maxRecDepth 100000 in
theorem cm_200 : chkM pm_200 = true := by decide +kernel
set_option maxRecDepth 100000 in
theorem cm_201 : chkM pm_201 = true := by decide +kernel
set_option maxRecDepth 100000 in
theorem cm_202 : chkM pm_202 = true := by decide +kernel
set_option maxRecDepth 100000 in
theorem cm_203 : chkM pm_203 = true := by decide +kernel
set_option maxRecDepth 100000 in
theorem cm_204 : chkM pm_204 = true := by decide +kernel
set_option maxRecDepth 100000 in
theorem cm_205 : chkM pm_205 = true := by decide +kernel
set_option maxRecDepth 100000 in
theorem cm_206 : chkM pm_206 = true := by decide +kernel
set_option maxRecDepth 100000 in
theorem cm_207 : chkM pm_207 = true := by decide +kernel
set_option maxRecDepth 100000 in
theorem cm_208 : chkM pm_208 = true := by decide +kernel
set_option maxRecDepth 100000 in
theorem cm_209 : chkM pm_209 = true := by decide +kernel
set_option maxRecDepth 100000 in
theorem cm_210 : chkM pm_210 = true := by decide +kernel
set_option maxRecDepth 100000 in
theorem cm_211 : chkM pm_211 = true := by decide +kernel
set_option maxRecDepth 100000 in
theorem cm_212 : chkM pm_212 = true := by decide +kernel
set_option maxRecDepth 100000 in
theorem cm_213 : chkM pm_213 = true := by decide +kernel
set_option maxRecDepth 100000 in
theorem cm_214 : chkM pm_214 = true := by decide +kernel
set_option maxRecDepth 100000 in
theorem cm_215 : chkM pm_215 = true := by decide +kernel
set_option maxRecDepth 100000 in
theorem cm_216 : chkM pm_216 = true := by decide +kernel
set_option maxRecDepth 100000 in
theorem cm_217 : chkM pm_217 = true := by decide +kernel
set_option maxRecDepth 100000 in
theorem cm_218 : chkM pm_218 = true := by decide +kernel
set_option maxRecDepth 100000 in
theorem cm_219 : chkM pm_219 = true := by decide +kernel
set_option maxRecDepth 100000 in
theorem cm_220 : chkM pm_220 = true := by decide +kernel
set_option maxRecDepth 100000 in
theorem cm_221 : chkM pm_221 = true := by decide +kernel
set_option maxRecDepth 100000 in
theorem cm_222 : chkM pm_222 = true := by decide +kernel
set_option maxRecDepth 100000 in
theorem cm_223 : chkM pm_223 = true := by decide +kernel
set_option maxRecDepth 100000 in
theorem cm_224 : chkM pm_224 = true := by decide +kernel
set_option maxRecDepth 100000 in
theorem cm_225 : chkM pm_225 = true := by decide +kernel
set_option maxRecDepth 100000 in
theorem cm_226 : chkM pm_226 = true := by decide +kernel
set_option maxRecDepth 100000 in
theorem cm_227 : chkM pm_227 = true := by decide +kernel
set_option maxRecDepth 100000 in
theorem cm_228 : chkM pm_228 = true := by decide +kernel
set_option maxRecDepth 100000 in
theorem cm_229 : chkM pm_229 = true := by decide +kernel
set_option maxRecDepth 100000 in
theorem cm_230 : chkM pm_230 = true := by decide +kernel
set_option maxRecDepth 100000 in
theorem cm_231 : chkM pm_231 = true := by decide +kernel
set_option maxRecDepth 100000 in
theorem cm_232 : chkM pm_232 = true := by decide +kernel
set_option maxRecDepth 100000 in
theorem cm_233 : chkM pm_233 = true := by decide +kernel
set_option maxRecDepth 100000 in
theorem cm_234 : chkM pm_234 = true := by decide +kernel
set_option maxRecDepth 100000 in
theorem cm_235 : chkM pm_235 = true := by decide +kernel
set_option maxRecDepth 100000 in
theorem cm_236 : chkM pm_236 = true := by decide +kernel
set_option maxRecDepth 100000 in
theorem cm_237 : chkM pm_237 = true := by decide +kernel
set_option maxRecDepth 100000 in
theorem cm_238 : chkM pm_238 = true := by decide +kernel
set_option maxRecDepth 100000 in
theorem cm_239 : chkM pm_239 = true := by decide +kernel
