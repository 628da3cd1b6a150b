/-! The tables are checked: further methods. -/
theorem zc_174 : zr_174.all (z_chkR z_my z_mb z_mk 221 z_cl z_tyl (z_stl .null) z_ws 174) = true := by decide +kernel
theorem zc_175 : zr_175.all (z_chkR z_my z_mb z_mk 221 z_cl z_tyl (z_stl .null) z_ws 175) = true := by decide +kernel
theorem zc_176 : zr_176.all (z_chkR z_my z_mb z_mk 221 z_cl z_tyl (z_stl .null) z_ws 176) = true := by decide +kernel
theorem zc_177_0 : zr_177_0.all (z_chkR z_my z_mb z_mk 221 z_cl z_tyl (z_stl .null) z_ws 177) = true := by decide +kernel
theorem zc_177_1 : zr_177_1.all (z_chkR z_my z_mb z_mk 221 z_cl z_tyl (z_stl .null) z_ws 177) = true := by decide +kernel
theorem zc_177 : zr_177.all (z_chkR z_my z_mb z_mk 221 z_cl z_tyl (z_stl .null) z_ws 177) = true := z_aap zc_177_0 (zc_177_1)
theorem zc_178 : zr_178.all (z_chkR z_my z_mb z_mk 221 z_cl z_tyl (z_stl .null) z_ws 178) = true := by decide +kernel
theorem zc_179_0 : zr_179_0.all (z_chkR z_my z_mb z_mk 221 z_cl z_tyl (z_stl .null) z_ws 179) = true := by decide +kernel
theorem zc_179_1 : zr_179_1.all (z_chkR z_my z_mb z_mk 221 z_cl z_tyl (z_stl .null) z_ws 179) = true := by decide +kernel
theorem zc_179 : zr_179.all (z_chkR z_my z_mb z_mk 221 z_cl z_tyl (z_stl .null) z_ws 179) = true := z_aap zc_179_0 (zc_179_1)
theorem zc_180 : zr_180.all (z_chkR z_my z_mb z_mk 221 z_cl z_tyl (z_stl .null) z_ws 180) = true := by decide +kernel
theorem zc_181 : zr_181.all (z_chkR z_my z_mb z_mk 221 z_cl z_tyl (z_stl .null) z_ws 181) = true := by decide +kernel
theorem zc_182_0 : zr_182_0.all (z_chkR z_my z_mb z_mk 221 z_cl z_tyl (z_stl .null) z_ws 182) = true := by decide +kernel
theorem zc_182_1 : zr_182_1.all (z_chkR z_my z_mb z_mk 221 z_cl z_tyl (z_stl .null) z_ws 182) = true := by decide +kernel
theorem zc_182 : zr_182.all (z_chkR z_my z_mb z_mk 221 z_cl z_tyl (z_stl .null) z_ws 182) = true := z_aap zc_182_0 (zc_182_1)
theorem zc_183_0 : zr_183_0.all (z_chkR z_my z_mb z_mk 221 z_cl z_tyl (z_stl .null) z_ws 183) = true := by decide +kernel
theorem zc_183_1 : zr_183_1.all (z_chkR z_my z_mb z_mk 221 z_cl z_tyl (z_stl .null) z_ws 183) = true := by decide +kernel
theorem zc_183_2 : zr_183_2.all (z_chkR z_my z_mb z_mk 221 z_cl z_tyl (z_stl .null) z_ws 183) = true := by decide +kernel
theorem zc_183 : zr_183.all (z_chkR z_my z_mb z_mk 221 z_cl z_tyl (z_stl .null) z_ws 183) = true := z_aap zc_183_0 (z_aap zc_183_1 (zc_183_2))
theorem zc_184 : zr_184.all (z_chkR z_my z_mb z_mk 221 z_cl z_tyl (z_stl .null) z_ws 184) = true := by decide +kernel
theorem zc_185_0 : zr_185_0.all (z_chkR z_my z_mb z_mk 221 z_cl z_tyl (z_stl .null) z_ws 185) = true := by decide +kernel
theorem zc_185_1 : zr_185_1.all (z_chkR z_my z_mb z_mk 221 z_cl z_tyl (z_stl .null) z_ws 185) = true := by decide +kernel
theorem zc_185 : zr_185.all (z_chkR z_my z_mb z_mk 221 z_cl z_tyl (z_stl .null) z_ws 185) = true := z_aap zc_185_0 (zc_185_1)
theorem zc_186 : zr_186.all (z_chkR z_my z_mb z_mk 221 z_cl z_tyl (z_stl .null) z_ws 186) = true := by decide +kernel
theorem zc_187 : zr_187.all (z_chkR z_my z_mb z_mk 221 z_cl z_tyl (z_stl .null) z_ws 187) = true := by decide +kernel
theorem zc_188_0 : zr_188_0.all (z_chkR z_my z_mb z_mk 221 z_cl z_tyl (z_stl .null) z_ws 188) = true := by decide +kernel
theorem zc_188_1 : zr_188_1.all (z_chkR z_my z_mb z_mk 221 z_cl z_tyl (z_stl .null) z_ws 188) = true := by decide +kernel
theorem zc_188_2 : zr_188_2.all (z_chkR z_my z_mb z_mk 221 z_cl z_tyl (z_stl .null) z_ws 188) = true := by decide +kernel
theorem zc_188 : zr_188.all (z_chkR z_my z_mb z_mk 221 z_cl z_tyl (z_stl .null) z_ws 188) = true := z_aap zc_188_0 (z_aap zc_188_1 (zc_188_2))
theorem zc_189_0 : zr_189_0.all (z_chkR z_my z_mb z_mk 221 z_cl z_tyl (z_stl .null) z_ws 189) = true := by decide +kernel
theorem zc_189_1 : zr_189_1.all (z_chkR z_my z_mb z_mk 221 z_cl z_tyl (z_stl .null) z_ws 189) = true := by decide +kernel
theorem zc_189_2 : zr_189_2.all (z_chkR z_my z_mb z_mk 221 z_cl z_tyl (z_stl .null) z_ws 189) = true := by decide +kernel
theorem zc_189 : zr_189.all (z_chkR z_my z_mb z_mk 221 z_cl z_tyl (z_stl .null) z_ws 189) = true := z_aap zc_189_0 (z_aap zc_189_1 (zc_189_2))
theorem zc_190 : zr_190.all (z_chkR z_my z_mb z_mk 221 z_cl z_tyl (z_stl .null) z_ws 190) = true := by decide +kernel
theorem zc_191_0 : zr_191_0.all (z_chkR z_my z_mb z_mk 221 z_cl z_tyl (z_stl .null) z_ws 191) = true := by decide +kernel
theorem zc_191_1 : zr_191_1.all (z_chkR z_my z_mb z_mk 221 z_cl z_tyl (z_stl .null) z_ws 191) = true := by decide +kernel
theorem zc_191 : zr_191.all (z_chkR z_my z_mb z_mk 221 z_cl z_tyl (z_stl .null) z_ws 191) = true := z_aap zc_191_0 (zc_191_1)
theorem zc_192 : zr_192.all (z_chkR z_my z_mb z_mk 221 z_cl z_tyl (z_stl .null) z_ws 192) = true := by decide +kernel
theorem zc_193_0 : zr_193_0.all (z_chkR z_my z_mb z_mk 221 z_cl z_tyl (z_stl .null) z_ws 193) = true := by decide +kernel
theorem zc_193_1 : zr_193_1.all (z_chkR z_my z_mb z_mk 221 z_cl z_tyl (z_stl .null) z_ws 193) = true := by decide +kernel
theorem zc_193_2 : zr_193_2.all (z_chkR z_my z_mb z_mk 221 z_cl z_tyl (z_stl .null) z_ws 193) = true := by decide +kernel
theorem zc_193 : zr_193.all (z_chkR z_my z_mb z_mk 221 z_cl z_tyl (z_stl .null) z_ws 193) = true := z_aap zc_193_0 (z_aap zc_193_1 (zc_193_2))
theorem zc_194_0 : zr_194_0.all (z_chkR z_my z_mb z_mk 221 z_cl z_tyl (z_stl .null) z_ws 194) = true := by decide +kernel
theorem zc_194_1 : zr_194_1.all (z_chkR z_my z_mb z_mk 221 z_cl z_tyl (z_stl .null) z_ws 194) = true := by decide +kernel
theorem zc_194_2 : zr_194_2.all (z_chkR z_my z_mb z_mk 221 z_cl z_tyl (z_stl .null) z_ws 194) = true := by decide +kernel
theorem zc_194 : zr_194.all (z_chkR z_my z_mb z_mk 221 z_cl z_tyl (z_stl .null) z_ws 194) = true := z_aap zc_194_0 (z_aap zc_194_1 (zc_194_2))
theorem zc_195_0 : zr_195_0.all (z_chkR z_my z_mb z_mk 221 z_cl z_tyl (z_stl .null) z_ws 195) = true := by decide +kernel
theorem zc_195_1 : zr_195_1.all (z_chkR z_my z_mb z_mk 221 z_cl z_tyl (z_stl .null) z_ws 195) = true := by decide +kernel
theorem zc_195 : zr_195.all (z_chkR z_my z_mb z_mk 221 z_cl z_tyl (z_stl .null) z_ws 195) = true := z_aap zc_195_0 (zc_195_1)
theorem zc_196 : zr_196.all (z_chkR z_my z_mb z_mk 221 z_cl z_tyl (z_stl .null) z_ws 196) = true := by decide +kernel
theorem zc_197 : zr_197.all (z_chkR z_my z_mb z_mk 221 z_cl z_tyl (z_stl .null) z_ws 197) = true := by decide +kernel
theorem zc_198_0 : zr_198_0.all (z_chkR z_my z_mb z_mk 221 z_cl z_tyl (z_stl .null) z_ws 198) = true := by decide +kernel
theorem zc_198_1 : zr_198_1.all (z_chkR z_my z_mb z_mk 221 z_cl z_tyl (z_stl .null) z_ws 198) = true := by decide +kernel
theorem zc_198 : zr_198.all (z_chkR z_my z_mb z_mk 221 z_cl z_tyl (z_stl .null) z_ws 198) = true := z_aap zc_198_0 (zc_198_1)
theorem zc_199 : zr_199.all (z_chkR z_my z_mb z_mk 221 z_cl z_tyl (z_stl .null) z_ws 199) = true := by decide +kernel
theorem zc_200 : zr_200.all (z_chkR z_my z_mb z_mk 221 z_cl z_tyl (z_stl .null) z_ws 200) = true := by decide +kernel
theorem zc_201_0 : zr_201_0.all (z_chkR z_my z_mb z_mk 221 z_cl z_tyl (z_stl .null) z_ws 201) = true := by decide +kernel
theorem zc_201_1 : zr_201_1.all (z_chkR z_my z_mb z_mk 221 z_cl z_tyl (z_stl .null) z_ws 201) = true := by decide +kernel
theorem zc_201 : zr_201.all (z_chkR z_my z_mb z_mk 221 z_cl z_tyl (z_stl .null) z_ws 201) = true := z_aap zc_201_0 (zc_201_1)
theorem zc_202 : zr_202.all (z_chkR z_my z_mb z_mk 221 z_cl z_tyl (z_stl .null) z_ws 202) = true := by decide +kernel
theorem zc_203 : zr_203.all (z_chkR z_my z_mb z_mk 221 z_cl z_tyl (z_stl .null) z_ws 203) = true := by decide +kernel
theorem zc_204 : zr_204.all (z_chkR z_my z_mb z_mk 221 z_cl z_tyl (z_stl .null) z_ws 204) = true := by decide +kernel
theorem zc_205_0 : zr_205_0.all (z_chkR z_my z_mb z_mk 221 z_cl z_tyl (z_stl .null) z_ws 205) = true := by decide +kernel
theorem zc_205_1 : zr_205_1.all (z_chkR z_my z_mb z_mk 221 z_cl z_tyl (z_stl .null) z_ws 205) = true := by decide +kernel
theorem zc_205_2 : zr_205_2.all (z_chkR z_my z_mb z_mk 221 z_cl z_tyl (z_stl .null) z_ws 205) = true := by decide +kernel
theorem zc_205 : zr_205.all (z_chkR z_my z_mb z_mk 221 z_cl z_tyl (z_stl .null) z_ws 205) = true := z_aap zc_205_0 (z_aap zc_205_1 (zc_205_2))
theorem zc_206 : zr_206.all (z_chkR z_my z_mb z_mk 221 z_cl z_tyl (z_stl .null) z_ws 206) = true := by decide +kernel
theorem zc_207 : zr_207.all (z_chkR z_my z_mb z_mk 221 z_cl z_tyl (z_stl .null) z_ws 207) = true := by decide +kernel
theorem zc_208 : zr_208.all (z_chkR z_my z_mb z_mk 221 z_cl z_tyl (z_stl .null) z_ws 208) = true := by decide +kernel
theorem zc_209 : zr_209.all (z_chkR z_my z_mb z_mk 221 z_cl z_tyl (z_stl .null) z_ws 209) = true := by decide +kernel
theorem zc_210 : zr_210.all (z_chkR z_my z_mb z_mk 221 z_cl z_tyl (z_stl .null) z_ws 210) = true := by decide +kernel
theorem zc_211 : zr_211.all (z_chkR z_my z_mb z_mk 221 z_cl z_tyl (z_stl .null) z_ws 211) = true := by decide +kernel
theorem zc_212_0 : zr_212_0.all (z_chkR z_my z_mb z_mk 221 z_cl z_tyl (z_stl .null) z_ws 212) = true := by decide +kernel
theorem zc_212_1 : zr_212_1.all (z_chkR z_my z_mb z_mk 221 z_cl z_tyl (z_stl .null) z_ws 212) = true := by decide +kernel
theorem zc_212 : zr_212.all (z_chkR z_my z_mb z_mk 221 z_cl z_tyl (z_stl .null) z_ws 212) = true := z_aap zc_212_0 (zc_212_1)
theorem zc_213 : zr_213.all (z_chkR z_my z_mb z_mk 221 z_cl z_tyl (z_stl .null) z_ws 213) = true := by decide +kernel
theorem zc_214_0 : zr_214_0.all (z_chkR z_my z_mb z_mk 221 z_cl z_tyl (z_stl .null) z_ws 214) = true := by decide +kernel
theorem zc_214_1 : zr_214_1.all (z_chkR z_my z_mb z_mk 221 z_cl z_tyl (z_stl .null) z_ws 214) = true := by decide +kernel
theorem zc_214_2 : zr_214_2.all (z_chkR z_my z_mb z_mk 221 z_cl z_tyl (z_stl .null) z_ws 214) = true := by decide +kernel
theorem zc_214 : zr_214.all (z_chkR z_my z_mb z_mk 221 z_cl z_tyl (z_stl .null) z_ws 214) = true := z_aap zc_214_0 (z_aap zc_214_1 (zc_214_2))
theorem zc_215 : zr_215.all (z_chkR z_my z_mb z_mk 221 z_cl z_tyl (z_stl .null) z_ws 215) = true := by decide +kernel
theorem zc_216_0 : zr_216_0.all (z_chkR z_my z_mb z_mk 221 z_cl z_tyl (z_stl .null) z_ws 216) = true := by decide +kernel
theorem zc_216_1 : zr_216_1.all (z_chkR z_my z_mb z_mk 221 z_cl z_tyl (z_stl .null) z_ws 216) = true := by decide +kernel
theorem zc_216_2 : zr_216_2.all (z_chkR z_my z_mb z_mk 221 z_cl z_tyl (z_stl .null) z_ws 216) = true := by decide +kernel
theorem zc_216 : zr_216.all (z_chkR z_my z_mb z_mk 221 z_cl z_tyl (z_stl .null) z_ws 216) = true := z_aap zc_216_0 (z_aap zc_216_1 (zc_216_2))
theorem zc_217_0 : zr_217_0.all (z_chkR z_my z_mb z_mk 221 z_cl z_tyl (z_stl .null) z_ws 217) = true := by decide +kernel
theorem zc_217_1 : zr_217_1.all (z_chkR z_my z_mb z_mk 221 z_cl z_tyl (z_stl .null) z_ws 217) = true := by decide +kernel
theorem zc_217_2 : zr_217_2.all (z_chkR z_my z_mb z_mk 221 z_cl z_tyl (z_stl .null) z_ws 217) = true := by decide +kernel
theorem zc_217_3 : zr_217_3.all (z_chkR z_my z_mb z_mk 221 z_cl z_tyl (z_stl .null) z_ws 217) = true := by decide +kernel
theorem zc_217 : zr_217.all (z_chkR z_my z_mb z_mk 221 z_cl z_tyl (z_stl .null) z_ws 217) = true := z_aap zc_217_0 (z_aap zc_217_1 (z_aap zc_217_2 (zc_217_3)))
theorem zc_218 : zr_218.all (z_chkR z_my z_mb z_mk 221 z_cl z_tyl (z_stl .null) z_ws 218) = true := by decide +kernel
theorem zc_219 : zr_219.all (z_chkR z_my z_mb z_mk 221 z_cl z_tyl (z_stl .null) z_ws 219) = true := by decide +kernel
theorem zc_220 : zr_220.all (z_chkR z_my z_mb z_mk 221 z_cl z_tyl (z_stl .null) z_ws 220) = true := by decide +kernel
