/-! PART 56: the class's methods; constants -/
set_option maxRecDepth 20000 in
theorem rp_97 : am_prog[97]? = some (am_m97, am_t97) := rfl
set_option maxRecDepth 20000 in
theorem rp_98 : am_prog[98]? = some (am_m98, am_t98) := rfl
set_option maxRecDepth 20000 in
theorem rp_99 : am_prog[99]? = some (am_m99, am_t99) := rfl
set_option maxRecDepth 20000 in
theorem rp_100 : am_prog[100]? = some (am_m100, am_t100) := rfl
set_option maxRecDepth 20000 in
theorem rp_101 : am_prog[101]? = some (am_m101, am_t101) := rfl
set_option maxRecDepth 20000 in
theorem rp_102 : am_prog[102]? = some (am_m102, am_t102) := rfl
set_option maxRecDepth 20000 in
theorem rp_103 : am_prog[103]? = some (am_m103, am_t103) := rfl
set_option maxRecDepth 20000 in
theorem rp_104 : am_prog[104]? = some (am_m104, am_t104) := rfl
set_option maxRecDepth 20000 in
theorem rp_105 : am_prog[105]? = some (am_m105, am_t105) := rfl
set_option maxRecDepth 20000 in
theorem rp_106 : am_prog[106]? = some (am_m106, am_t106) := rfl
set_option maxRecDepth 20000 in
theorem rp_107 : am_prog[107]? = some (am_m107, am_t107) := rfl
set_option maxRecDepth 20000 in
theorem rp_108 : am_prog[108]? = some (am_m108, am_t108) := rfl
set_option maxRecDepth 20000 in
theorem rp_109 : am_prog[109]? = some (am_m109, am_t109) := rfl
set_option maxRecDepth 20000 in
theorem rp_110 : am_prog[110]? = some (am_m110, am_t110) := rfl
set_option maxRecDepth 20000 in
theorem rp_111 : am_prog[111]? = some (am_m111, am_t111) := rfl
set_option maxRecDepth 20000 in
theorem rp_112 : am_prog[112]? = some (am_m112, am_t112) := rfl
set_option maxRecDepth 20000 in
theorem rp_113 : am_prog[113]? = some (am_m113, am_t113) := rfl
set_option maxRecDepth 20000 in
theorem rp_114 : am_prog[114]? = some (am_m114, am_t114) := rfl
set_option maxRecDepth 20000 in
theorem rp_115 : am_prog[115]? = some (am_m115, am_t115) := rfl
set_option maxRecDepth 20000 in
theorem rp_116 : am_prog[116]? = some (am_m116, am_t116) := rfl
set_option maxRecDepth 20000 in
theorem rp_117 : am_prog[117]? = some (am_m117, am_t117) := rfl
set_option maxRecDepth 20000 in
theorem rp_123 : am_prog[123]? = some (am_m123, am_t123) := rfl
set_option maxRecDepth 20000 in
theorem rp_125 : am_prog[125]? = some (am_m125, am_t125) := rfl
set_option maxRecDepth 20000 in
theorem rp_126 : am_prog[126]? = some (am_m126, am_t126) := rfl
set_option maxRecDepth 20000 in
theorem rp_127 : am_prog[127]? = some (am_m127, am_t127) := rfl
set_option maxRecDepth 20000 in
theorem rp_128 : am_prog[128]? = some (am_m128, am_t128) := rfl
set_option maxRecDepth 20000 in
theorem rp_129 : am_prog[129]? = some (am_m129, am_t129) := rfl
set_option maxRecDepth 20000 in
theorem rp_130 : am_prog[130]? = some (am_m130, am_t130) := rfl
set_option maxRecDepth 20000 in
theorem rp_131 : am_prog[131]? = some (am_m131, am_t131) := rfl
set_option maxRecDepth 20000 in
theorem rp_132 : am_prog[132]? = some (am_m132, am_t132) := rfl
set_option maxRecDepth 20000 in
theorem rp_133 : am_prog[133]? = some (am_m133, am_t133) := rfl
set_option maxRecDepth 20000 in
theorem rp_134 : am_prog[134]? = some (am_m134, am_t134) := rfl
set_option maxRecDepth 20000 in
theorem rp_135 : am_prog[135]? = some (am_m135, am_t135) := rfl
set_option maxRecDepth 20000 in
theorem rp_136 : am_prog[136]? = some (am_m136, am_t136) := rfl
set_option maxRecDepth 20000 in
theorem rp_137 : am_prog[137]? = some (am_m137, am_t137) := rfl
set_option maxRecDepth 20000 in
theorem rp_138 : am_prog[138]? = some (am_m138, am_t138) := rfl
set_option maxRecDepth 20000 in
theorem rp_139 : am_prog[139]? = some (am_m139, am_t139) := rfl
set_option maxRecDepth 20000 in
theorem rp_140 : am_prog[140]? = some (am_m140, am_t140) := rfl
set_option maxRecDepth 20000 in
theorem rp_141 : am_prog[141]? = some (am_m141, am_t141) := rfl
set_option maxRecDepth 20000 in
theorem rp_142 : am_prog[142]? = some (am_m142, am_t142) := rfl
set_option maxRecDepth 20000 in
theorem rp_144 : am_prog[144]? = some (am_m144, am_t144) := rfl
set_option maxRecDepth 20000 in
theorem rp_145 : am_prog[145]? = some (am_m145, am_t145) := rfl
set_option maxRecDepth 20000 in
theorem rp_146 : am_prog[146]? = some (am_m146, am_t146) := rfl
set_option maxRecDepth 20000 in
theorem rp_147 : am_prog[147]? = some (am_m147, am_t147) := rfl
set_option maxRecDepth 20000 in
theorem rp_148 : am_prog[148]? = some (am_m148, am_t148) := rfl
set_option maxRecDepth 20000 in
theorem rp_149 : am_prog[149]? = some (am_m149, am_t149) := rfl
set_option maxRecDepth 20000 in
theorem rp_150 : am_prog[150]? = some (am_m150, am_t150) := rfl
set_option maxRecDepth 20000 in
theorem rp_151 : am_prog[151]? = some (am_m151, am_t151) := rfl
set_option maxRecDepth 20000 in
theorem rp_152 : am_prog[152]? = some (am_m152, am_t152) := rfl
set_option maxRecDepth 20000 in
theorem rp_153 : am_prog[153]? = some (am_m153, am_t153) := rfl
set_option maxRecDepth 20000 in
theorem rp_154 : am_prog[154]? = some (am_m154, am_t154) := rfl
set_option maxRecDepth 20000 in
theorem rp_155 : am_prog[155]? = some (am_m155, am_t155) := rfl
set_option maxRecDepth 20000 in
theorem rp_156 : am_prog[156]? = some (am_m156, am_t156) := rfl
set_option maxRecDepth 20000 in
theorem rp_157 : am_prog[157]? = some (am_m157, am_t157) := rfl
set_option maxRecDepth 20000 in
theorem rp_158 : am_prog[158]? = some (am_m158, am_t158) := rfl
set_option maxRecDepth 20000 in
theorem rp_159 : am_prog[159]? = some (am_m159, am_t159) := rfl
set_option maxRecDepth 20000 in
theorem rp_160 : am_prog[160]? = some (am_m160, am_t160) := rfl
set_option maxRecDepth 20000 in
theorem rp_161 : am_prog[161]? = some (am_m161, am_t161) := rfl
set_option maxRecDepth 20000 in
theorem rp_162 : am_prog[162]? = some (am_m162, am_t162) := rfl
set_option maxRecDepth 20000 in
theorem rp_163 : am_prog[163]? = some (am_m163, am_t163) := rfl
set_option maxRecDepth 20000 in
theorem rp_164 : am_prog[164]? = some (am_m164, am_t164) := rfl
set_option maxRecDepth 20000 in
theorem rp_165 : am_prog[165]? = some (am_m165, am_t165) := rfl
set_option maxRecDepth 20000 in
theorem rp_166 : am_prog[166]? = some (am_m166, am_t166) := rfl
set_option maxRecDepth 20000 in
theorem rp_167 : am_prog[167]? = some (am_m167, am_t167) := rfl
set_option maxRecDepth 20000 in
theorem rp_168 : am_prog[168]? = some (am_m168, am_t168) := rfl
set_option maxRecDepth 20000 in
theorem rp_169 : am_prog[169]? = some (am_m169, am_t169) := rfl
set_option maxRecDepth 20000 in
theorem rp_170 : am_prog[170]? = some (am_m170, am_t170) := rfl
set_option maxRecDepth 20000 in
theorem rp_171 : am_prog[171]? = some (am_m171, am_t171) := rfl
set_option maxRecDepth 20000 in
theorem rp_172 : am_prog[172]? = some (am_m172, am_t172) := rfl
set_option maxRecDepth 20000 in
theorem rp_173 : am_prog[173]? = some (am_m173, am_t173) := rfl
set_option maxRecDepth 20000 in
theorem rp_174 : am_prog[174]? = some (am_m174, am_t174) := rfl
set_option maxRecDepth 20000 in
theorem rp_175 : am_prog[175]? = some (am_m175, am_t175) := rfl
set_option maxRecDepth 20000 in
theorem rp_176 : am_prog[176]? = some (am_m176, am_t176) := rfl
set_option maxRecDepth 20000 in
theorem rp_177 : am_prog[177]? = some (am_m177, am_t177) := rfl
set_option maxRecDepth 20000 in
theorem rp_178 : am_prog[178]? = some (am_m178, am_t178) := rfl
set_option maxRecDepth 20000 in
theorem rp_179 : am_prog[179]? = some (am_m179, am_t179) := rfl
set_option maxRecDepth 20000 in
theorem rp_180 : am_prog[180]? = some (am_m180, am_t180) := rfl
set_option maxRecDepth 20000 in
theorem rp_181 : am_prog[181]? = some (am_m181, am_t181) := rfl
set_option maxRecDepth 20000 in
theorem rp_182 : am_prog[182]? = some (am_m182, am_t182) := rfl
set_option maxRecDepth 20000 in
theorem rp_183 : am_prog[183]? = some (am_m183, am_t183) := rfl
set_option maxRecDepth 20000 in
theorem rp_184 : am_prog[184]? = some (am_m184, am_t184) := rfl
set_option maxRecDepth 20000 in
theorem rp_185 : am_prog[185]? = some (am_m185, am_t185) := rfl
set_option maxRecDepth 20000 in
theorem rp_186 : am_prog[186]? = some (am_m186, am_t186) := rfl
set_option maxRecDepth 20000 in
theorem rp_187 : am_prog[187]? = some (am_m187, am_t187) := rfl
set_option maxRecDepth 20000 in
theorem rp_188 : am_prog[188]? = some (am_m188, am_t188) := rfl
set_option maxRecDepth 20000 in
theorem rp_189 : am_prog[189]? = some (am_m189, am_t189) := rfl
set_option maxRecDepth 20000 in
theorem rp_190 : am_prog[190]? = some (am_m190, am_t190) := rfl
set_option maxRecDepth 20000 in
theorem rp_191 : am_prog[191]? = some (am_m191, am_t191) := rfl
set_option maxRecDepth 20000 in
theorem rp_192 : am_prog[192]? = some (am_m192, am_t192) := rfl
set_option maxRecDepth 20000 in
theorem rp_193 : am_prog[193]? = some (am_m193, am_t193) := rfl
set_option maxRecDepth 20000 in
theorem rp_194 : am_prog[194]? = some (am_m194, am_t194) := rfl
set_option maxRecDepth 20000 in
theorem rp_195 : am_prog[195]? = some (am_m195, am_t195) := rfl
set_option maxRecDepth 20000 in
theorem rp_196 : am_prog[196]? = some (am_m196, am_t196) := rfl
set_option maxRecDepth 20000 in
theorem rp_197 : am_prog[197]? = some (am_m197, am_t197) := rfl
set_option maxRecDepth 20000 in
theorem rp_198 : am_prog[198]? = some (am_m198, am_t198) := rfl
set_option maxRecDepth 20000 in
theorem rp_199 : am_prog[199]? = some (am_m199, am_t199) := rfl
set_option maxRecDepth 20000 in
theorem rp_200 : am_prog[200]? = some (am_m200, am_t200) := rfl
set_option maxRecDepth 20000 in
theorem rp_201 : am_prog[201]? = some (am_m201, am_t201) := rfl
set_option maxRecDepth 20000 in
theorem rp_202 : am_prog[202]? = some (am_m202, am_t202) := rfl
set_option maxRecDepth 20000 in
theorem rp_203 : am_prog[203]? = some (am_m203, am_t203) := rfl
set_option maxRecDepth 20000 in
theorem rp_204 : am_prog[204]? = some (am_m204, am_t204) := rfl
set_option maxRecDepth 20000 in
theorem rp_205 : am_prog[205]? = some (am_m205, am_t205) := rfl
set_option maxRecDepth 20000 in
theorem rp_206 : am_prog[206]? = some (am_m206, am_t206) := rfl
set_option maxRecDepth 20000 in
theorem rp_207 : am_prog[207]? = some (am_m207, am_t207) := rfl
set_option maxRecDepth 20000 in
theorem rp_208 : am_prog[208]? = some (am_m208, am_t208) := rfl
set_option maxRecDepth 20000 in
theorem rp_209 : am_prog[209]? = some (am_m209, am_t209) := rfl
set_option maxRecDepth 20000 in
theorem rp_210 : am_prog[210]? = some (am_m210, am_t210) := rfl
set_option maxRecDepth 20000 in
theorem rp_211 : am_prog[211]? = some (am_m211, am_t211) := rfl
set_option maxRecDepth 20000 in
theorem rp_212 : am_prog[212]? = some (am_m212, am_t212) := rfl
set_option maxRecDepth 20000 in
theorem rp_213 : am_prog[213]? = some (am_m213, am_t213) := rfl
set_option maxRecDepth 20000 in
theorem rp_214 : am_prog[214]? = some (am_m214, am_t214) := rfl
set_option maxRecDepth 20000 in
theorem rp_215 : am_prog[215]? = some (am_m215, am_t215) := rfl
set_option maxRecDepth 20000 in
theorem rp_216 : am_prog[216]? = some (am_m216, am_t216) := rfl
set_option maxRecDepth 20000 in
theorem rp_217 : am_prog[217]? = some (am_m217, am_t217) := rfl
set_option maxRecDepth 20000 in
theorem rp_218 : am_prog[218]? = some (am_m218, am_t218) := rfl
set_option maxRecDepth 20000 in
theorem rp_219 : am_prog[219]? = some (am_m219, am_t219) := rfl
set_option maxRecDepth 20000 in
theorem rp_220 : am_prog[220]? = some (am_m220, am_t220) := rfl
set_option maxRecDepth 20000 in
theorem rp_221 : am_prog[221]? = some (am_m221, am_t221) := rfl
set_option maxRecDepth 20000 in
theorem rp_222 : am_prog[222]? = some (am_m222, am_t222) := rfl
set_option maxRecDepth 20000 in
theorem rp_223 : am_prog[223]? = some (am_m223, am_t223) := rfl
set_option maxRecDepth 20000 in
theorem rp_224 : am_prog[224]? = some (am_m224, am_t224) := rfl
set_option maxRecDepth 20000 in
theorem rp_225 : am_prog[225]? = some (am_m225, am_t225) := rfl
set_option maxRecDepth 20000 in
theorem rp_226 : am_prog[226]? = some (am_m226, am_t226) := rfl
set_option maxRecDepth 20000 in
theorem rp_227 : am_prog[227]? = some (am_m227, am_t227) := rfl
set_option maxRecDepth 20000 in
theorem rp_228 : am_prog[228]? = some (am_m228, am_t228) := rfl
set_option maxRecDepth 20000 in
theorem rp_229 : am_prog[229]? = some (am_m229, am_t229) := rfl
set_option maxRecDepth 20000 in
theorem rp_230 : am_prog[230]? = some (am_m230, am_t230) := rfl
set_option maxRecDepth 20000 in
theorem rp_231 : am_prog[231]? = some (am_m231, am_t231) := rfl
set_option maxRecDepth 20000 in
theorem rp_232 : am_prog[232]? = some (am_m232, am_t232) := rfl
set_option maxRecDepth 20000 in
theorem rp_233 : am_prog[233]? = some (am_m233, am_t233) := rfl
set_option maxRecDepth 20000 in
theorem rp_234 : am_prog[234]? = some (am_m234, am_t234) := rfl
set_option maxRecDepth 20000 in
theorem rp_235 : am_prog[235]? = some (am_m235, am_t235) := rfl
set_option maxRecDepth 20000 in
theorem rp_236 : am_prog[236]? = some (am_m236, am_t236) := rfl
set_option maxRecDepth 20000 in
theorem rp_237 : am_prog[237]? = some (am_m237, am_t237) := rfl
set_option maxRecDepth 20000 in
theorem rp_238 : am_prog[238]? = some (am_m238, am_t238) := rfl
set_option maxRecDepth 20000 in
theorem rp_239 : am_prog[239]? = some (am_m239, am_t239) := rfl
set_option maxRecDepth 20000 in
theorem rp_240 : am_prog[240]? = some (am_m240, am_t240) := rfl
set_option maxRecDepth 20000 in
theorem rp_241 : am_prog[241]? = some (am_m241, am_t241) := rfl
set_option maxRecDepth 20000 in
theorem rp_242 : am_prog[242]? = some (am_m242, am_t242) := rfl
set_option maxRecDepth 20000 in
theorem rp_243 : am_prog[243]? = some (am_m243, am_t243) := rfl
set_option maxRecDepth 20000 in
theorem rp_244 : am_prog[244]? = some (am_m244, am_t244) := rfl
set_option maxRecDepth 20000 in
theorem rp_245 : am_prog[245]? = some (am_m245, am_t245) := rfl
set_option maxRecDepth 20000 in
theorem rp_246 : am_prog[246]? = some (am_m246, am_t246) := rfl
set_option maxRecDepth 20000 in
theorem rp_247 : am_prog[247]? = some (am_m247, am_t247) := rfl
set_option maxRecDepth 20000 in
theorem rp_248 : am_prog[248]? = some (am_m248, am_t248) := rfl
set_option maxRecDepth 20000 in
theorem rp_249 : am_prog[249]? = some (am_m249, am_t249) := rfl
set_option maxRecDepth 20000 in
theorem rp_250 : am_prog[250]? = some (am_m250, am_t250) := rfl
set_option maxRecDepth 20000 in
theorem rp_251 : am_prog[251]? = some (am_m251, am_t251) := rfl
set_option maxRecDepth 20000 in
theorem rp_252 : am_prog[252]? = some (am_m252, am_t252) := rfl
set_option maxRecDepth 20000 in
theorem rp_253 : am_prog[253]? = some (am_m253, am_t253) := rfl
set_option maxRecDepth 20000 in
theorem rp_254 : am_prog[254]? = some (am_m254, am_t254) := rfl
set_option maxRecDepth 20000 in
theorem rp_255 : am_prog[255]? = some (am_m255, am_t255) := rfl
set_option maxRecDepth 20000 in
theorem rp_256 : am_prog[256]? = some (am_m256, am_t256) := rfl
set_option maxRecDepth 20000 in
theorem rp_257 : am_prog[257]? = some (am_m257, am_t257) := rfl
set_option maxRecDepth 20000 in
theorem rp_258 : am_prog[258]? = some (am_m258, am_t258) := rfl
set_option maxRecDepth 20000 in
theorem rp_259 : am_prog[259]? = some (am_m259, am_t259) := rfl
set_option maxRecDepth 20000 in
theorem rp_260 : am_prog[260]? = some (am_m260, am_t260) := rfl
set_option maxRecDepth 20000 in
theorem rp_261 : am_prog[261]? = some (am_m261, am_t261) := rfl
set_option maxRecDepth 20000 in
theorem rp_262 : am_prog[262]? = some (am_m262, am_t262) := rfl
set_option maxRecDepth 20000 in
theorem rp_263 : am_prog[263]? = some (am_m263, am_t263) := rfl
set_option maxRecDepth 20000 in
theorem rp_264 : am_prog[264]? = some (am_m264, am_t264) := rfl
set_option maxRecDepth 20000 in
theorem rp_265 : am_prog[265]? = some (am_m265, am_t265) := rfl
set_option maxRecDepth 20000 in
theorem rp_266 : am_prog[266]? = some (am_m266, am_t266) := rfl
set_option maxRecDepth 20000 in
theorem rp_267 : am_prog[267]? = some (am_m267, am_t267) := rfl
set_option maxRecDepth 20000 in
theorem rp_268 : am_prog[268]? = some (am_m268, am_t268) := rfl
set_option maxRecDepth 20000 in
theorem rp_269 : am_prog[269]? = some (am_m269, am_t269) := rfl
set_option maxRecDepth 20000 in
theorem rp_278 : am_prog[278]? = some (am_m278, am_t278) := rfl
theorem rc_s1980 : (Int16.ofInt 1980).toInt32 = (1980 : Int32) := by decide
theorem rc_b13 : (Int8.ofInt 13).toInt32 = (13 : Int32) := by decide
theorem rc_b14 : (Int8.ofInt 14).toInt32 = (14 : Int32) := by decide
theorem rc_b15 : (Int8.ofInt 15).toInt32 = (15 : Int32) := by decide
theorem rc_b19 : (Int8.ofInt 19).toInt32 = (19 : Int32) := by decide
theorem rc_n1000000 : Int32.ofNat 1000000 = (1000000 : Int32) := by decide
theorem rc_l0 : Int64.ofNat 0 = (0 : Int64) := by decide
theorem rc_l1 : Int64.ofNat 1 = (1 : Int64) := by decide
theorem rc_l10 : Int64.ofNat 10 = (10 : Int64) := by decide
theorem rc_l16777215 : Int64.ofNat 16777215 = (16777215 : Int64) := by decide
theorem rc_l255 : Int64.ofNat 255 = (255 : Int64) := by decide
